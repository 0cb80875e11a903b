section
def wX2_sum_20 (la : Int32) (re : Int32) (a1 : Int32) : Nat → Int32 → Int32 → (Nat → TR) → Int32 × (Nat → TR) × Int32
  | 0, kk, dn, sp9 => (0, sp9, re)
  | n + 1, kk, dn, sp9 => if la ≤ kk then ((v_X2_actOnCard sp9 re a1.toNatClampNeg dn).1, (v_X2_actOnCard sp9 re a1.toNatClampNeg dn).2.1, (v_X2_actOnCard sp9 re a1.toNatClampNeg dn).2.2) else (if dn = 0 then ((v_X2_actOnCard sp9 re a1.toNatClampNeg dn).1, (v_X2_actOnCard sp9 re a1.toNatClampNeg dn).2.1, (v_X2_actOnCard sp9 re a1.toNatClampNeg dn).2.2) else (wX2_sum_20 la re a1 n (kk + 1) (v_X1_putSum sp9 12 12 (4 + kk.toNatClampNeg)).1 (v_X1_putSum sp9 12 12 (4 + kk.toNatClampNeg)).2))
def v_X2_sum (sp : Nat → TR) (la : Int32) (re : Int32) (a1 : Int32) : Int32 × (Nat → TR) × Int32 := wX2_sum_20 la re a1 ((la.toInt - (0 : Int32).toInt).toNat + 1) 0 (v_X1_put sp 12 0 0 0).1 (v_X1_put sp 12 0 0 0).2
def x_X2_sum (a1 : Int32) : Option String := xo (x_X2_cardAt a1) none
set_option maxHeartbeats 4000000 in
set_option maxRecDepth 100000 in
theorem c_X2_sum (l : Launch) (hfl : l.stackTraces = false) (g : GG) (N : Nat) (ad : Nat → Nat) (x : Nat → va_E) (sp dy : Nat → TR) (la kn re : Int32) (hN : 23 ≤ N) (hla : ¬ la < 0) (hlb : ¬ 8 < la) (a1 : Int32) : XI l yX2_sum cX2_sum 5 (some .int) (rm 3 1 6) g [.ref (ad 0), .int a1] N ad (cf g ad x sp dy la kn re) N (fun E => x_X2_sum a1 = some E) (fun r ad' f' => ad = ad' ∧ x_X2_sum a1 = none ∧ (v_X2_sum sp la re a1).1 = r ∧ (cf g ad x (v_X2_sum sp la re a1).2.1 dy la kn (v_X2_sum sp la re a1).2.2) = f') := by
  intro sz
  refine mx_start (by decide) (Nat.le_of_ble_eq_true rfl) ?_
  intro p e s m args below meth c hsz X hr hex hA hK hT H locs B ls hl
  obtain ⟨hx, hb, hml, hown, hts, hlocks⟩ := id X
  have hl : lv_has ls 5 [(0, .ref (ad 0)), (1, .int a1)] := hl
  refine lv_aload_n hx hb dX2_sum_0 rfl (lv_at hl 0 rfl) ?_
  refine lv_iload_n hx hb dX2_sum_1 rfl (lv_at hl 1 rfl) ?_
  refine k_xr (k := 1) (n := 6) hex X hsz hA B (ux_V (rest := []) X (c_X2_cardAt l hfl g N ad x sp dy la kn re hN a1 H.size) mw_X2_cardAt md_X2_cardAt rfl lk_X2_37 ⟨Nat.le_of_ble_eq_true rfl, Nat.le_of_ble_eq_true rfl⟩ hA hK hT B (pl_c hN 0 (by decide)) cf_0 rfl rfl hl.1 rfl (Nat.le_of_ble_eq_true rfl) dX2_sum_2 ⟨Nat.le_of_ble_eq_true rfl, Nat.le_of_ble_eq_true rfl⟩) (Nat.le_of_ble_eq_true rfl) (Nat.le_of_ble_eq_true rfl) (Nat.le_of_ble_eq_true rfl) (Nat.le_of_ble_eq_true rfl) (fun E hE => by unfold x_X2_sum; rw [xo_some hE]) (fun r ad' f' H locs hw B => ?_)
  obtain ⟨rfl, x1, rfl, rfl⟩ := hw
  refine lv_astore_n (lv' := [(2, .ref (ad (4 + a1.toNatClampNeg))), (0, .ref (ad 0)), (1, .int a1)]) hx hb dX2_sum_5 rfl hl (by decide) rfl (fun ls hl => ?_)
  refine lv_aload_n hx hb dX2_sum_6 rfl (lv_at hl 1 rfl) ?_
  refine g_get (q := 0) (k := 6) X hK B rfl in_X2 (pl_c hN 0 (by decide)) cf_0 (by decide) lk_X2_25 rfl rfl dX2_sum_7 ?_
  refine lv_lconst (v := 0) hx hb dX2_sum_10 (by decide) ?_
  refine lv_lconst (v := 0) hx hb dX2_sum_11 (by decide) ?_
  refine lv_lconst (v := 0) hx hb dX2_sum_12 (by decide) ?_
  refine k_i (k := 1) (n := 6) hA B (u_VN (rest := []) X (c_X1_put l g N ad x sp dy la kn re hN 12 (by decide) 0 0 0 H.size) mw_X1_put md_X1_put rfl lk_X2_41 ⟨Nat.le_of_ble_eq_true rfl, Nat.le_of_ble_eq_true rfl⟩ hA hK hT B (pl_sp hN (by decide)) (cf_sp (by decide)) rfl rfl hl.1 rfl (Nat.le_of_ble_eq_true rfl) dX2_sum_13 ⟨Nat.le_of_ble_eq_true rfl, Nat.le_of_ble_eq_true rfl⟩) (Nat.le_of_ble_eq_true rfl) (Nat.le_of_ble_eq_true rfl) (fun r ad' f' H locs hw B => ?_)
  obtain ⟨rfl, rfl, rfl⟩ := hw
  refine lv_istore_n (lv' := [(3, .int (v_X1_put sp 12 0 0 0).1), (2, .ref (ad (4 + a1.toNatClampNeg))), (0, .ref (ad 0)), (1, .int a1)]) hx hb dX2_sum_16 rfl hl (by decide) rfl (fun ls hl => ?_)
  refine lv_iconst (v := 0) hx hb dX2_sum_17 (by decide) ?_
  refine lv_istore (lv' := [(4, .int 0), (3, .int (v_X1_put sp 12 0 0 0).1), (2, .ref (ad (4 + a1.toNatClampNeg))), (0, .ref (ad 0)), (1, .int a1)]) hx hb dX2_sum_18 hl (by decide) rfl (fun ls hl => ?_)
  have hxn : x_X2_sum a1 = none := by unfold x_X2_sum; rw [xo_none x1]
  have loop2 : ∀ (n2 : Nat) (kk : Int32) (dn : Int32) (sp9 : Nat → TR) (H : Heap) (locs : List Loc), (la.toInt - kk.toInt).toNat < n2 → v_X2_sum sp la re a1 = wX2_sum_20 la re a1 n2 kk dn sp9 → ¬ kk < 0 → WB g (aw N ad sz) s.heap N ad (cf g ad x sp9 dy la kn re) H locs → ∀ ls : Array Slot, lv_has ls 5 [(4, .int kk), (3, .int dn), (2, .ref (ad (4 + a1.toNatClampNeg))), (0, .ref (ad 0)), (1, .int a1)] → W p l e (rm 3 1 6) s m args below meth c H locs 1 6 (vx_MQ below (va_Qi (fun r (u : WS) => (fun r ad' f' => ad = ad' ∧ x_X2_sum a1 = none ∧ (v_X2_sum sp la re a1).1 = r ∧ (cf g ad x (v_X2_sum sp la re a1).2.1 dy la kn (v_X2_sum sp la re a1).2.2) = f') r u.1 u.2) (fun u t => PO g N u.1 u.2 (aw N ad sz) t) (aw N ad sz)) (XS g N ad (cf g ad x sp dy la kn re) sz (fun E => x_X2_sum a1 = some E)) args s (rm 3 1 6).cells (rm 3 1 6).slots (aw N ad sz)) (F0 m 20 ls []) := by
    intro n2
    induction n2 with
    | zero => intro kk dn sp9 H locs hn; exact absurd hn (Nat.not_lt_zero _)
    | succ n2 ih2 =>
      intro kk dn sp9 H locs hn2 he2 hk0 B ls hl
      refine lv_iload hx hb dX2_sum_20 (lv_at hl 0 rfl) ?_
      refine lv_aload_n hx hb dX2_sum_22 rfl (lv_at hl 3 rfl) ?_
      refine g_get (q := 0) (k := 3) X hK B rfl in_X2 (pl_c hN 0 (by decide)) cf_0 (by decide) lk_X2_91 rfl rfl dX2_sum_23 ?_
      refine lv_icmp_ge (tgt := 58) hx hb dX2_sum_26 (by decide) (fun c3 => ?_) (fun c3 => ?_)
      · refine lv_aload_n hx hb dX2_sum_58 rfl (lv_at hl 3 rfl) ?_
        refine lv_aload_n hx hb dX2_sum_59 rfl (lv_at hl 2 rfl) ?_
        refine lv_iload_n hx hb dX2_sum_60 rfl (lv_at hl 1 rfl) ?_
        refine k_i (k := 1) (n := 6) hA B (u_V (rest := []) X (c_X2_actOnCard l g N ad x sp9 dy la kn re hN a1.toNatClampNeg (Nat.lt_of_lt_of_le (xl_X2_cardAt x1) (by decide)) dn H.size) mw_X2_actOnCard md_X2_actOnCard rfl lk_X2_45 ⟨Nat.le_of_ble_eq_true rfl, Nat.le_of_ble_eq_true rfl⟩ hA hK hT B (pl_c hN 0 (by decide)) cf_0 rfl rfl hl.1 rfl (Nat.le_of_ble_eq_true rfl) dX2_sum_61 ⟨Nat.le_of_ble_eq_true rfl, Nat.le_of_ble_eq_true rfl⟩) (Nat.le_of_ble_eq_true rfl) (Nat.le_of_ble_eq_true rfl) (fun r ad' f' H locs hw B => ?_)
        obtain ⟨rfl, rfl, rfl⟩ := hw
        have ev := (show v_X2_sum sp la re a1 = ((v_X2_actOnCard sp9 re a1.toNatClampNeg dn).1, (v_X2_actOnCard sp9 re a1.toNatClampNeg dn).2.1, (v_X2_actOnCard sp9 re a1.toNatClampNeg dn).2.2) from he2.trans (by rw [wX2_sum_20, if_pos c3]))
        exact vx_ret (rt_i X hr (ad, (cf g ad x (v_X2_actOnCard sp9 re a1.toNatClampNeg dn).2.1 dy la kn (v_X2_actOnCard sp9 re a1.toNatClampNeg dn).2.2)) B (PO_of B) ⟨rfl, hxn, by rw [ev], by rw [ev]⟩ rfl (Nat.le_of_ble_eq_true rfl) (Nat.le_of_ble_eq_true rfl) dX2_sum_64)
      · refine lv_iload_n hx hb dX2_sum_29 rfl (lv_at hl 1 rfl) ?_
        refine lv_if_eq (tgt := 58) hx hb dX2_sum_30 (by decide) (fun c4 => ?_) (fun c4 => ?_)
        · refine lv_aload_n hx hb dX2_sum_58 rfl (lv_at hl 3 rfl) ?_
          refine lv_aload_n hx hb dX2_sum_59 rfl (lv_at hl 2 rfl) ?_
          refine lv_iload_n hx hb dX2_sum_60 rfl (lv_at hl 1 rfl) ?_
          refine k_i (k := 1) (n := 6) hA B (u_V (rest := []) X (c_X2_actOnCard l g N ad x sp9 dy la kn re hN a1.toNatClampNeg (Nat.lt_of_lt_of_le (xl_X2_cardAt x1) (by decide)) dn H.size) mw_X2_actOnCard md_X2_actOnCard rfl lk_X2_45 ⟨Nat.le_of_ble_eq_true rfl, Nat.le_of_ble_eq_true rfl⟩ hA hK hT B (pl_c hN 0 (by decide)) cf_0 rfl rfl hl.1 rfl (Nat.le_of_ble_eq_true rfl) dX2_sum_61 ⟨Nat.le_of_ble_eq_true rfl, Nat.le_of_ble_eq_true rfl⟩) (Nat.le_of_ble_eq_true rfl) (Nat.le_of_ble_eq_true rfl) (fun r ad' f' H locs hw B => ?_)
          obtain ⟨rfl, rfl, rfl⟩ := hw
          have ev := (show v_X2_sum sp la re a1 = ((v_X2_actOnCard sp9 re a1.toNatClampNeg dn).1, (v_X2_actOnCard sp9 re a1.toNatClampNeg dn).2.1, (v_X2_actOnCard sp9 re a1.toNatClampNeg dn).2.2) from he2.trans (by rw [wX2_sum_20, if_neg c3, if_pos c4]))
          exact vx_ret (rt_i X hr (ad, (cf g ad x (v_X2_actOnCard sp9 re a1.toNatClampNeg dn).2.1 dy la kn (v_X2_actOnCard sp9 re a1.toNatClampNeg dn).2.2)) B (PO_of B) ⟨rfl, hxn, by rw [ev], by rw [ev]⟩ rfl (Nat.le_of_ble_eq_true rfl) (Nat.le_of_ble_eq_true rfl) dX2_sum_64)
        · refine lv_aload_n hx hb dX2_sum_33 rfl (lv_at hl 3 rfl) ?_
          refine g_get (q := 0) (k := 6) X hK B rfl in_X2 (pl_c hN 0 (by decide)) cf_0 (by decide) lk_X2_25 rfl rfl dX2_sum_34 ?_
          refine lv_aload_n hx hb dX2_sum_37 rfl (lv_at hl 3 rfl) ?_
          refine g_get (q := 0) (k := 6) X hK B rfl in_X2 (pl_c hN 0 (by decide)) cf_0 (by decide) lk_X2_25 rfl rfl dX2_sum_38 ?_
          refine lv_aload_n hx hb dX2_sum_41 rfl (lv_at hl 3 rfl) ?_
          refine g_get (q := 0) (k := 1) X hK B rfl in_X2 (pl_c hN 0 (by decide)) cf_0 (by decide) lk_X2_15 rfl rfl dX2_sum_42 ?_
          refine lv_iload hx hb dX2_sum_45 (lv_at hl 0 rfl) ?_
          refine g_aald (q := 2) (t0 := 3) X hK B (pl_c hN 2 (by decide)) cf_2 rfl rfl (ix_in (n := 8) hk0 (le_tr c3 hlb) rfl) dX2_sum_47 ?_
          have h5 : 4 + kk.toNatClampNeg < 14 := by have := (ix_lt (n := 8) hk0 (le_tr c3 hlb) rfl); omega
          rw [show va_rf (some (ad (8 + kk.toNatClampNeg))) = Value.ref (ad (4 + (4 + kk.toNatClampNeg))) from by rw [← Nat.add_assoc]; rfl]
          refine k_i (k := 1) (n := 6) hA B (u_VN (rest := []) X (c_X1_putSum l g N ad x sp9 dy la kn re hN 12 (by decide) 12 (by decide) (4 + kk.toNatClampNeg) h5 H.size) mw_X1_putSum md_X1_putSum rfl lk_X2_73 ⟨Nat.le_of_ble_eq_true rfl, Nat.le_of_ble_eq_true rfl⟩ hA hK hT B (pl_sp hN (by decide)) (cf_sp (by decide)) rfl rfl hl.1 rfl (Nat.le_of_ble_eq_true rfl) dX2_sum_48 ⟨Nat.le_of_ble_eq_true rfl, Nat.le_of_ble_eq_true rfl⟩) (Nat.le_of_ble_eq_true rfl) (Nat.le_of_ble_eq_true rfl) (fun r ad' f' H locs hw B => ?_)
          obtain ⟨rfl, rfl, rfl⟩ := hw
          refine lv_istore_n (lv' := [(3, .int (v_X1_putSum sp9 12 12 (4 + kk.toNatClampNeg)).1), (4, .int kk), (2, .ref (ad (4 + a1.toNatClampNeg))), (0, .ref (ad 0)), (1, .int a1)]) hx hb dX2_sum_51 rfl hl (by decide) rfl (fun ls hl => ?_)
          refine lv_iinc (v := kk + 1) (lv' := [(4, .int (kk + 1)), (3, .int (v_X1_putSum sp9 12 12 (4 + kk.toNatClampNeg)).1), (2, .ref (ad (4 + a1.toNatClampNeg))), (0, .ref (ad 0)), (1, .int a1)]) hx hb dX2_sum_52 hl (k := 1) rfl rfl (by decide) rfl (fun ls hl => ?_)
          refine lv_goto (tgt := 20) hx hb dX2_sum_55 (by decide) ?_
          exact ih2 (kk + 1) (v_X1_putSum sp9 12 12 (4 + kk.toNatClampNeg)).1 (v_X1_putSum sp9 12 12 (4 + kk.toNatClampNeg)).2 H locs (fu_le c3 hn2) (show v_X2_sum sp la re a1 = wX2_sum_20 la re a1 n2 (kk + 1) (v_X1_putSum sp9 12 12 (4 + kk.toNatClampNeg)).1 (v_X1_putSum sp9 12 12 (4 + kk.toNatClampNeg)).2 from he2.trans (by rw [wX2_sum_20, if_neg c3, if_neg c4])) (inc_nn hk0 c3) B ls (lv_sub hl [0, 1, 2, 3, 4] rfl)
  exact loop2 ((la.toInt - (0 : Int32).toInt).toNat + 1) 0 (v_X1_put sp 12 0 0 0).1 (v_X1_put sp 12 0 0 0).2 H locs (Nat.lt_succ_self _) (show v_X2_sum sp la re a1 = wX2_sum_20 la re a1 ((la.toInt - (0 : Int32).toInt).toNat + 1) 0 (v_X1_put sp 12 0 0 0).1 (v_X1_put sp 12 0 0 0).2 from rfl) (by decide) B ls hl
def v_X2_part (sp : Nat → TR) (a1 : Int32) (a2 : Int32) : Int32 := (v_X1_number sp a1.toNatClampNeg a2)
def x_X2_part (a1 : Int32) (a2 : Int32) : Option String := xo (x_X2_cardAt a1) (xo (x_X2_checkWhat a2 3) none)
set_option maxHeartbeats 4000000 in
set_option maxRecDepth 100000 in
theorem c_X2_part (l : Launch) (hfl : l.stackTraces = false) (g : GG) (N : Nat) (ad : Nat → Nat) (x : Nat → va_E) (sp dy : Nat → TR) (la kn re : Int32) (hN : 23 ≤ N) (a1 : Int32) (a2 : Int32) : XI l yX2_part cX2_part 4 (some .int) (rm 2 2 12) g [.ref (ad 0), .int a1, .int a2] N ad (cf g ad x sp dy la kn re) N (fun E => x_X2_part a1 a2 = some E) (fun r ad' f' => ad = ad' ∧ x_X2_part a1 a2 = none ∧ (v_X2_part sp a1 a2) = r ∧ (cf g ad x sp dy la kn re) = f') := by
  intro sz
  refine mx_start (by decide) (Nat.le_of_ble_eq_true rfl) ?_
  intro p e s m args below meth c hsz X hr hex hA hK hT H locs B ls hl
  obtain ⟨hx, hb, hml, hown, hts, hlocks⟩ := id X
  have hl : lv_has ls 4 [(0, .ref (ad 0)), (1, .int a1), (2, .int a2)] := hl
  refine lv_aload_n hx hb dX2_part_0 rfl (lv_at hl 0 rfl) ?_
  refine lv_iload_n hx hb dX2_part_1 rfl (lv_at hl 1 rfl) ?_
  refine k_xr (k := 1) (n := 6) hex X hsz hA B (ux_V (rest := []) X (c_X2_cardAt l hfl g N ad x sp dy la kn re hN a1 H.size) mw_X2_cardAt md_X2_cardAt rfl lk_X2_37 ⟨Nat.le_of_ble_eq_true rfl, Nat.le_of_ble_eq_true rfl⟩ hA hK hT B (pl_c hN 0 (by decide)) cf_0 rfl rfl hl.1 rfl (Nat.le_of_ble_eq_true rfl) dX2_part_2 ⟨Nat.le_of_ble_eq_true rfl, Nat.le_of_ble_eq_true rfl⟩) (Nat.le_of_ble_eq_true rfl) (Nat.le_of_ble_eq_true rfl) (Nat.le_of_ble_eq_true rfl) (Nat.le_of_ble_eq_true rfl) (fun E hE => by unfold x_X2_part; rw [xo_some hE]) (fun r ad' f' H locs hw B => ?_)
  obtain ⟨rfl, x1, rfl, rfl⟩ := hw
  refine lv_astore_n (lv' := [(3, .ref (ad (4 + a1.toNatClampNeg))), (0, .ref (ad 0)), (1, .int a1), (2, .int a2)]) hx hb dX2_part_5 rfl hl (by decide) rfl (fun ls hl => ?_)
  refine lv_iload_n hx hb dX2_part_6 rfl (lv_at hl 3 rfl) ?_
  refine lv_iconst (v := 3) hx hb dX2_part_7 (by decide) ?_
  refine k_xv (k := 2) (n := 12) hex X hsz hA B (ux_S (rest := []) X (c_X2_checkWhat l hfl g N ad x sp dy la kn re hN a2 3 H.size) mw_X2_checkWhat md_X2_checkWhat rfl lk_X2_51 ⟨Nat.le_of_ble_eq_true rfl, Nat.le_of_ble_eq_true rfl⟩ hA hK hT B hl.1 rfl (Nat.le_of_ble_eq_true rfl) dX2_part_8 ⟨Nat.le_of_ble_eq_true rfl, Nat.le_of_ble_eq_true rfl⟩) (Nat.le_of_ble_eq_true rfl) (Nat.le_of_ble_eq_true rfl) (Nat.le_of_ble_eq_true rfl) (Nat.le_of_ble_eq_true rfl) (fun E hE => by unfold x_X2_part; rw [xo_none x1, xo_some hE]) (fun ad' f' H locs hw B => ?_)
  obtain ⟨rfl, x2, rfl⟩ := hw
  refine lv_aload_n hx hb dX2_part_11 rfl (lv_at hl 0 rfl) ?_
  refine lv_iload_n hx hb dX2_part_12 rfl (lv_at hl 3 rfl) ?_
  refine k_i (k := 2) (n := 12) hA B (u_VN (rest := []) X (c_X1_number l g N ad x sp dy la kn re hN a1.toNatClampNeg (Nat.lt_of_lt_of_le (xl_X2_cardAt x1) (by decide)) a2 H.size) mw_X1_number md_X1_number rfl lk_X2_104 ⟨Nat.le_of_ble_eq_true rfl, Nat.le_of_ble_eq_true rfl⟩ hA hK hT B (pl_sp hN (Nat.lt_of_lt_of_le (xl_X2_cardAt x1) (by decide))) (cf_sp (Nat.lt_of_lt_of_le (xl_X2_cardAt x1) (by decide))) rfl rfl hl.1 rfl (Nat.le_of_ble_eq_true rfl) dX2_part_13 ⟨Nat.le_of_ble_eq_true rfl, Nat.le_of_ble_eq_true rfl⟩) (Nat.le_of_ble_eq_true rfl) (Nat.le_of_ble_eq_true rfl) (fun r ad' f' H locs hw B => ?_)
  obtain ⟨rfl, rfl, rfl⟩ := hw
  have ev := (show v_X2_part sp a1 a2 = (v_X1_number sp a1.toNatClampNeg a2) from rfl)
  exact vx_ret (rt_i X hr (ad, (cf g ad x sp dy la kn re)) B (PO_of B) ⟨rfl, by unfold x_X2_part; rw [xo_none x1, xo_none x2], by rw [ev], rfl⟩ rfl (Nat.le_of_ble_eq_true rfl) (Nat.le_of_ble_eq_true rfl) dX2_part_16)
def v_X2_isZero (sp : Nat → TR) (a1 : Int32) : Int32 := (v_X1_isNothing sp a1.toNatClampNeg)
def x_X2_isZero (a1 : Int32) : Option String := xo (x_X2_cardAt a1) none
theorem b01_X2_isZero {sp : Nat → TR} {a1 : Int32} : (v_X2_isZero sp a1) = 0 ∨ (v_X2_isZero sp a1) = 1 := by
  unfold v_X2_isZero
  exact b01_X1_isNothing
set_option maxHeartbeats 4000000 in
set_option maxRecDepth 100000 in
theorem c_X2_isZero (l : Launch) (hfl : l.stackTraces = false) (g : GG) (N : Nat) (ad : Nat → Nat) (x : Nat → va_E) (sp dy : Nat → TR) (la kn re : Int32) (hN : 23 ≤ N) (a1 : Int32) : XI l yX2_isZero cX2_isZero 2 (some .boolean) (rm 2 1 6) g [.ref (ad 0), .int a1] N ad (cf g ad x sp dy la kn re) N (fun E => x_X2_isZero a1 = some E) (fun r ad' f' => ad = ad' ∧ x_X2_isZero a1 = none ∧ (v_X2_isZero sp a1) = r ∧ (cf g ad x sp dy la kn re) = f') := by
  intro sz
  refine mx_start (by decide) (Nat.le_of_ble_eq_true rfl) ?_
  intro p e s m args below meth c hsz X hr hex hA hK hT H locs B ls hl
  obtain ⟨hx, hb, hml, hown, hts, hlocks⟩ := id X
  have hl : lv_has ls 2 [(0, .ref (ad 0)), (1, .int a1)] := hl
  refine lv_aload_n hx hb dX2_isZero_0 rfl (lv_at hl 0 rfl) ?_
  refine lv_iload_n hx hb dX2_isZero_1 rfl (lv_at hl 1 rfl) ?_
  refine k_xr (k := 1) (n := 6) hex X hsz hA B (ux_V (rest := []) X (c_X2_cardAt l hfl g N ad x sp dy la kn re hN a1 H.size) mw_X2_cardAt md_X2_cardAt rfl lk_X2_37 ⟨Nat.le_of_ble_eq_true rfl, Nat.le_of_ble_eq_true rfl⟩ hA hK hT B (pl_c hN 0 (by decide)) cf_0 rfl rfl hl.1 rfl (Nat.le_of_ble_eq_true rfl) dX2_isZero_2 ⟨Nat.le_of_ble_eq_true rfl, Nat.le_of_ble_eq_true rfl⟩) (Nat.le_of_ble_eq_true rfl) (Nat.le_of_ble_eq_true rfl) (Nat.le_of_ble_eq_true rfl) (Nat.le_of_ble_eq_true rfl) (fun E hE => by unfold x_X2_isZero; rw [xo_some hE]) (fun r ad' f' H locs hw B => ?_)
  obtain ⟨rfl, x1, rfl, rfl⟩ := hw
  refine k_i (k := 1) (n := 6) hA B (u_VN (rest := []) X (c_X1_isNothing l g N ad x sp dy la kn re hN a1.toNatClampNeg (Nat.lt_of_lt_of_le (xl_X2_cardAt x1) (by decide)) H.size) mw_X1_isNothing md_X1_isNothing rfl lk_X2_116 ⟨Nat.le_of_ble_eq_true rfl, Nat.le_of_ble_eq_true rfl⟩ hA hK hT B (pl_sp hN (Nat.lt_of_lt_of_le (xl_X2_cardAt x1) (by decide))) (cf_sp (Nat.lt_of_lt_of_le (xl_X2_cardAt x1) (by decide))) rfl rfl hl.1 rfl (Nat.le_of_ble_eq_true rfl) dX2_isZero_5 ⟨Nat.le_of_ble_eq_true rfl, Nat.le_of_ble_eq_true rfl⟩) (Nat.le_of_ble_eq_true rfl) (Nat.le_of_ble_eq_true rfl) (fun r ad' f' H locs hw B => ?_)
  obtain ⟨rfl, rfl, rfl⟩ := hw
  have ev := (show v_X2_isZero sp a1 = (v_X1_isNothing sp a1.toNatClampNeg) from rfl)
  exact vx_ret (rt_i X hr (ad, (cf g ad x sp dy la kn re)) B (PO_of B) ⟨rfl, by unfold x_X2_isZero; rw [xo_none x1], by rw [ev], rfl⟩ (nb_of b01_X1_isNothing) (Nat.le_of_ble_eq_true rfl) (Nat.le_of_ble_eq_true rfl) dX2_isZero_8)
def v_X2_isNegative (sp : Nat → TR) (a1 : Int32) : Int32 := (v_X1_isBelowZero sp a1.toNatClampNeg)
def x_X2_isNegative (a1 : Int32) : Option String := xo (x_X2_cardAt a1) none
theorem b01_X2_isNegative {sp : Nat → TR} {a1 : Int32} : (v_X2_isNegative sp a1) = 0 ∨ (v_X2_isNegative sp a1) = 1 := by
  unfold v_X2_isNegative
  exact b01_X1_isBelowZero
set_option maxHeartbeats 4000000 in
set_option maxRecDepth 100000 in
theorem c_X2_isNegative (l : Launch) (hfl : l.stackTraces = false) (g : GG) (N : Nat) (ad : Nat → Nat) (x : Nat → va_E) (sp dy : Nat → TR) (la kn re : Int32) (hN : 23 ≤ N) (a1 : Int32) : XI l yX2_isNegative cX2_isNegative 2 (some .boolean) (rm 2 1 6) g [.ref (ad 0), .int a1] N ad (cf g ad x sp dy la kn re) N (fun E => x_X2_isNegative a1 = some E) (fun r ad' f' => ad = ad' ∧ x_X2_isNegative a1 = none ∧ (v_X2_isNegative sp a1) = r ∧ (cf g ad x sp dy la kn re) = f') := by
  intro sz
  refine mx_start (by decide) (Nat.le_of_ble_eq_true rfl) ?_
  intro p e s m args below meth c hsz X hr hex hA hK hT H locs B ls hl
  obtain ⟨hx, hb, hml, hown, hts, hlocks⟩ := id X
  have hl : lv_has ls 2 [(0, .ref (ad 0)), (1, .int a1)] := hl
  refine lv_aload_n hx hb dX2_isNegative_0 rfl (lv_at hl 0 rfl) ?_
  refine lv_iload_n hx hb dX2_isNegative_1 rfl (lv_at hl 1 rfl) ?_
  refine k_xr (k := 1) (n := 6) hex X hsz hA B (ux_V (rest := []) X (c_X2_cardAt l hfl g N ad x sp dy la kn re hN a1 H.size) mw_X2_cardAt md_X2_cardAt rfl lk_X2_37 ⟨Nat.le_of_ble_eq_true rfl, Nat.le_of_ble_eq_true rfl⟩ hA hK hT B (pl_c hN 0 (by decide)) cf_0 rfl rfl hl.1 rfl (Nat.le_of_ble_eq_true rfl) dX2_isNegative_2 ⟨Nat.le_of_ble_eq_true rfl, Nat.le_of_ble_eq_true rfl⟩) (Nat.le_of_ble_eq_true rfl) (Nat.le_of_ble_eq_true rfl) (Nat.le_of_ble_eq_true rfl) (Nat.le_of_ble_eq_true rfl) (fun E hE => by unfold x_X2_isNegative; rw [xo_some hE]) (fun r ad' f' H locs hw B => ?_)
  obtain ⟨rfl, x1, rfl, rfl⟩ := hw
  refine k_i (k := 1) (n := 6) hA B (u_VN (rest := []) X (c_X1_isBelowZero l g N ad x sp dy la kn re hN a1.toNatClampNeg (Nat.lt_of_lt_of_le (xl_X2_cardAt x1) (by decide)) H.size) mw_X1_isBelowZero md_X1_isBelowZero rfl lk_X2_120 ⟨Nat.le_of_ble_eq_true rfl, Nat.le_of_ble_eq_true rfl⟩ hA hK hT B (pl_sp hN (Nat.lt_of_lt_of_le (xl_X2_cardAt x1) (by decide))) (cf_sp (Nat.lt_of_lt_of_le (xl_X2_cardAt x1) (by decide))) rfl rfl hl.1 rfl (Nat.le_of_ble_eq_true rfl) dX2_isNegative_5 ⟨Nat.le_of_ble_eq_true rfl, Nat.le_of_ble_eq_true rfl⟩) (Nat.le_of_ble_eq_true rfl) (Nat.le_of_ble_eq_true rfl) (fun r ad' f' H locs hw B => ?_)
  obtain ⟨rfl, rfl, rfl⟩ := hw
  have ev := (show v_X2_isNegative sp a1 = (v_X1_isBelowZero sp a1.toNatClampNeg) from rfl)
  exact vx_ret (rt_i X hr (ad, (cf g ad x sp dy la kn re)) B (PO_of B) ⟨rfl, by unfold x_X2_isNegative; rw [xo_none x1], by rw [ev], rfl⟩ (nb_of b01_X1_isBelowZero) (Nat.le_of_ble_eq_true rfl) (Nat.le_of_ble_eq_true rfl) dX2_isNegative_8)
def v_X2_areSame (sp : Nat → TR) (a1 : Int32) (a2 : Int32) : Int32 := (v_X1_isSameAs sp a1.toNatClampNeg a2.toNatClampNeg)
def x_X2_areSame (a1 : Int32) (a2 : Int32) : Option String := xo (x_X2_cardAt a1) (xo (x_X2_cardAt a2) none)
theorem b01_X2_areSame {sp : Nat → TR} {a1 : Int32} {a2 : Int32} : (v_X2_areSame sp a1 a2) = 0 ∨ (v_X2_areSame sp a1 a2) = 1 := by
  unfold v_X2_areSame
  exact b01_X1_isSameAs
set_option maxHeartbeats 4000000 in
set_option maxRecDepth 100000 in
theorem c_X2_areSame (l : Launch) (hfl : l.stackTraces = false) (g : GG) (N : Nat) (ad : Nat → Nat) (x : Nat → va_E) (sp dy : Nat → TR) (la kn re : Int32) (hN : 23 ≤ N) (a1 : Int32) (a2 : Int32) : XI l yX2_areSame cX2_areSame 3 (some .boolean) (rm 2 2 12) g [.ref (ad 0), .int a1, .int a2] N ad (cf g ad x sp dy la kn re) N (fun E => x_X2_areSame a1 a2 = some E) (fun r ad' f' => ad = ad' ∧ x_X2_areSame a1 a2 = none ∧ (v_X2_areSame sp a1 a2) = r ∧ (cf g ad x sp dy la kn re) = f') := by
  intro sz
  refine mx_start (by decide) (Nat.le_of_ble_eq_true rfl) ?_
  intro p e s m args below meth c hsz X hr hex hA hK hT H locs B ls hl
  obtain ⟨hx, hb, hml, hown, hts, hlocks⟩ := id X
  have hl : lv_has ls 3 [(0, .ref (ad 0)), (1, .int a1), (2, .int a2)] := hl
  refine lv_aload_n hx hb dX2_areSame_0 rfl (lv_at hl 0 rfl) ?_
  refine lv_iload_n hx hb dX2_areSame_1 rfl (lv_at hl 1 rfl) ?_
  refine k_xr (k := 1) (n := 6) hex X hsz hA B (ux_V (rest := []) X (c_X2_cardAt l hfl g N ad x sp dy la kn re hN a1 H.size) mw_X2_cardAt md_X2_cardAt rfl lk_X2_37 ⟨Nat.le_of_ble_eq_true rfl, Nat.le_of_ble_eq_true rfl⟩ hA hK hT B (pl_c hN 0 (by decide)) cf_0 rfl rfl hl.1 rfl (Nat.le_of_ble_eq_true rfl) dX2_areSame_2 ⟨Nat.le_of_ble_eq_true rfl, Nat.le_of_ble_eq_true rfl⟩) (Nat.le_of_ble_eq_true rfl) (Nat.le_of_ble_eq_true rfl) (Nat.le_of_ble_eq_true rfl) (Nat.le_of_ble_eq_true rfl) (fun E hE => by unfold x_X2_areSame; rw [xo_some hE]) (fun r ad' f' H locs hw B => ?_)
  obtain ⟨rfl, x1, rfl, rfl⟩ := hw
  refine lv_aload_n hx hb dX2_areSame_5 rfl (lv_at hl 0 rfl) ?_
  refine lv_iload_n hx hb dX2_areSame_6 rfl (lv_at hl 2 rfl) ?_
  refine k_xr (k := 2) (n := 12) hex X hsz hA B (ux_V (rest := [.ref (ad (4 + a1.toNatClampNeg))]) X (c_X2_cardAt l hfl g N ad x sp dy la kn re hN a2 H.size) mw_X2_cardAt md_X2_cardAt rfl lk_X2_37 ⟨Nat.le_of_ble_eq_true rfl, Nat.le_of_ble_eq_true rfl⟩ hA hK hT B (pl_c hN 0 (by decide)) cf_0 rfl rfl hl.1 rfl (Nat.le_of_ble_eq_true rfl) dX2_areSame_7 ⟨Nat.le_of_ble_eq_true rfl, Nat.le_of_ble_eq_true rfl⟩) (Nat.le_of_ble_eq_true rfl) (Nat.le_of_ble_eq_true rfl) (Nat.le_of_ble_eq_true rfl) (Nat.le_of_ble_eq_true rfl) (fun E hE => by unfold x_X2_areSame; rw [xo_none x1, xo_some hE]) (fun r ad' f' H locs hw B => ?_)
  obtain ⟨rfl, x2, rfl, rfl⟩ := hw
  refine k_i (k := 2) (n := 12) hA B (u_VN (rest := []) X (c_X1_isSameAs l g N ad x sp dy la kn re hN a1.toNatClampNeg (Nat.lt_of_lt_of_le (xl_X2_cardAt x1) (by decide)) a2.toNatClampNeg (Nat.lt_of_lt_of_le (xl_X2_cardAt x2) (by decide)) H.size) mw_X1_isSameAs md_X1_isSameAs rfl lk_X2_123 ⟨Nat.le_of_ble_eq_true rfl, Nat.le_of_ble_eq_true rfl⟩ hA hK hT B (pl_sp hN (Nat.lt_of_lt_of_le (xl_X2_cardAt x1) (by decide))) (cf_sp (Nat.lt_of_lt_of_le (xl_X2_cardAt x1) (by decide))) rfl rfl hl.1 rfl (Nat.le_of_ble_eq_true rfl) dX2_areSame_10 ⟨Nat.le_of_ble_eq_true rfl, Nat.le_of_ble_eq_true rfl⟩) (Nat.le_of_ble_eq_true rfl) (Nat.le_of_ble_eq_true rfl) (fun r ad' f' H locs hw B => ?_)
  obtain ⟨rfl, rfl, rfl⟩ := hw
  have ev := (show v_X2_areSame sp a1 a2 = (v_X1_isSameAs sp a1.toNatClampNeg a2.toNatClampNeg) from rfl)
  exact vx_ret (rt_i X hr (ad, (cf g ad x sp dy la kn re)) B (PO_of B) ⟨rfl, by unfold x_X2_areSame; rw [xo_none x1, xo_none x2], by rw [ev], rfl⟩ (nb_of b01_X1_isSameAs) (Nat.le_of_ble_eq_true rfl) (Nat.le_of_ble_eq_true rfl) dX2_areSame_13)
def v_X2_areAlike (sp : Nat → TR) (a1 : Int32) (a2 : Int32) : Int32 := (v_X1_isAlikeTo sp a1.toNatClampNeg a2.toNatClampNeg)
def x_X2_areAlike (a1 : Int32) (a2 : Int32) : Option String := xo (x_X2_cardAt a1) (xo (x_X2_cardAt a2) none)
theorem b01_X2_areAlike {sp : Nat → TR} {a1 : Int32} {a2 : Int32} : (v_X2_areAlike sp a1 a2) = 0 ∨ (v_X2_areAlike sp a1 a2) = 1 := by
  unfold v_X2_areAlike
  exact b01_X1_isAlikeTo
set_option maxHeartbeats 4000000 in
set_option maxRecDepth 100000 in
theorem c_X2_areAlike (l : Launch) (hfl : l.stackTraces = false) (g : GG) (N : Nat) (ad : Nat → Nat) (x : Nat → va_E) (sp dy : Nat → TR) (la kn re : Int32) (hN : 23 ≤ N) (a1 : Int32) (a2 : Int32) : XI l yX2_areAlike cX2_areAlike 3 (some .boolean) (rm 2 2 12) g [.ref (ad 0), .int a1, .int a2] N ad (cf g ad x sp dy la kn re) N (fun E => x_X2_areAlike a1 a2 = some E) (fun r ad' f' => ad = ad' ∧ x_X2_areAlike a1 a2 = none ∧ (v_X2_areAlike sp a1 a2) = r ∧ (cf g ad x sp dy la kn re) = f') := by
  intro sz
  refine mx_start (by decide) (Nat.le_of_ble_eq_true rfl) ?_
  intro p e s m args below meth c hsz X hr hex hA hK hT H locs B ls hl
  obtain ⟨hx, hb, hml, hown, hts, hlocks⟩ := id X
  have hl : lv_has ls 3 [(0, .ref (ad 0)), (1, .int a1), (2, .int a2)] := hl
  refine lv_aload_n hx hb dX2_areAlike_0 rfl (lv_at hl 0 rfl) ?_
  refine lv_iload_n hx hb dX2_areAlike_1 rfl (lv_at hl 1 rfl) ?_
  refine k_xr (k := 1) (n := 6) hex X hsz hA B (ux_V (rest := []) X (c_X2_cardAt l hfl g N ad x sp dy la kn re hN a1 H.size) mw_X2_cardAt md_X2_cardAt rfl lk_X2_37 ⟨Nat.le_of_ble_eq_true rfl, Nat.le_of_ble_eq_true rfl⟩ hA hK hT B (pl_c hN 0 (by decide)) cf_0 rfl rfl hl.1 rfl (Nat.le_of_ble_eq_true rfl) dX2_areAlike_2 ⟨Nat.le_of_ble_eq_true rfl, Nat.le_of_ble_eq_true rfl⟩) (Nat.le_of_ble_eq_true rfl) (Nat.le_of_ble_eq_true rfl) (Nat.le_of_ble_eq_true rfl) (Nat.le_of_ble_eq_true rfl) (fun E hE => by unfold x_X2_areAlike; rw [xo_some hE]) (fun r ad' f' H locs hw B => ?_)
  obtain ⟨rfl, x1, rfl, rfl⟩ := hw
  refine lv_aload_n hx hb dX2_areAlike_5 rfl (lv_at hl 0 rfl) ?_
  refine lv_iload_n hx hb dX2_areAlike_6 rfl (lv_at hl 2 rfl) ?_
  refine k_xr (k := 2) (n := 12) hex X hsz hA B (ux_V (rest := [.ref (ad (4 + a1.toNatClampNeg))]) X (c_X2_cardAt l hfl g N ad x sp dy la kn re hN a2 H.size) mw_X2_cardAt md_X2_cardAt rfl lk_X2_37 ⟨Nat.le_of_ble_eq_true rfl, Nat.le_of_ble_eq_true rfl⟩ hA hK hT B (pl_c hN 0 (by decide)) cf_0 rfl rfl hl.1 rfl (Nat.le_of_ble_eq_true rfl) dX2_areAlike_7 ⟨Nat.le_of_ble_eq_true rfl, Nat.le_of_ble_eq_true rfl⟩) (Nat.le_of_ble_eq_true rfl) (Nat.le_of_ble_eq_true rfl) (Nat.le_of_ble_eq_true rfl) (Nat.le_of_ble_eq_true rfl) (fun E hE => by unfold x_X2_areAlike; rw [xo_none x1, xo_some hE]) (fun r ad' f' H locs hw B => ?_)
  obtain ⟨rfl, x2, rfl, rfl⟩ := hw
  refine k_i (k := 2) (n := 12) hA B (u_VN (rest := []) X (c_X1_isAlikeTo l g N ad x sp dy la kn re hN a1.toNatClampNeg (Nat.lt_of_lt_of_le (xl_X2_cardAt x1) (by decide)) a2.toNatClampNeg (Nat.lt_of_lt_of_le (xl_X2_cardAt x2) (by decide)) H.size) mw_X1_isAlikeTo md_X1_isAlikeTo rfl lk_X2_126 ⟨Nat.le_of_ble_eq_true rfl, Nat.le_of_ble_eq_true rfl⟩ hA hK hT B (pl_sp hN (Nat.lt_of_lt_of_le (xl_X2_cardAt x1) (by decide))) (cf_sp (Nat.lt_of_lt_of_le (xl_X2_cardAt x1) (by decide))) rfl rfl hl.1 rfl (Nat.le_of_ble_eq_true rfl) dX2_areAlike_10 ⟨Nat.le_of_ble_eq_true rfl, Nat.le_of_ble_eq_true rfl⟩) (Nat.le_of_ble_eq_true rfl) (Nat.le_of_ble_eq_true rfl) (fun r ad' f' H locs hw B => ?_)
  obtain ⟨rfl, rfl, rfl⟩ := hw
  have ev := (show v_X2_areAlike sp a1 a2 = (v_X1_isAlikeTo sp a1.toNatClampNeg a2.toNatClampNeg) from rfl)
  exact vx_ret (rt_i X hr (ad, (cf g ad x sp dy la kn re)) B (PO_of B) ⟨rfl, by unfold x_X2_areAlike; rw [xo_none x1, xo_none x2], by rw [ev], rfl⟩ (nb_of b01_X1_isAlikeTo) (Nat.le_of_ble_eq_true rfl) (Nat.le_of_ble_eq_true rfl) dX2_areAlike_13)
def v_X2_date (dy : Nat → TR) (re : Int32) (a1 : Int32) (a2 : Int32) (a3 : Int32) (a4 : Int32) : Int32 × (Nat → TR) × Int32 := if (v_X2_isInCalendar a2 a3 a4) = 0 then (0, dy, re) else ((v_X2_actOnDate (v_X0_put dy 4 a2 a3 a4) re a1.toNatClampNeg 1).1, (v_X2_actOnDate (v_X0_put dy 4 a2 a3 a4) re a1.toNatClampNeg 1).2.1, (v_X2_actOnDate (v_X0_put dy 4 a2 a3 a4) re a1.toNatClampNeg 1).2.2)
def x_X2_date (a1 : Int32) (a2 : Int32) (a3 : Int32) (a4 : Int32) : Option String := xo (x_X2_dateAt a1) (if (v_X2_isInCalendar a2 a3 a4) = 0 then (some iaeN) else none)
set_option maxHeartbeats 4000000 in
set_option maxRecDepth 100000 in
theorem c_X2_date (l : Launch) (hfl : l.stackTraces = false) (g : GG) (N : Nat) (ad : Nat → Nat) (x : Nat → va_E) (sp dy : Nat → TR) (la kn re : Int32) (hN : 23 ≤ N) (a1 : Int32) (a2 : Int32) (a3 : Int32) (a4 : Int32) : XI l yX2_date cX2_date 6 (some .int) (rm 5 2 12) g [.ref (ad 0), .int a1, .int a2, .int a3, .int a4] N ad (cf g ad x sp dy la kn re) N (fun E => x_X2_date a1 a2 a3 a4 = some E) (fun r ad' f' => ad = ad' ∧ x_X2_date a1 a2 a3 a4 = none ∧ (v_X2_date dy re a1 a2 a3 a4).1 = r ∧ (cf g ad x sp (v_X2_date dy re a1 a2 a3 a4).2.1 la kn (v_X2_date dy re a1 a2 a3 a4).2.2) = f') := by
  intro sz
  refine mx_start (by decide) (Nat.le_of_ble_eq_true rfl) ?_
  intro p e s m args below meth c hsz X hr hex hA hK hT H locs B ls hl
  obtain ⟨hx, hb, hml, hown, hts, hlocks⟩ := id X
  have hl : lv_has ls 6 [(0, .ref (ad 0)), (1, .int a1), (2, .int a2), (3, .int a3), (4, .int a4)] := hl
  refine lv_aload_n hx hb dX2_date_0 rfl (lv_at hl 0 rfl) ?_
  refine lv_iload_n hx hb dX2_date_1 rfl (lv_at hl 1 rfl) ?_
  refine k_xr (k := 1) (n := 6) hex X hsz hA B (ux_V (rest := []) X (c_X2_dateAt l hfl g N ad x sp dy la kn re hN a1 H.size) mw_X2_dateAt md_X2_dateAt rfl lk_X2_140 ⟨Nat.le_of_ble_eq_true rfl, Nat.le_of_ble_eq_true rfl⟩ hA hK hT B (pl_c hN 0 (by decide)) cf_0 rfl rfl hl.1 rfl (Nat.le_of_ble_eq_true rfl) dX2_date_2 ⟨Nat.le_of_ble_eq_true rfl, Nat.le_of_ble_eq_true rfl⟩) (Nat.le_of_ble_eq_true rfl) (Nat.le_of_ble_eq_true rfl) (Nat.le_of_ble_eq_true rfl) (Nat.le_of_ble_eq_true rfl) (fun E hE => by unfold x_X2_date; rw [xo_some hE]) (fun r ad' f' H locs hw B => ?_)
  obtain ⟨rfl, x1, rfl, rfl⟩ := hw
  refine lv_astore (lv' := [(5, .ref (ad (18 + a1.toNatClampNeg))), (0, .ref (ad 0)), (1, .int a1), (2, .int a2), (3, .int a3), (4, .int a4)]) hx hb dX2_date_5 hl (by decide) rfl (fun ls hl => ?_)
  refine lv_iload_n hx hb dX2_date_7 rfl (lv_at hl 3 rfl) ?_
  refine lv_iload_n hx hb dX2_date_8 rfl (lv_at hl 4 rfl) ?_
  refine lv_iload hx hb dX2_date_9 (lv_at hl 5 rfl) ?_
  refine k_i (k := 1) (n := 6) hA B (u_S (rest := []) X (c_X2_isInCalendar l g N ad x sp dy la kn re hN a2 a3 a4 H.size) mw_X2_isInCalendar md_X2_isInCalendar rfl lk_X2_144 ⟨Nat.le_of_ble_eq_true rfl, Nat.le_of_ble_eq_true rfl⟩ hA hK hT B hl.1 rfl (Nat.le_of_ble_eq_true rfl) dX2_date_11 ⟨Nat.le_of_ble_eq_true rfl, Nat.le_of_ble_eq_true rfl⟩) (Nat.le_of_ble_eq_true rfl) (Nat.le_of_ble_eq_true rfl) (fun r ad' f' H locs hw B => ?_)
  obtain ⟨rfl, rfl, rfl⟩ := hw
  refine lv_if_ne (tgt := 27) hx hb dX2_date_14 (by decide) (fun c2 => ?_) (fun c2 => ?_)
  · refine lv_aload_n hx hb dX2_date_27 rfl (lv_at hl 1 rfl) ?_
    refine g_get (q := 0) (k := 8) X hK B rfl in_X2 (pl_c hN 0 (by decide)) cf_0 (by decide) lk_X2_33 rfl rfl dX2_date_28 ?_
    refine lv_iload_n hx hb dX2_date_31 rfl (lv_at hl 3 rfl) ?_
    refine lv_iload_n hx hb dX2_date_32 rfl (lv_at hl 4 rfl) ?_
    refine lv_iload hx hb dX2_date_33 (lv_at hl 5 rfl) ?_
    refine k_v (k := 1) (n := 6) hA B (u_VN (rest := []) X (c_X0_put l g N ad x sp dy la kn re hN 4 (by decide) a2 a3 a4 H.size) mw_X0_put md_X0_put rfl lk_X2_150 ⟨Nat.le_of_ble_eq_true rfl, Nat.le_of_ble_eq_true rfl⟩ hA hK hT B (pl_dy hN (by decide)) (cf_dy (by decide)) rfl rfl hl.1 rfl (Nat.le_of_ble_eq_true rfl) dX2_date_35 ⟨Nat.le_of_ble_eq_true rfl, Nat.le_of_ble_eq_true rfl⟩) (Nat.le_of_ble_eq_true rfl) (Nat.le_of_ble_eq_true rfl) (fun ad' f' H locs hw B => ?_)
    obtain ⟨rfl, rfl⟩ := hw
    refine lv_aload_n hx hb dX2_date_38 rfl (lv_at hl 1 rfl) ?_
    refine lv_aload hx hb dX2_date_39 (lv_at hl 0 rfl) ?_
    refine lv_iconst (v := 1) hx hb dX2_date_41 (by decide) ?_
    refine k_i (k := 1) (n := 6) hA B (u_V (rest := []) X (c_X2_actOnDate l g N ad x sp (v_X0_put dy 4 a2 a3 a4) la kn re hN a1.toNatClampNeg (Nat.lt_of_lt_of_le (xl_X2_dateAt x1) (by decide)) 1 H.size) mw_X2_actOnDate md_X2_actOnDate rfl lk_X2_153 ⟨Nat.le_of_ble_eq_true rfl, Nat.le_of_ble_eq_true rfl⟩ hA hK hT B (pl_c hN 0 (by decide)) cf_0 rfl rfl hl.1 rfl (Nat.le_of_ble_eq_true rfl) dX2_date_42 ⟨Nat.le_of_ble_eq_true rfl, Nat.le_of_ble_eq_true rfl⟩) (Nat.le_of_ble_eq_true rfl) (Nat.le_of_ble_eq_true rfl) (fun r ad' f' H locs hw B => ?_)
    obtain ⟨rfl, rfl, rfl⟩ := hw
    have ev := (show v_X2_date dy re a1 a2 a3 a4 = ((v_X2_actOnDate (v_X0_put dy 4 a2 a3 a4) re a1.toNatClampNeg 1).1, (v_X2_actOnDate (v_X0_put dy 4 a2 a3 a4) re a1.toNatClampNeg 1).2.1, (v_X2_actOnDate (v_X0_put dy 4 a2 a3 a4) re a1.toNatClampNeg 1).2.2) from by unfold v_X2_date; rw [if_neg c2])
    exact vx_ret (rt_i X hr (ad, (cf g ad x sp (v_X2_actOnDate (v_X0_put dy 4 a2 a3 a4) re a1.toNatClampNeg 1).2.1 la kn (v_X2_actOnDate (v_X0_put dy 4 a2 a3 a4) re a1.toNatClampNeg 1).2.2)) B (PO_of B) ⟨rfl, by unfold x_X2_date; rw [xo_none x1, if_neg c2], by rw [ev], by rw [ev]⟩ rfl (Nat.le_of_ble_eq_true rfl) (Nat.le_of_ble_eq_true rfl) dX2_date_45)
  · exact g_throw (cls := "java/lang/IllegalArgumentException") (names := ["java/lang/RuntimeException", "java/lang/Exception"]) (i := 8) X hfl (by decide) lk_X2_133 ii_java_lang_IllegalArgumentException (by decide) rfl at_X2_137 ag_X2_137 hex hsz hT B hl.1 dX2_date_17 dX2_date_20 dX2_date_21 dX2_date_23 dX2_date_26 (by decide) (Nat.le_of_ble_eq_true rfl) (Nat.le_of_ble_eq_true rfl) (Nat.le_of_ble_eq_true rfl) (by unfold x_X2_date; rw [xo_none x1, if_pos c2]; rfl) (Nat.le_of_ble_eq_true rfl) (Nat.le_of_ble_eq_true rfl)
def v_X2_copyDate (dy : Nat → TR) (re : Int32) (a1 : Int32) (a2 : Int32) : Int32 × (Nat → TR) × Int32 := ((v_X2_actOnDate (v_X0_putDay dy 4 a2.toNatClampNeg) re a1.toNatClampNeg 1).1, (v_X2_actOnDate (v_X0_putDay dy 4 a2.toNatClampNeg) re a1.toNatClampNeg 1).2.1, (v_X2_actOnDate (v_X0_putDay dy 4 a2.toNatClampNeg) re a1.toNatClampNeg 1).2.2)
def x_X2_copyDate (a1 : Int32) (a2 : Int32) : Option String := xo (x_X2_dateAt a1) (xo (x_X2_dateAt a2) none)
set_option maxHeartbeats 4000000 in
set_option maxRecDepth 100000 in
theorem c_X2_copyDate (l : Launch) (hfl : l.stackTraces = false) (g : GG) (N : Nat) (ad : Nat → Nat) (x : Nat → va_E) (sp dy : Nat → TR) (la kn re : Int32) (hN : 23 ≤ N) (a1 : Int32) (a2 : Int32) : XI l yX2_copyDate cX2_copyDate 4 (some .int) (rm 5 2 12) g [.ref (ad 0), .int a1, .int a2] N ad (cf g ad x sp dy la kn re) N (fun E => x_X2_copyDate a1 a2 = some E) (fun r ad' f' => ad = ad' ∧ x_X2_copyDate a1 a2 = none ∧ (v_X2_copyDate dy re a1 a2).1 = r ∧ (cf g ad x sp (v_X2_copyDate dy re a1 a2).2.1 la kn (v_X2_copyDate dy re a1 a2).2.2) = f') := by
  intro sz
  refine mx_start (by decide) (Nat.le_of_ble_eq_true rfl) ?_
  intro p e s m args below meth c hsz X hr hex hA hK hT H locs B ls hl
  obtain ⟨hx, hb, hml, hown, hts, hlocks⟩ := id X
  have hl : lv_has ls 4 [(0, .ref (ad 0)), (1, .int a1), (2, .int a2)] := hl
  refine lv_aload_n hx hb dX2_copyDate_0 rfl (lv_at hl 0 rfl) ?_
  refine lv_iload_n hx hb dX2_copyDate_1 rfl (lv_at hl 1 rfl) ?_
  refine k_xr (k := 1) (n := 6) hex X hsz hA B (ux_V (rest := []) X (c_X2_dateAt l hfl g N ad x sp dy la kn re hN a1 H.size) mw_X2_dateAt md_X2_dateAt rfl lk_X2_140 ⟨Nat.le_of_ble_eq_true rfl, Nat.le_of_ble_eq_true rfl⟩ hA hK hT B (pl_c hN 0 (by decide)) cf_0 rfl rfl hl.1 rfl (Nat.le_of_ble_eq_true rfl) dX2_copyDate_2 ⟨Nat.le_of_ble_eq_true rfl, Nat.le_of_ble_eq_true rfl⟩) (Nat.le_of_ble_eq_true rfl) (Nat.le_of_ble_eq_true rfl) (Nat.le_of_ble_eq_true rfl) (Nat.le_of_ble_eq_true rfl) (fun E hE => by unfold x_X2_copyDate; rw [xo_some hE]) (fun r ad' f' H locs hw B => ?_)
  obtain ⟨rfl, x1, rfl, rfl⟩ := hw
  refine lv_astore_n (lv' := [(3, .ref (ad (18 + a1.toNatClampNeg))), (0, .ref (ad 0)), (1, .int a1), (2, .int a2)]) hx hb dX2_copyDate_5 rfl hl (by decide) rfl (fun ls hl => ?_)
  refine lv_aload_n hx hb dX2_copyDate_6 rfl (lv_at hl 1 rfl) ?_
  refine g_get (q := 0) (k := 8) X hK B rfl in_X2 (pl_c hN 0 (by decide)) cf_0 (by decide) lk_X2_33 rfl rfl dX2_copyDate_7 ?_
  refine lv_aload_n hx hb dX2_copyDate_10 rfl (lv_at hl 1 rfl) ?_
  refine lv_iload_n hx hb dX2_copyDate_11 rfl (lv_at hl 3 rfl) ?_
  refine k_xr (k := 2) (n := 12) hex X hsz hA B (ux_V (rest := [.ref (ad (18 + 4))]) X (c_X2_dateAt l hfl g N ad x sp dy la kn re hN a2 H.size) mw_X2_dateAt md_X2_dateAt rfl lk_X2_140 ⟨Nat.le_of_ble_eq_true rfl, Nat.le_of_ble_eq_true rfl⟩ hA hK hT B (pl_c hN 0 (by decide)) cf_0 rfl rfl hl.1 rfl (Nat.le_of_ble_eq_true rfl) dX2_copyDate_12 ⟨Nat.le_of_ble_eq_true rfl, Nat.le_of_ble_eq_true rfl⟩) (Nat.le_of_ble_eq_true rfl) (Nat.le_of_ble_eq_true rfl) (Nat.le_of_ble_eq_true rfl) (Nat.le_of_ble_eq_true rfl) (fun E hE => by unfold x_X2_copyDate; rw [xo_none x1, xo_some hE]) (fun r ad' f' H locs hw B => ?_)
  obtain ⟨rfl, x2, rfl, rfl⟩ := hw
  refine k_v (k := 2) (n := 12) hA B (u_VN (rest := []) X (c_X0_putDay l g N ad x sp dy la kn re hN 4 (by decide) a2.toNatClampNeg (Nat.lt_of_lt_of_le (xl_X2_dateAt x2) (by decide)) H.size) mw_X0_putDay md_X0_putDay rfl lk_X2_157 ⟨Nat.le_of_ble_eq_true rfl, Nat.le_of_ble_eq_true rfl⟩ hA hK hT B (pl_dy hN (by decide)) (cf_dy (by decide)) rfl rfl hl.1 rfl (Nat.le_of_ble_eq_true rfl) dX2_copyDate_15 ⟨Nat.le_of_ble_eq_true rfl, Nat.le_of_ble_eq_true rfl⟩) (Nat.le_of_ble_eq_true rfl) (Nat.le_of_ble_eq_true rfl) (fun ad' f' H locs hw B => ?_)
  obtain ⟨rfl, rfl⟩ := hw
  refine lv_aload_n hx hb dX2_copyDate_18 rfl (lv_at hl 1 rfl) ?_
  refine lv_aload_n hx hb dX2_copyDate_19 rfl (lv_at hl 0 rfl) ?_
  refine lv_iconst (v := 1) hx hb dX2_copyDate_20 (by decide) ?_
  refine k_i (k := 2) (n := 12) hA B (u_V (rest := []) X (c_X2_actOnDate l g N ad x sp (v_X0_putDay dy 4 a2.toNatClampNeg) la kn re hN a1.toNatClampNeg (Nat.lt_of_lt_of_le (xl_X2_dateAt x1) (by decide)) 1 H.size) mw_X2_actOnDate md_X2_actOnDate rfl lk_X2_153 ⟨Nat.le_of_ble_eq_true rfl, Nat.le_of_ble_eq_true rfl⟩ hA hK hT B (pl_c hN 0 (by decide)) cf_0 rfl rfl hl.1 rfl (Nat.le_of_ble_eq_true rfl) dX2_copyDate_21 ⟨Nat.le_of_ble_eq_true rfl, Nat.le_of_ble_eq_true rfl⟩) (Nat.le_of_ble_eq_true rfl) (Nat.le_of_ble_eq_true rfl) (fun r ad' f' H locs hw B => ?_)
  obtain ⟨rfl, rfl, rfl⟩ := hw
  have ev := (show v_X2_copyDate dy re a1 a2 = ((v_X2_actOnDate (v_X0_putDay dy 4 a2.toNatClampNeg) re a1.toNatClampNeg 1).1, (v_X2_actOnDate (v_X0_putDay dy 4 a2.toNatClampNeg) re a1.toNatClampNeg 1).2.1, (v_X2_actOnDate (v_X0_putDay dy 4 a2.toNatClampNeg) re a1.toNatClampNeg 1).2.2) from rfl)
  exact vx_ret (rt_i X hr (ad, (cf g ad x sp (v_X2_actOnDate (v_X0_putDay dy 4 a2.toNatClampNeg) re a1.toNatClampNeg 1).2.1 la kn (v_X2_actOnDate (v_X0_putDay dy 4 a2.toNatClampNeg) re a1.toNatClampNeg 1).2.2)) B (PO_of B) ⟨rfl, by unfold x_X2_copyDate; rw [xo_none x1, xo_none x2], by rw [ev], by rw [ev]⟩ rfl (Nat.le_of_ble_eq_true rfl) (Nat.le_of_ble_eq_true rfl) dX2_copyDate_24)
def v_X2_move (sp : Nat → TR) (dy : Nat → TR) (re : Int32) (a1 : Int32) (a2 : Int32) : Int32 × (Nat → TR) × Int32 := ((v_X2_actOnDate (v_X2_reach sp dy a1.toNatClampNeg a2.toNatClampNeg 0).2 re a1.toNatClampNeg (v_X2_reach sp dy a1.toNatClampNeg a2.toNatClampNeg 0).1).1, (v_X2_actOnDate (v_X2_reach sp dy a1.toNatClampNeg a2.toNatClampNeg 0).2 re a1.toNatClampNeg (v_X2_reach sp dy a1.toNatClampNeg a2.toNatClampNeg 0).1).2.1, (v_X2_actOnDate (v_X2_reach sp dy a1.toNatClampNeg a2.toNatClampNeg 0).2 re a1.toNatClampNeg (v_X2_reach sp dy a1.toNatClampNeg a2.toNatClampNeg 0).1).2.2)
def x_X2_move (a1 : Int32) (a2 : Int32) : Option String := xo (x_X2_dateAt a1) (xo (x_X2_cardAt a2) none)
set_option maxHeartbeats 4000000 in
set_option maxRecDepth 100000 in
theorem c_X2_move (l : Launch) (hfl : l.stackTraces = false) (g : GG) (N : Nat) (ad : Nat → Nat) (x : Nat → va_E) (sp dy : Nat → TR) (la kn re : Int32) (hN : 23 ≤ N) (a1 : Int32) (a2 : Int32) : XI l yX2_move cX2_move 4 (some .int) (rm 5 2 12) g [.ref (ad 0), .int a1, .int a2] N ad (cf g ad x sp dy la kn re) N (fun E => x_X2_move a1 a2 = some E) (fun r ad' f' => ad = ad' ∧ x_X2_move a1 a2 = none ∧ (v_X2_move sp dy re a1 a2).1 = r ∧ (cf g ad x sp (v_X2_move sp dy re a1 a2).2.1 la kn (v_X2_move sp dy re a1 a2).2.2) = f') := by
  intro sz
  refine mx_start (by decide) (Nat.le_of_ble_eq_true rfl) ?_
  intro p e s m args below meth c hsz X hr hex hA hK hT H locs B ls hl
  obtain ⟨hx, hb, hml, hown, hts, hlocks⟩ := id X
  have hl : lv_has ls 4 [(0, .ref (ad 0)), (1, .int a1), (2, .int a2)] := hl
  refine lv_aload_n hx hb dX2_move_0 rfl (lv_at hl 0 rfl) ?_
  refine lv_iload_n hx hb dX2_move_1 rfl (lv_at hl 1 rfl) ?_
  refine k_xr (k := 1) (n := 6) hex X hsz hA B (ux_V (rest := []) X (c_X2_dateAt l hfl g N ad x sp dy la kn re hN a1 H.size) mw_X2_dateAt md_X2_dateAt rfl lk_X2_140 ⟨Nat.le_of_ble_eq_true rfl, Nat.le_of_ble_eq_true rfl⟩ hA hK hT B (pl_c hN 0 (by decide)) cf_0 rfl rfl hl.1 rfl (Nat.le_of_ble_eq_true rfl) dX2_move_2 ⟨Nat.le_of_ble_eq_true rfl, Nat.le_of_ble_eq_true rfl⟩) (Nat.le_of_ble_eq_true rfl) (Nat.le_of_ble_eq_true rfl) (Nat.le_of_ble_eq_true rfl) (Nat.le_of_ble_eq_true rfl) (fun E hE => by unfold x_X2_move; rw [xo_some hE]) (fun r ad' f' H locs hw B => ?_)
  obtain ⟨rfl, x1, rfl, rfl⟩ := hw
  refine lv_astore_n (lv' := [(3, .ref (ad (18 + a1.toNatClampNeg))), (0, .ref (ad 0)), (1, .int a1), (2, .int a2)]) hx hb dX2_move_5 rfl hl (by decide) rfl (fun ls hl => ?_)
  refine lv_aload_n hx hb dX2_move_6 rfl (lv_at hl 1 rfl) ?_
  refine lv_aload_n hx hb dX2_move_7 rfl (lv_at hl 0 rfl) ?_
  refine lv_aload_n hx hb dX2_move_8 rfl (lv_at hl 1 rfl) ?_
  refine lv_aload_n hx hb dX2_move_9 rfl (lv_at hl 0 rfl) ?_
  refine lv_aload_n hx hb dX2_move_10 rfl (lv_at hl 1 rfl) ?_
  refine lv_iload_n hx hb dX2_move_11 rfl (lv_at hl 3 rfl) ?_
  refine k_xr (k := 2) (n := 12) hex X hsz hA B (ux_V (rest := [.ref (ad (18 + a1.toNatClampNeg)), .ref (ad 0), .ref (ad (18 + a1.toNatClampNeg)), .ref (ad 0)]) X (c_X2_cardAt l hfl g N ad x sp dy la kn re hN a2 H.size) mw_X2_cardAt md_X2_cardAt rfl lk_X2_37 ⟨Nat.le_of_ble_eq_true rfl, Nat.le_of_ble_eq_true rfl⟩ hA hK hT B (pl_c hN 0 (by decide)) cf_0 rfl rfl hl.1 rfl (Nat.le_of_ble_eq_true rfl) dX2_move_12 ⟨Nat.le_of_ble_eq_true rfl, Nat.le_of_ble_eq_true rfl⟩) (Nat.le_of_ble_eq_true rfl) (Nat.le_of_ble_eq_true rfl) (Nat.le_of_ble_eq_true rfl) (Nat.le_of_ble_eq_true rfl) (fun E hE => by unfold x_X2_move; rw [xo_none x1, xo_some hE]) (fun r ad' f' H locs hw B => ?_)
  obtain ⟨rfl, x2, rfl, rfl⟩ := hw
  refine lv_iconst (v := 0) hx hb dX2_move_15 (by decide) ?_
  refine k_i (k := 2) (n := 12) hA B (u_V (rest := [.ref (ad (18 + a1.toNatClampNeg)), .ref (ad 0)]) X (c_X2_reach l g N ad x sp dy la kn re hN a1.toNatClampNeg (Nat.lt_of_lt_of_le (xl_X2_dateAt x1) (by decide)) a2.toNatClampNeg (Nat.lt_of_lt_of_le (xl_X2_cardAt x2) (by decide)) 0 H.size) mw_X2_reach md_X2_reach rfl lk_X2_161 ⟨Nat.le_of_ble_eq_true rfl, Nat.le_of_ble_eq_true rfl⟩ hA hK hT B (pl_c hN 0 (by decide)) cf_0 rfl rfl hl.1 rfl (Nat.le_of_ble_eq_true rfl) dX2_move_16 ⟨Nat.le_of_ble_eq_true rfl, Nat.le_of_ble_eq_true rfl⟩) (Nat.le_of_ble_eq_true rfl) (Nat.le_of_ble_eq_true rfl) (fun r ad' f' H locs hw B => ?_)
  obtain ⟨rfl, rfl, rfl⟩ := hw
  refine k_i (k := 2) (n := 12) hA B (u_V (rest := []) X (c_X2_actOnDate l g N ad x sp (v_X2_reach sp dy a1.toNatClampNeg a2.toNatClampNeg 0).2 la kn re hN a1.toNatClampNeg (Nat.lt_of_lt_of_le (xl_X2_dateAt x1) (by decide)) (v_X2_reach sp dy a1.toNatClampNeg a2.toNatClampNeg 0).1 H.size) mw_X2_actOnDate md_X2_actOnDate rfl lk_X2_153 ⟨Nat.le_of_ble_eq_true rfl, Nat.le_of_ble_eq_true rfl⟩ hA hK hT B (pl_c hN 0 (by decide)) cf_0 rfl rfl hl.1 rfl (Nat.le_of_ble_eq_true rfl) dX2_move_19 ⟨Nat.le_of_ble_eq_true rfl, Nat.le_of_ble_eq_true rfl⟩) (Nat.le_of_ble_eq_true rfl) (Nat.le_of_ble_eq_true rfl) (fun r ad' f' H locs hw B => ?_)
  obtain ⟨rfl, rfl, rfl⟩ := hw
  have ev := (show v_X2_move sp dy re a1 a2 = ((v_X2_actOnDate (v_X2_reach sp dy a1.toNatClampNeg a2.toNatClampNeg 0).2 re a1.toNatClampNeg (v_X2_reach sp dy a1.toNatClampNeg a2.toNatClampNeg 0).1).1, (v_X2_actOnDate (v_X2_reach sp dy a1.toNatClampNeg a2.toNatClampNeg 0).2 re a1.toNatClampNeg (v_X2_reach sp dy a1.toNatClampNeg a2.toNatClampNeg 0).1).2.1, (v_X2_actOnDate (v_X2_reach sp dy a1.toNatClampNeg a2.toNatClampNeg 0).2 re a1.toNatClampNeg (v_X2_reach sp dy a1.toNatClampNeg a2.toNatClampNeg 0).1).2.2) from rfl)
  exact vx_ret (rt_i X hr (ad, (cf g ad x sp (v_X2_actOnDate (v_X2_reach sp dy a1.toNatClampNeg a2.toNatClampNeg 0).2 re a1.toNatClampNeg (v_X2_reach sp dy a1.toNatClampNeg a2.toNatClampNeg 0).1).2.1 la kn (v_X2_actOnDate (v_X2_reach sp dy a1.toNatClampNeg a2.toNatClampNeg 0).2 re a1.toNatClampNeg (v_X2_reach sp dy a1.toNatClampNeg a2.toNatClampNeg 0).1).2.2)) B (PO_of B) ⟨rfl, by unfold x_X2_move; rw [xo_none x1, xo_none x2], by rw [ev], by rw [ev]⟩ rfl (Nat.le_of_ble_eq_true rfl) (Nat.le_of_ble_eq_true rfl) dX2_move_22)
def v_X2_back (sp : Nat → TR) (dy : Nat → TR) (re : Int32) (a1 : Int32) (a2 : Int32) : Int32 × (Nat → TR) × Int32 := ((v_X2_actOnDate (v_X2_reach sp dy a1.toNatClampNeg a2.toNatClampNeg 1).2 re a1.toNatClampNeg (v_X2_reach sp dy a1.toNatClampNeg a2.toNatClampNeg 1).1).1, (v_X2_actOnDate (v_X2_reach sp dy a1.toNatClampNeg a2.toNatClampNeg 1).2 re a1.toNatClampNeg (v_X2_reach sp dy a1.toNatClampNeg a2.toNatClampNeg 1).1).2.1, (v_X2_actOnDate (v_X2_reach sp dy a1.toNatClampNeg a2.toNatClampNeg 1).2 re a1.toNatClampNeg (v_X2_reach sp dy a1.toNatClampNeg a2.toNatClampNeg 1).1).2.2)
def x_X2_back (a1 : Int32) (a2 : Int32) : Option String := xo (x_X2_dateAt a1) (xo (x_X2_cardAt a2) none)
set_option maxHeartbeats 4000000 in
set_option maxRecDepth 100000 in
theorem c_X2_back (l : Launch) (hfl : l.stackTraces = false) (g : GG) (N : Nat) (ad : Nat → Nat) (x : Nat → va_E) (sp dy : Nat → TR) (la kn re : Int32) (hN : 23 ≤ N) (a1 : Int32) (a2 : Int32) : XI l yX2_back cX2_back 4 (some .int) (rm 5 2 12) g [.ref (ad 0), .int a1, .int a2] N ad (cf g ad x sp dy la kn re) N (fun E => x_X2_back a1 a2 = some E) (fun r ad' f' => ad = ad' ∧ x_X2_back a1 a2 = none ∧ (v_X2_back sp dy re a1 a2).1 = r ∧ (cf g ad x sp (v_X2_back sp dy re a1 a2).2.1 la kn (v_X2_back sp dy re a1 a2).2.2) = f') := by
  intro sz
  refine mx_start (by decide) (Nat.le_of_ble_eq_true rfl) ?_
  intro p e s m args below meth c hsz X hr hex hA hK hT H locs B ls hl
  obtain ⟨hx, hb, hml, hown, hts, hlocks⟩ := id X
  have hl : lv_has ls 4 [(0, .ref (ad 0)), (1, .int a1), (2, .int a2)] := hl
  refine lv_aload_n hx hb dX2_back_0 rfl (lv_at hl 0 rfl) ?_
  refine lv_iload_n hx hb dX2_back_1 rfl (lv_at hl 1 rfl) ?_
  refine k_xr (k := 1) (n := 6) hex X hsz hA B (ux_V (rest := []) X (c_X2_dateAt l hfl g N ad x sp dy la kn re hN a1 H.size) mw_X2_dateAt md_X2_dateAt rfl lk_X2_140 ⟨Nat.le_of_ble_eq_true rfl, Nat.le_of_ble_eq_true rfl⟩ hA hK hT B (pl_c hN 0 (by decide)) cf_0 rfl rfl hl.1 rfl (Nat.le_of_ble_eq_true rfl) dX2_back_2 ⟨Nat.le_of_ble_eq_true rfl, Nat.le_of_ble_eq_true rfl⟩) (Nat.le_of_ble_eq_true rfl) (Nat.le_of_ble_eq_true rfl) (Nat.le_of_ble_eq_true rfl) (Nat.le_of_ble_eq_true rfl) (fun E hE => by unfold x_X2_back; rw [xo_some hE]) (fun r ad' f' H locs hw B => ?_)
  obtain ⟨rfl, x1, rfl, rfl⟩ := hw
  refine lv_astore_n (lv' := [(3, .ref (ad (18 + a1.toNatClampNeg))), (0, .ref (ad 0)), (1, .int a1), (2, .int a2)]) hx hb dX2_back_5 rfl hl (by decide) rfl (fun ls hl => ?_)
  refine lv_aload_n hx hb dX2_back_6 rfl (lv_at hl 1 rfl) ?_
  refine lv_aload_n hx hb dX2_back_7 rfl (lv_at hl 0 rfl) ?_
  refine lv_aload_n hx hb dX2_back_8 rfl (lv_at hl 1 rfl) ?_
  refine lv_aload_n hx hb dX2_back_9 rfl (lv_at hl 0 rfl) ?_
  refine lv_aload_n hx hb dX2_back_10 rfl (lv_at hl 1 rfl) ?_
  refine lv_iload_n hx hb dX2_back_11 rfl (lv_at hl 3 rfl) ?_
  refine k_xr (k := 2) (n := 12) hex X hsz hA B (ux_V (rest := [.ref (ad (18 + a1.toNatClampNeg)), .ref (ad 0), .ref (ad (18 + a1.toNatClampNeg)), .ref (ad 0)]) X (c_X2_cardAt l hfl g N ad x sp dy la kn re hN a2 H.size) mw_X2_cardAt md_X2_cardAt rfl lk_X2_37 ⟨Nat.le_of_ble_eq_true rfl, Nat.le_of_ble_eq_true rfl⟩ hA hK hT B (pl_c hN 0 (by decide)) cf_0 rfl rfl hl.1 rfl (Nat.le_of_ble_eq_true rfl) dX2_back_12 ⟨Nat.le_of_ble_eq_true rfl, Nat.le_of_ble_eq_true rfl⟩) (Nat.le_of_ble_eq_true rfl) (Nat.le_of_ble_eq_true rfl) (Nat.le_of_ble_eq_true rfl) (Nat.le_of_ble_eq_true rfl) (fun E hE => by unfold x_X2_back; rw [xo_none x1, xo_some hE]) (fun r ad' f' H locs hw B => ?_)
  obtain ⟨rfl, x2, rfl, rfl⟩ := hw
  refine lv_iconst (v := 1) hx hb dX2_back_15 (by decide) ?_
  refine k_i (k := 2) (n := 12) hA B (u_V (rest := [.ref (ad (18 + a1.toNatClampNeg)), .ref (ad 0)]) X (c_X2_reach l g N ad x sp dy la kn re hN a1.toNatClampNeg (Nat.lt_of_lt_of_le (xl_X2_dateAt x1) (by decide)) a2.toNatClampNeg (Nat.lt_of_lt_of_le (xl_X2_cardAt x2) (by decide)) 1 H.size) mw_X2_reach md_X2_reach rfl lk_X2_161 ⟨Nat.le_of_ble_eq_true rfl, Nat.le_of_ble_eq_true rfl⟩ hA hK hT B (pl_c hN 0 (by decide)) cf_0 rfl rfl hl.1 rfl (Nat.le_of_ble_eq_true rfl) dX2_back_16 ⟨Nat.le_of_ble_eq_true rfl, Nat.le_of_ble_eq_true rfl⟩) (Nat.le_of_ble_eq_true rfl) (Nat.le_of_ble_eq_true rfl) (fun r ad' f' H locs hw B => ?_)
  obtain ⟨rfl, rfl, rfl⟩ := hw
  refine k_i (k := 2) (n := 12) hA B (u_V (rest := []) X (c_X2_actOnDate l g N ad x sp (v_X2_reach sp dy a1.toNatClampNeg a2.toNatClampNeg 1).2 la kn re hN a1.toNatClampNeg (Nat.lt_of_lt_of_le (xl_X2_dateAt x1) (by decide)) (v_X2_reach sp dy a1.toNatClampNeg a2.toNatClampNeg 1).1 H.size) mw_X2_actOnDate md_X2_actOnDate rfl lk_X2_153 ⟨Nat.le_of_ble_eq_true rfl, Nat.le_of_ble_eq_true rfl⟩ hA hK hT B (pl_c hN 0 (by decide)) cf_0 rfl rfl hl.1 rfl (Nat.le_of_ble_eq_true rfl) dX2_back_19 ⟨Nat.le_of_ble_eq_true rfl, Nat.le_of_ble_eq_true rfl⟩) (Nat.le_of_ble_eq_true rfl) (Nat.le_of_ble_eq_true rfl) (fun r ad' f' H locs hw B => ?_)
  obtain ⟨rfl, rfl, rfl⟩ := hw
  have ev := (show v_X2_back sp dy re a1 a2 = ((v_X2_actOnDate (v_X2_reach sp dy a1.toNatClampNeg a2.toNatClampNeg 1).2 re a1.toNatClampNeg (v_X2_reach sp dy a1.toNatClampNeg a2.toNatClampNeg 1).1).1, (v_X2_actOnDate (v_X2_reach sp dy a1.toNatClampNeg a2.toNatClampNeg 1).2 re a1.toNatClampNeg (v_X2_reach sp dy a1.toNatClampNeg a2.toNatClampNeg 1).1).2.1, (v_X2_actOnDate (v_X2_reach sp dy a1.toNatClampNeg a2.toNatClampNeg 1).2 re a1.toNatClampNeg (v_X2_reach sp dy a1.toNatClampNeg a2.toNatClampNeg 1).1).2.2) from rfl)
  exact vx_ret (rt_i X hr (ad, (cf g ad x sp (v_X2_actOnDate (v_X2_reach sp dy a1.toNatClampNeg a2.toNatClampNeg 1).2 re a1.toNatClampNeg (v_X2_reach sp dy a1.toNatClampNeg a2.toNatClampNeg 1).1).2.1 la kn (v_X2_actOnDate (v_X2_reach sp dy a1.toNatClampNeg a2.toNatClampNeg 1).2 re a1.toNatClampNeg (v_X2_reach sp dy a1.toNatClampNeg a2.toNatClampNeg 1).1).2.2)) B (PO_of B) ⟨rfl, by unfold x_X2_back; rw [xo_none x1, xo_none x2], by rw [ev], by rw [ev]⟩ rfl (Nat.le_of_ble_eq_true rfl) (Nat.le_of_ble_eq_true rfl) dX2_back_22)
def wX2_walk_38 (sp : Nat → TR) (a1 : Int32) (a2 : Int32) (a3 : Int32) : Nat → Int32 → (Nat → TR) → Int32 × (Nat → TR)
  | 0, wk, dy9 => (0, dy9)
  | n + 1, wk, dy9 => if a3 ≤ wk then (wk, dy9) else (if (v_X2_reach sp dy9 a1.toNatClampNeg a2.toNatClampNeg 0).1 = 0 then (wk, (v_X2_reach sp dy9 a1.toNatClampNeg a2.toNatClampNeg 0).2) else (wX2_walk_38 sp a1 a2 a3 n (wk + 1) (v_X0_putDay (v_X2_reach sp dy9 a1.toNatClampNeg a2.toNatClampNeg 0).2 a1.toNatClampNeg 4)))
def v_X2_walk (sp : Nat → TR) (dy : Nat → TR) (a1 : Int32) (a2 : Int32) (a3 : Int32) : Int32 × (Nat → TR) := if a3 < 1 then (0, dy) else (if a3 ≤ 12 then (wX2_walk_38 sp a1 a2 a3 ((a3.toInt - (0 : Int32).toInt).toNat + 1) 0 dy) else (0, dy))
def x_X2_walk (a1 : Int32) (a2 : Int32) (a3 : Int32) : Option String := xo (x_X2_dateAt a1) (xo (x_X2_cardAt a2) (if a3 < 1 then (some iaeN) else (if a3 ≤ 12 then none else (some iaeN))))
set_option maxHeartbeats 4000000 in
set_option maxRecDepth 100000 in
theorem c_X2_walk (l : Launch) (hfl : l.stackTraces = false) (g : GG) (N : Nat) (ad : Nat → Nat) (x : Nat → va_E) (sp dy : Nat → TR) (la kn re : Int32) (hN : 23 ≤ N) (a1 : Int32) (a2 : Int32) (a3 : Int32) : XI l yX2_walk cX2_walk 7 (some .int) (rm 5 3 18) g [.ref (ad 0), .int a1, .int a2, .int a3] N ad (cf g ad x sp dy la kn re) N (fun E => x_X2_walk a1 a2 a3 = some E) (fun r ad' f' => ad = ad' ∧ x_X2_walk a1 a2 a3 = none ∧ (v_X2_walk sp dy a1 a2 a3).1 = r ∧ (cf g ad x sp (v_X2_walk sp dy a1 a2 a3).2 la kn re) = f') := by
  intro sz
  refine mx_start (by decide) (Nat.le_of_ble_eq_true rfl) ?_
  intro p e s m args below meth c hsz X hr hex hA hK hT H locs B ls hl
  obtain ⟨hx, hb, hml, hown, hts, hlocks⟩ := id X
  have hl : lv_has ls 7 [(0, .ref (ad 0)), (1, .int a1), (2, .int a2), (3, .int a3)] := hl
  refine lv_aload_n hx hb dX2_walk_0 rfl (lv_at hl 0 rfl) ?_
  refine lv_iload_n hx hb dX2_walk_1 rfl (lv_at hl 1 rfl) ?_
  refine k_xr (k := 1) (n := 6) hex X hsz hA B (ux_V (rest := []) X (c_X2_dateAt l hfl g N ad x sp dy la kn re hN a1 H.size) mw_X2_dateAt md_X2_dateAt rfl lk_X2_140 ⟨Nat.le_of_ble_eq_true rfl, Nat.le_of_ble_eq_true rfl⟩ hA hK hT B (pl_c hN 0 (by decide)) cf_0 rfl rfl hl.1 rfl (Nat.le_of_ble_eq_true rfl) dX2_walk_2 ⟨Nat.le_of_ble_eq_true rfl, Nat.le_of_ble_eq_true rfl⟩) (Nat.le_of_ble_eq_true rfl) (Nat.le_of_ble_eq_true rfl) (Nat.le_of_ble_eq_true rfl) (Nat.le_of_ble_eq_true rfl) (fun E hE => by unfold x_X2_walk; rw [xo_some hE]) (fun r ad' f' H locs hw B => ?_)
  obtain ⟨rfl, x1, rfl, rfl⟩ := hw
  refine lv_astore (lv' := [(4, .ref (ad (18 + a1.toNatClampNeg))), (0, .ref (ad 0)), (1, .int a1), (2, .int a2), (3, .int a3)]) hx hb dX2_walk_5 hl (by decide) rfl (fun ls hl => ?_)
  refine lv_aload_n hx hb dX2_walk_7 rfl (lv_at hl 1 rfl) ?_
  refine lv_iload_n hx hb dX2_walk_8 rfl (lv_at hl 3 rfl) ?_
  refine k_xr (k := 2) (n := 12) hex X hsz hA B (ux_V (rest := []) X (c_X2_cardAt l hfl g N ad x sp dy la kn re hN a2 H.size) mw_X2_cardAt md_X2_cardAt rfl lk_X2_37 ⟨Nat.le_of_ble_eq_true rfl, Nat.le_of_ble_eq_true rfl⟩ hA hK hT B (pl_c hN 0 (by decide)) cf_0 rfl rfl hl.1 rfl (Nat.le_of_ble_eq_true rfl) dX2_walk_9 ⟨Nat.le_of_ble_eq_true rfl, Nat.le_of_ble_eq_true rfl⟩) (Nat.le_of_ble_eq_true rfl) (Nat.le_of_ble_eq_true rfl) (Nat.le_of_ble_eq_true rfl) (Nat.le_of_ble_eq_true rfl) (fun E hE => by unfold x_X2_walk; rw [xo_none x1, xo_some hE]) (fun r ad' f' H locs hw B => ?_)
  obtain ⟨rfl, x2, rfl, rfl⟩ := hw
  refine lv_astore (lv' := [(5, .ref (ad (4 + a2.toNatClampNeg))), (4, .ref (ad (18 + a1.toNatClampNeg))), (0, .ref (ad 0)), (1, .int a1), (2, .int a2), (3, .int a3)]) hx hb dX2_walk_12 hl (by decide) rfl (fun ls hl => ?_)
  refine lv_iload_n hx hb dX2_walk_14 rfl (lv_at hl 5 rfl) ?_
  refine lv_iconst (v := 1) hx hb dX2_walk_15 (by decide) ?_
  refine lv_icmp_lt (tgt := 25) hx hb dX2_walk_16 (by decide) (fun c3 => ?_) (fun c3 => ?_)
  · exact g_throw (cls := "java/lang/IllegalArgumentException") (names := ["java/lang/RuntimeException", "java/lang/Exception"]) (i := 9) X hfl (by decide) lk_X2_133 ii_java_lang_IllegalArgumentException (by decide) rfl at_X2_137 ag_X2_137 hex hsz hT B hl.1 dX2_walk_25 dX2_walk_28 dX2_walk_29 dX2_walk_31 dX2_walk_34 (by decide) (Nat.le_of_ble_eq_true rfl) (Nat.le_of_ble_eq_true rfl) (Nat.le_of_ble_eq_true rfl) (by unfold x_X2_walk; rw [xo_none x1, xo_none x2, if_pos c3]; rfl) (Nat.le_of_ble_eq_true rfl) (Nat.le_of_ble_eq_true rfl)
  · refine lv_iload_n hx hb dX2_walk_19 rfl (lv_at hl 5 rfl) ?_
    refine lv_bipush (v := 12) hx hb dX2_walk_20 (by decide) ?_
    refine lv_icmp_le (tgt := 35) hx hb dX2_walk_22 (by decide) (fun c4 => ?_) (fun c4 => ?_)
    · refine lv_iconst (v := 0) hx hb dX2_walk_35 (by decide) ?_
      refine lv_istore (lv' := [(6, .int 0), (5, .ref (ad (4 + a2.toNatClampNeg))), (4, .ref (ad (18 + a1.toNatClampNeg))), (0, .ref (ad 0)), (1, .int a1), (2, .int a2), (3, .int a3)]) hx hb dX2_walk_36 hl (by decide) rfl (fun ls hl => ?_)
      have hxn : x_X2_walk a1 a2 a3 = none := by unfold x_X2_walk; rw [xo_none x1, xo_none x2, if_neg c3, if_pos c4]
      have loop5 : ∀ (n5 : Nat) (wk : Int32) (dy9 : Nat → TR) (H : Heap) (locs : List Loc), (a3.toInt - wk.toInt).toNat < n5 → v_X2_walk sp dy a1 a2 a3 = wX2_walk_38 sp a1 a2 a3 n5 wk dy9 → WB g (aw N ad sz) s.heap N ad (cf g ad x sp dy9 la kn re) H locs → ∀ ls : Array Slot, lv_has ls 7 [(6, .int wk), (5, .ref (ad (4 + a2.toNatClampNeg))), (4, .ref (ad (18 + a1.toNatClampNeg))), (0, .ref (ad 0)), (1, .int a1), (2, .int a2), (3, .int a3)] → W p l e (rm 5 3 18) s m args below meth c H locs 2 12 (vx_MQ below (va_Qi (fun r (u : WS) => (fun r ad' f' => ad = ad' ∧ x_X2_walk a1 a2 a3 = none ∧ (v_X2_walk sp dy a1 a2 a3).1 = r ∧ (cf g ad x sp (v_X2_walk sp dy a1 a2 a3).2 la kn re) = f') r u.1 u.2) (fun u t => PO g N u.1 u.2 (aw N ad sz) t) (aw N ad sz)) (XS g N ad (cf g ad x sp dy la kn re) sz (fun E => x_X2_walk a1 a2 a3 = some E)) args s (rm 5 3 18).cells (rm 5 3 18).slots (aw N ad sz)) (F0 m 38 ls []) := by
        intro n5
        induction n5 with
        | zero => intro wk dy9 H locs hn; exact absurd hn (Nat.not_lt_zero _)
        | succ n5 ih5 =>
          intro wk dy9 H locs hn5 he5 B ls hl
          refine lv_iload hx hb dX2_walk_38 (lv_at hl 0 rfl) ?_
          refine lv_iload_n hx hb dX2_walk_40 rfl (lv_at hl 6 rfl) ?_
          refine lv_icmp_ge (tgt := 71) hx hb dX2_walk_41 (by decide) (fun c6 => ?_) (fun c6 => ?_)
          · refine lv_iload hx hb dX2_walk_71 (lv_at hl 0 rfl) ?_
            have ev := (show v_X2_walk sp dy a1 a2 a3 = (wk, dy9) from he5.trans (by rw [wX2_walk_38, if_pos c6]))
            exact vx_ret (rt_i X hr (ad, (cf g ad x sp dy9 la kn re)) B (PO_of B) ⟨rfl, hxn, by rw [ev], by rw [ev]⟩ rfl (Nat.le_of_ble_eq_true rfl) (Nat.le_of_ble_eq_true rfl) dX2_walk_73)
          · refine lv_aload_n hx hb dX2_walk_44 rfl (lv_at hl 3 rfl) ?_
            refine lv_aload hx hb dX2_walk_45 (lv_at hl 2 rfl) ?_
            refine lv_aload hx hb dX2_walk_47 (lv_at hl 1 rfl) ?_
            refine lv_iconst (v := 0) hx hb dX2_walk_49 (by decide) ?_
            refine k_i (k := 2) (n := 12) hA B (u_V (rest := []) X (c_X2_reach l g N ad x sp dy9 la kn re hN a1.toNatClampNeg (Nat.lt_of_lt_of_le (xl_X2_dateAt x1) (by decide)) a2.toNatClampNeg (Nat.lt_of_lt_of_le (xl_X2_cardAt x2) (by decide)) 0 H.size) mw_X2_reach md_X2_reach rfl lk_X2_161 ⟨Nat.le_of_ble_eq_true rfl, Nat.le_of_ble_eq_true rfl⟩ hA hK hT B (pl_c hN 0 (by decide)) cf_0 rfl rfl hl.1 rfl (Nat.le_of_ble_eq_true rfl) dX2_walk_50 ⟨Nat.le_of_ble_eq_true rfl, Nat.le_of_ble_eq_true rfl⟩) (Nat.le_of_ble_eq_true rfl) (Nat.le_of_ble_eq_true rfl) (fun r ad' f' H locs hw B => ?_)
            obtain ⟨rfl, rfl, rfl⟩ := hw
            refine lv_if_eq (tgt := 71) hx hb dX2_walk_53 (by decide) (fun c7 => ?_) (fun c7 => ?_)
            · refine lv_iload hx hb dX2_walk_71 (lv_at hl 0 rfl) ?_
              have ev := (show v_X2_walk sp dy a1 a2 a3 = (wk, (v_X2_reach sp dy9 a1.toNatClampNeg a2.toNatClampNeg 0).2) from he5.trans (by rw [wX2_walk_38, if_neg c6, if_pos c7]))
              exact vx_ret (rt_i X hr (ad, (cf g ad x sp (v_X2_reach sp dy9 a1.toNatClampNeg a2.toNatClampNeg 0).2 la kn re)) B (PO_of B) ⟨rfl, hxn, by rw [ev], by rw [ev]⟩ rfl (Nat.le_of_ble_eq_true rfl) (Nat.le_of_ble_eq_true rfl) dX2_walk_73)
            · refine lv_aload hx hb dX2_walk_56 (lv_at hl 2 rfl) ?_
              refine lv_aload_n hx hb dX2_walk_58 rfl (lv_at hl 3 rfl) ?_
              refine g_get (q := 0) (k := 8) X hK B rfl in_X2 (pl_c hN 0 (by decide)) cf_0 (by decide) lk_X2_33 rfl rfl dX2_walk_59 ?_
              refine k_v (k := 2) (n := 12) hA B (u_VN (rest := []) X (c_X0_putDay l g N ad x sp (v_X2_reach sp dy9 a1.toNatClampNeg a2.toNatClampNeg 0).2 la kn re hN a1.toNatClampNeg (Nat.lt_of_lt_of_le (xl_X2_dateAt x1) (by decide)) 4 (by decide) H.size) mw_X0_putDay md_X0_putDay rfl lk_X2_157 ⟨Nat.le_of_ble_eq_true rfl, Nat.le_of_ble_eq_true rfl⟩ hA hK hT B (pl_dy hN (Nat.lt_of_lt_of_le (xl_X2_dateAt x1) (by decide))) (cf_dy (Nat.lt_of_lt_of_le (xl_X2_dateAt x1) (by decide))) rfl rfl hl.1 rfl (Nat.le_of_ble_eq_true rfl) dX2_walk_62 ⟨Nat.le_of_ble_eq_true rfl, Nat.le_of_ble_eq_true rfl⟩) (Nat.le_of_ble_eq_true rfl) (Nat.le_of_ble_eq_true rfl) (fun ad' f' H locs hw B => ?_)
              obtain ⟨rfl, rfl⟩ := hw
              refine lv_iinc (v := wk + 1) (lv' := [(6, .int (wk + 1)), (5, .ref (ad (4 + a2.toNatClampNeg))), (4, .ref (ad (18 + a1.toNatClampNeg))), (0, .ref (ad 0)), (1, .int a1), (2, .int a2), (3, .int a3)]) hx hb dX2_walk_65 hl (k := 0) rfl rfl (by decide) rfl (fun ls hl => ?_)
              refine lv_goto (tgt := 38) hx hb dX2_walk_68 (by decide) ?_
              exact ih5 (wk + 1) (v_X0_putDay (v_X2_reach sp dy9 a1.toNatClampNeg a2.toNatClampNeg 0).2 a1.toNatClampNeg 4) H locs (fu_le c6 hn5) (show v_X2_walk sp dy a1 a2 a3 = wX2_walk_38 sp a1 a2 a3 n5 (wk + 1) (v_X0_putDay (v_X2_reach sp dy9 a1.toNatClampNeg a2.toNatClampNeg 0).2 a1.toNatClampNeg 4) from he5.trans (by rw [wX2_walk_38, if_neg c6, if_neg c7])) B ls (lv_sub hl [0, 1, 2, 3, 4, 5, 6] rfl)
      exact loop5 ((a3.toInt - (0 : Int32).toInt).toNat + 1) 0 dy H locs (Nat.lt_succ_self _) (show v_X2_walk sp dy a1 a2 a3 = wX2_walk_38 sp a1 a2 a3 ((a3.toInt - (0 : Int32).toInt).toNat + 1) 0 dy from by unfold v_X2_walk; rw [if_neg c3, if_pos c4]) B ls hl
    · exact g_throw (cls := "java/lang/IllegalArgumentException") (names := ["java/lang/RuntimeException", "java/lang/Exception"]) (i := 9) X hfl (by decide) lk_X2_133 ii_java_lang_IllegalArgumentException (by decide) rfl at_X2_137 ag_X2_137 hex hsz hT B hl.1 dX2_walk_25 dX2_walk_28 dX2_walk_29 dX2_walk_31 dX2_walk_34 (by decide) (Nat.le_of_ble_eq_true rfl) (Nat.le_of_ble_eq_true rfl) (Nat.le_of_ble_eq_true rfl) (by unfold x_X2_walk; rw [xo_none x1, xo_none x2, if_neg c3, if_neg c4]; rfl) (Nat.le_of_ble_eq_true rfl) (Nat.le_of_ble_eq_true rfl)
def v_X2_actByBetween (sp : Nat → TR) (dy : Nat → TR) (re : Int32) (a1 : Int32) (a2 : Int32) (a3 : Int32) : Int32 × (Nat → TR) × Int32 := ((v_X2_actOnCard (v_X1_putBetween sp dy 12 a2.toNatClampNeg a3.toNatClampNeg).2 re a1.toNatClampNeg (v_X1_putBetween sp dy 12 a2.toNatClampNeg a3.toNatClampNeg).1).1, (v_X2_actOnCard (v_X1_putBetween sp dy 12 a2.toNatClampNeg a3.toNatClampNeg).2 re a1.toNatClampNeg (v_X1_putBetween sp dy 12 a2.toNatClampNeg a3.toNatClampNeg).1).2.1, (v_X2_actOnCard (v_X1_putBetween sp dy 12 a2.toNatClampNeg a3.toNatClampNeg).2 re a1.toNatClampNeg (v_X1_putBetween sp dy 12 a2.toNatClampNeg a3.toNatClampNeg).1).2.2)
def x_X2_actByBetween (a1 : Int32) (a2 : Int32) (a3 : Int32) : Option String := xo (x_X2_cardAt a1) (xo (x_X2_dateAt a2) (xo (x_X2_dateAt a3) none))
set_option maxHeartbeats 4000000 in
set_option maxRecDepth 100000 in
theorem c_X2_actByBetween (l : Launch) (hfl : l.stackTraces = false) (g : GG) (N : Nat) (ad : Nat → Nat) (x : Nat → va_E) (sp dy : Nat → TR) (la kn re : Int32) (hN : 23 ≤ N) (a1 : Int32) (a2 : Int32) (a3 : Int32) : XI l yX2_actByBetween cX2_actByBetween 6 (some .int) (rm 5 3 18) g [.ref (ad 0), .int a1, .int a2, .int a3] N ad (cf g ad x sp dy la kn re) N (fun E => x_X2_actByBetween a1 a2 a3 = some E) (fun r ad' f' => ad = ad' ∧ x_X2_actByBetween a1 a2 a3 = none ∧ (v_X2_actByBetween sp dy re a1 a2 a3).1 = r ∧ (cf g ad x (v_X2_actByBetween sp dy re a1 a2 a3).2.1 dy la kn (v_X2_actByBetween sp dy re a1 a2 a3).2.2) = f') := by
  intro sz
  refine mx_start (by decide) (Nat.le_of_ble_eq_true rfl) ?_
  intro p e s m args below meth c hsz X hr hex hA hK hT H locs B ls hl
  obtain ⟨hx, hb, hml, hown, hts, hlocks⟩ := id X
  have hl : lv_has ls 6 [(0, .ref (ad 0)), (1, .int a1), (2, .int a2), (3, .int a3)] := hl
  refine lv_aload_n hx hb dX2_actByBetween_0 rfl (lv_at hl 0 rfl) ?_
  refine lv_iload_n hx hb dX2_actByBetween_1 rfl (lv_at hl 1 rfl) ?_
  refine k_xr (k := 1) (n := 6) hex X hsz hA B (ux_V (rest := []) X (c_X2_cardAt l hfl g N ad x sp dy la kn re hN a1 H.size) mw_X2_cardAt md_X2_cardAt rfl lk_X2_37 ⟨Nat.le_of_ble_eq_true rfl, Nat.le_of_ble_eq_true rfl⟩ hA hK hT B (pl_c hN 0 (by decide)) cf_0 rfl rfl hl.1 rfl (Nat.le_of_ble_eq_true rfl) dX2_actByBetween_2 ⟨Nat.le_of_ble_eq_true rfl, Nat.le_of_ble_eq_true rfl⟩) (Nat.le_of_ble_eq_true rfl) (Nat.le_of_ble_eq_true rfl) (Nat.le_of_ble_eq_true rfl) (Nat.le_of_ble_eq_true rfl) (fun E hE => by unfold x_X2_actByBetween; rw [xo_some hE]) (fun r ad' f' H locs hw B => ?_)
  obtain ⟨rfl, x1, rfl, rfl⟩ := hw
  refine lv_astore (lv' := [(4, .ref (ad (4 + a1.toNatClampNeg))), (0, .ref (ad 0)), (1, .int a1), (2, .int a2), (3, .int a3)]) hx hb dX2_actByBetween_5 hl (by decide) rfl (fun ls hl => ?_)
  refine lv_aload_n hx hb dX2_actByBetween_7 rfl (lv_at hl 1 rfl) ?_
  refine lv_iload_n hx hb dX2_actByBetween_8 rfl (lv_at hl 3 rfl) ?_
  refine k_xr (k := 2) (n := 12) hex X hsz hA B (ux_V (rest := []) X (c_X2_dateAt l hfl g N ad x sp dy la kn re hN a2 H.size) mw_X2_dateAt md_X2_dateAt rfl lk_X2_140 ⟨Nat.le_of_ble_eq_true rfl, Nat.le_of_ble_eq_true rfl⟩ hA hK hT B (pl_c hN 0 (by decide)) cf_0 rfl rfl hl.1 rfl (Nat.le_of_ble_eq_true rfl) dX2_actByBetween_9 ⟨Nat.le_of_ble_eq_true rfl, Nat.le_of_ble_eq_true rfl⟩) (Nat.le_of_ble_eq_true rfl) (Nat.le_of_ble_eq_true rfl) (Nat.le_of_ble_eq_true rfl) (Nat.le_of_ble_eq_true rfl) (fun E hE => by unfold x_X2_actByBetween; rw [xo_none x1, xo_some hE]) (fun r ad' f' H locs hw B => ?_)
  obtain ⟨rfl, x2, rfl, rfl⟩ := hw
  refine lv_astore (lv' := [(5, .ref (ad (18 + a2.toNatClampNeg))), (4, .ref (ad (4 + a1.toNatClampNeg))), (0, .ref (ad 0)), (1, .int a1), (2, .int a2), (3, .int a3)]) hx hb dX2_actByBetween_12 hl (by decide) rfl (fun ls hl => ?_)
  refine lv_aload_n hx hb dX2_actByBetween_14 rfl (lv_at hl 2 rfl) ?_
  refine lv_aload hx hb dX2_actByBetween_15 (lv_at hl 1 rfl) ?_
  refine lv_aload_n hx hb dX2_actByBetween_17 rfl (lv_at hl 2 rfl) ?_
  refine g_get (q := 0) (k := 6) X hK B rfl in_X2 (pl_c hN 0 (by decide)) cf_0 (by decide) lk_X2_25 rfl rfl dX2_actByBetween_18 ?_
  refine lv_aload hx hb dX2_actByBetween_21 (lv_at hl 0 rfl) ?_
  refine lv_aload_n hx hb dX2_actByBetween_23 rfl (lv_at hl 2 rfl) ?_
  refine lv_iload_n hx hb dX2_actByBetween_24 rfl (lv_at hl 5 rfl) ?_
  refine k_xr (k := 3) (n := 18) hex X hsz hA B (ux_V (rest := [.ref (ad (18 + a2.toNatClampNeg)), .ref (ad (4 + 12)), .ref (ad (4 + a1.toNatClampNeg)), .ref (ad 0)]) X (c_X2_dateAt l hfl g N ad x sp dy la kn re hN a3 H.size) mw_X2_dateAt md_X2_dateAt rfl lk_X2_140 ⟨Nat.le_of_ble_eq_true rfl, Nat.le_of_ble_eq_true rfl⟩ hA hK hT B (pl_c hN 0 (by decide)) cf_0 rfl rfl hl.1 rfl (Nat.le_of_ble_eq_true rfl) dX2_actByBetween_25 ⟨Nat.le_of_ble_eq_true rfl, Nat.le_of_ble_eq_true rfl⟩) (Nat.le_of_ble_eq_true rfl) (Nat.le_of_ble_eq_true rfl) (Nat.le_of_ble_eq_true rfl) (Nat.le_of_ble_eq_true rfl) (fun E hE => by unfold x_X2_actByBetween; rw [xo_none x1, xo_none x2, xo_some hE]) (fun r ad' f' H locs hw B => ?_)
  obtain ⟨rfl, x3, rfl, rfl⟩ := hw
  refine k_i (k := 3) (n := 18) hA B (u_VN (rest := [.ref (ad (4 + a1.toNatClampNeg)), .ref (ad 0)]) X (c_X1_putBetween l g N ad x sp dy la kn re hN 12 (by decide) a2.toNatClampNeg (Nat.lt_of_lt_of_le (xl_X2_dateAt x2) (by decide)) a3.toNatClampNeg (Nat.lt_of_lt_of_le (xl_X2_dateAt x3) (by decide)) H.size) mw_X1_putBetween md_X1_putBetween rfl lk_X2_173 ⟨Nat.le_of_ble_eq_true rfl, Nat.le_of_ble_eq_true rfl⟩ hA hK hT B (pl_sp hN (by decide)) (cf_sp (by decide)) rfl rfl hl.1 rfl (Nat.le_of_ble_eq_true rfl) dX2_actByBetween_28 ⟨Nat.le_of_ble_eq_true rfl, Nat.le_of_ble_eq_true rfl⟩) (Nat.le_of_ble_eq_true rfl) (Nat.le_of_ble_eq_true rfl) (fun r ad' f' H locs hw B => ?_)
  obtain ⟨rfl, rfl, rfl⟩ := hw
  refine k_i (k := 3) (n := 18) hA B (u_V (rest := []) X (c_X2_actOnCard l g N ad x (v_X1_putBetween sp dy 12 a2.toNatClampNeg a3.toNatClampNeg).2 dy la kn re hN a1.toNatClampNeg (Nat.lt_of_lt_of_le (xl_X2_cardAt x1) (by decide)) (v_X1_putBetween sp dy 12 a2.toNatClampNeg a3.toNatClampNeg).1 H.size) mw_X2_actOnCard md_X2_actOnCard rfl lk_X2_45 ⟨Nat.le_of_ble_eq_true rfl, Nat.le_of_ble_eq_true rfl⟩ hA hK hT B (pl_c hN 0 (by decide)) cf_0 rfl rfl hl.1 rfl (Nat.le_of_ble_eq_true rfl) dX2_actByBetween_31 ⟨Nat.le_of_ble_eq_true rfl, Nat.le_of_ble_eq_true rfl⟩) (Nat.le_of_ble_eq_true rfl) (Nat.le_of_ble_eq_true rfl) (fun r ad' f' H locs hw B => ?_)
  obtain ⟨rfl, rfl, rfl⟩ := hw
  have ev := (show v_X2_actByBetween sp dy re a1 a2 a3 = ((v_X2_actOnCard (v_X1_putBetween sp dy 12 a2.toNatClampNeg a3.toNatClampNeg).2 re a1.toNatClampNeg (v_X1_putBetween sp dy 12 a2.toNatClampNeg a3.toNatClampNeg).1).1, (v_X2_actOnCard (v_X1_putBetween sp dy 12 a2.toNatClampNeg a3.toNatClampNeg).2 re a1.toNatClampNeg (v_X1_putBetween sp dy 12 a2.toNatClampNeg a3.toNatClampNeg).1).2.1, (v_X2_actOnCard (v_X1_putBetween sp dy 12 a2.toNatClampNeg a3.toNatClampNeg).2 re a1.toNatClampNeg (v_X1_putBetween sp dy 12 a2.toNatClampNeg a3.toNatClampNeg).1).2.2) from rfl)
  exact vx_ret (rt_i X hr (ad, (cf g ad x (v_X2_actOnCard (v_X1_putBetween sp dy 12 a2.toNatClampNeg a3.toNatClampNeg).2 re a1.toNatClampNeg (v_X1_putBetween sp dy 12 a2.toNatClampNeg a3.toNatClampNeg).1).2.1 dy la kn (v_X2_actOnCard (v_X1_putBetween sp dy 12 a2.toNatClampNeg a3.toNatClampNeg).2 re a1.toNatClampNeg (v_X1_putBetween sp dy 12 a2.toNatClampNeg a3.toNatClampNeg).1).2.2)) B (PO_of B) ⟨rfl, by unfold x_X2_actByBetween; rw [xo_none x1, xo_none x2, xo_none x3], by rw [ev], by rw [ev]⟩ rfl (Nat.le_of_ble_eq_true rfl) (Nat.le_of_ble_eq_true rfl) dX2_actByBetween_34)
def v_X2_between (sp : Nat → TR) (dy : Nat → TR) (re : Int32) (a1 : Int32) (a2 : Int32) (a3 : Int32) : Int32 × (Nat → TR) × Int32 := ((v_X2_actByBetween sp dy re a1 a2 a3).1, (v_X2_actByBetween sp dy re a1 a2 a3).2.1, (v_X2_actByBetween sp dy re a1 a2 a3).2.2)
def x_X2_between (a1 : Int32) (a2 : Int32) (a3 : Int32) : Option String := xo (x_X2_actByBetween a1 a2 a3) none
set_option maxHeartbeats 4000000 in
set_option maxRecDepth 100000 in
theorem c_X2_between (l : Launch) (hfl : l.stackTraces = false) (g : GG) (N : Nat) (ad : Nat → Nat) (x : Nat → va_E) (sp dy : Nat → TR) (la kn re : Int32) (hN : 23 ≤ N) (a1 : Int32) (a2 : Int32) (a3 : Int32) : XI l yX2_between cX2_between 4 (some .int) (rm 6 3 18) g [.ref (ad 0), .int a1, .int a2, .int a3] N ad (cf g ad x sp dy la kn re) N (fun E => x_X2_between a1 a2 a3 = some E) (fun r ad' f' => ad = ad' ∧ x_X2_between a1 a2 a3 = none ∧ (v_X2_between sp dy re a1 a2 a3).1 = r ∧ (cf g ad x (v_X2_between sp dy re a1 a2 a3).2.1 dy la kn (v_X2_between sp dy re a1 a2 a3).2.2) = f') := by
  intro sz
  refine mx_start (by decide) (Nat.le_of_ble_eq_true rfl) ?_
  intro p e s m args below meth c hsz X hr hex hA hK hT H locs B ls hl
  obtain ⟨hx, hb, hml, hown, hts, hlocks⟩ := id X
  have hl : lv_has ls 4 [(0, .ref (ad 0)), (1, .int a1), (2, .int a2), (3, .int a3)] := hl
  refine lv_aload_n hx hb dX2_between_0 rfl (lv_at hl 0 rfl) ?_
  refine lv_iload_n hx hb dX2_between_1 rfl (lv_at hl 1 rfl) ?_
  refine lv_iload_n hx hb dX2_between_2 rfl (lv_at hl 2 rfl) ?_
  refine lv_iload_n hx hb dX2_between_3 rfl (lv_at hl 3 rfl) ?_
  refine k_xi (k := 3) (n := 18) hex X hsz hA B (ux_V (rest := []) X (c_X2_actByBetween l hfl g N ad x sp dy la kn re hN a1 a2 a3 H.size) mw_X2_actByBetween md_X2_actByBetween rfl lk_X2_167 ⟨Nat.le_of_ble_eq_true rfl, Nat.le_of_ble_eq_true rfl⟩ hA hK hT B (pl_c hN 0 (by decide)) cf_0 rfl rfl hl.1 rfl (Nat.le_of_ble_eq_true rfl) dX2_between_4 ⟨Nat.le_of_ble_eq_true rfl, Nat.le_of_ble_eq_true rfl⟩) (Nat.le_of_ble_eq_true rfl) (Nat.le_of_ble_eq_true rfl) (Nat.le_of_ble_eq_true rfl) (Nat.le_of_ble_eq_true rfl) (fun E hE => by unfold x_X2_between; rw [xo_some hE]) (fun r ad' f' H locs hw B => ?_)
  obtain ⟨rfl, x1, rfl, rfl⟩ := hw
  have ev := (show v_X2_between sp dy re a1 a2 a3 = ((v_X2_actByBetween sp dy re a1 a2 a3).1, (v_X2_actByBetween sp dy re a1 a2 a3).2.1, (v_X2_actByBetween sp dy re a1 a2 a3).2.2) from rfl)
  exact vx_ret (rt_i X hr (ad, (cf g ad x (v_X2_actByBetween sp dy re a1 a2 a3).2.1 dy la kn (v_X2_actByBetween sp dy re a1 a2 a3).2.2)) B (PO_of B) ⟨rfl, by unfold x_X2_between; rw [xo_none x1], by rw [ev], by rw [ev]⟩ rfl (Nat.le_of_ble_eq_true rfl) (Nat.le_of_ble_eq_true rfl) dX2_between_7)
def v_X2_until (sp : Nat → TR) (dy : Nat → TR) (re : Int32) (a1 : Int32) (a2 : Int32) (a3 : Int32) : Int32 × (Nat → TR) × Int32 := ((v_X2_actByBetween sp dy re a1 a2 a3).1, (v_X2_actByBetween sp dy re a1 a2 a3).2.1, (v_X2_actByBetween sp dy re a1 a2 a3).2.2)
def x_X2_until (a1 : Int32) (a2 : Int32) (a3 : Int32) : Option String := xo (x_X2_actByBetween a1 a2 a3) none
set_option maxHeartbeats 4000000 in
set_option maxRecDepth 100000 in
theorem c_X2_until (l : Launch) (hfl : l.stackTraces = false) (g : GG) (N : Nat) (ad : Nat → Nat) (x : Nat → va_E) (sp dy : Nat → TR) (la kn re : Int32) (hN : 23 ≤ N) (a1 : Int32) (a2 : Int32) (a3 : Int32) : XI l yX2_until cX2_until 4 (some .int) (rm 6 3 18) g [.ref (ad 0), .int a1, .int a2, .int a3] N ad (cf g ad x sp dy la kn re) N (fun E => x_X2_until a1 a2 a3 = some E) (fun r ad' f' => ad = ad' ∧ x_X2_until a1 a2 a3 = none ∧ (v_X2_until sp dy re a1 a2 a3).1 = r ∧ (cf g ad x (v_X2_until sp dy re a1 a2 a3).2.1 dy la kn (v_X2_until sp dy re a1 a2 a3).2.2) = f') := by
  intro sz
  refine mx_start (by decide) (Nat.le_of_ble_eq_true rfl) ?_
  intro p e s m args below meth c hsz X hr hex hA hK hT H locs B ls hl
  obtain ⟨hx, hb, hml, hown, hts, hlocks⟩ := id X
  have hl : lv_has ls 4 [(0, .ref (ad 0)), (1, .int a1), (2, .int a2), (3, .int a3)] := hl
  refine lv_aload_n hx hb dX2_until_0 rfl (lv_at hl 0 rfl) ?_
  refine lv_iload_n hx hb dX2_until_1 rfl (lv_at hl 1 rfl) ?_
  refine lv_iload_n hx hb dX2_until_2 rfl (lv_at hl 2 rfl) ?_
  refine lv_iload_n hx hb dX2_until_3 rfl (lv_at hl 3 rfl) ?_
  refine k_xi (k := 3) (n := 18) hex X hsz hA B (ux_V (rest := []) X (c_X2_actByBetween l hfl g N ad x sp dy la kn re hN a1 a2 a3 H.size) mw_X2_actByBetween md_X2_actByBetween rfl lk_X2_167 ⟨Nat.le_of_ble_eq_true rfl, Nat.le_of_ble_eq_true rfl⟩ hA hK hT B (pl_c hN 0 (by decide)) cf_0 rfl rfl hl.1 rfl (Nat.le_of_ble_eq_true rfl) dX2_until_4 ⟨Nat.le_of_ble_eq_true rfl, Nat.le_of_ble_eq_true rfl⟩) (Nat.le_of_ble_eq_true rfl) (Nat.le_of_ble_eq_true rfl) (Nat.le_of_ble_eq_true rfl) (Nat.le_of_ble_eq_true rfl) (fun E hE => by unfold x_X2_until; rw [xo_some hE]) (fun r ad' f' H locs hw B => ?_)
  obtain ⟨rfl, x1, rfl, rfl⟩ := hw
  have ev := (show v_X2_until sp dy re a1 a2 a3 = ((v_X2_actByBetween sp dy re a1 a2 a3).1, (v_X2_actByBetween sp dy re a1 a2 a3).2.1, (v_X2_actByBetween sp dy re a1 a2 a3).2.2) from rfl)
  exact vx_ret (rt_i X hr (ad, (cf g ad x (v_X2_actByBetween sp dy re a1 a2 a3).2.1 dy la kn (v_X2_actByBetween sp dy re a1 a2 a3).2.2)) B (PO_of B) ⟨rfl, by unfold x_X2_until; rw [xo_none x1], by rw [ev], by rw [ev]⟩ rfl (Nat.le_of_ble_eq_true rfl) (Nat.le_of_ble_eq_true rfl) dX2_until_7)
def v_X2_ofDate (dy : Nat → TR) (a1 : Int32) (a2 : Int32) : Int32 := (v_X0_number dy a1.toNatClampNeg a2)
def x_X2_ofDate (a1 : Int32) (a2 : Int32) : Option String := xo (x_X2_dateAt a1) (xo (x_X2_checkWhat a2 4) none)
set_option maxHeartbeats 4000000 in
set_option maxRecDepth 100000 in
theorem c_X2_ofDate (l : Launch) (hfl : l.stackTraces = false) (g : GG) (N : Nat) (ad : Nat → Nat) (x : Nat → va_E) (sp dy : Nat → TR) (la kn re : Int32) (hN : 23 ≤ N) (a1 : Int32) (a2 : Int32) : XI l yX2_ofDate cX2_ofDate 4 (some .int) (rm 4 2 12) g [.ref (ad 0), .int a1, .int a2] N ad (cf g ad x sp dy la kn re) N (fun E => x_X2_ofDate a1 a2 = some E) (fun r ad' f' => ad = ad' ∧ x_X2_ofDate a1 a2 = none ∧ (v_X2_ofDate dy a1 a2) = r ∧ (cf g ad x sp dy la kn re) = f') := by
  intro sz
  refine mx_start (by decide) (Nat.le_of_ble_eq_true rfl) ?_
  intro p e s m args below meth c hsz X hr hex hA hK hT H locs B ls hl
  obtain ⟨hx, hb, hml, hown, hts, hlocks⟩ := id X
  have hl : lv_has ls 4 [(0, .ref (ad 0)), (1, .int a1), (2, .int a2)] := hl
  refine lv_aload_n hx hb dX2_ofDate_0 rfl (lv_at hl 0 rfl) ?_
  refine lv_iload_n hx hb dX2_ofDate_1 rfl (lv_at hl 1 rfl) ?_
  refine k_xr (k := 1) (n := 6) hex X hsz hA B (ux_V (rest := []) X (c_X2_dateAt l hfl g N ad x sp dy la kn re hN a1 H.size) mw_X2_dateAt md_X2_dateAt rfl lk_X2_140 ⟨Nat.le_of_ble_eq_true rfl, Nat.le_of_ble_eq_true rfl⟩ hA hK hT B (pl_c hN 0 (by decide)) cf_0 rfl rfl hl.1 rfl (Nat.le_of_ble_eq_true rfl) dX2_ofDate_2 ⟨Nat.le_of_ble_eq_true rfl, Nat.le_of_ble_eq_true rfl⟩) (Nat.le_of_ble_eq_true rfl) (Nat.le_of_ble_eq_true rfl) (Nat.le_of_ble_eq_true rfl) (Nat.le_of_ble_eq_true rfl) (fun E hE => by unfold x_X2_ofDate; rw [xo_some hE]) (fun r ad' f' H locs hw B => ?_)
  obtain ⟨rfl, x1, rfl, rfl⟩ := hw
  refine lv_astore_n (lv' := [(3, .ref (ad (18 + a1.toNatClampNeg))), (0, .ref (ad 0)), (1, .int a1), (2, .int a2)]) hx hb dX2_ofDate_5 rfl hl (by decide) rfl (fun ls hl => ?_)
  refine lv_iload_n hx hb dX2_ofDate_6 rfl (lv_at hl 3 rfl) ?_
  refine lv_iconst (v := 4) hx hb dX2_ofDate_7 (by decide) ?_
  refine k_xv (k := 2) (n := 12) hex X hsz hA B (ux_S (rest := []) X (c_X2_checkWhat l hfl g N ad x sp dy la kn re hN a2 4 H.size) mw_X2_checkWhat md_X2_checkWhat rfl lk_X2_51 ⟨Nat.le_of_ble_eq_true rfl, Nat.le_of_ble_eq_true rfl⟩ hA hK hT B hl.1 rfl (Nat.le_of_ble_eq_true rfl) dX2_ofDate_8 ⟨Nat.le_of_ble_eq_true rfl, Nat.le_of_ble_eq_true rfl⟩) (Nat.le_of_ble_eq_true rfl) (Nat.le_of_ble_eq_true rfl) (Nat.le_of_ble_eq_true rfl) (Nat.le_of_ble_eq_true rfl) (fun E hE => by unfold x_X2_ofDate; rw [xo_none x1, xo_some hE]) (fun ad' f' H locs hw B => ?_)
  obtain ⟨rfl, x2, rfl⟩ := hw
  refine lv_aload_n hx hb dX2_ofDate_11 rfl (lv_at hl 0 rfl) ?_
  refine lv_iload_n hx hb dX2_ofDate_12 rfl (lv_at hl 3 rfl) ?_
  refine k_i (k := 2) (n := 12) hA B (u_VN (rest := []) X (c_X0_number l g N ad x sp dy la kn re hN a1.toNatClampNeg (Nat.lt_of_lt_of_le (xl_X2_dateAt x1) (by decide)) a2 H.size) mw_X0_number md_X0_number rfl lk_X2_171 ⟨Nat.le_of_ble_eq_true rfl, Nat.le_of_ble_eq_true rfl⟩ hA hK hT B (pl_dy hN (Nat.lt_of_lt_of_le (xl_X2_dateAt x1) (by decide))) (cf_dy (Nat.lt_of_lt_of_le (xl_X2_dateAt x1) (by decide))) rfl rfl hl.1 rfl (Nat.le_of_ble_eq_true rfl) dX2_ofDate_13 ⟨Nat.le_of_ble_eq_true rfl, Nat.le_of_ble_eq_true rfl⟩) (Nat.le_of_ble_eq_true rfl) (Nat.le_of_ble_eq_true rfl) (fun r ad' f' H locs hw B => ?_)
  obtain ⟨rfl, rfl, rfl⟩ := hw
  have ev := (show v_X2_ofDate dy a1 a2 = (v_X0_number dy a1.toNatClampNeg a2) from rfl)
  exact vx_ret (rt_i X hr (ad, (cf g ad x sp dy la kn re)) B (PO_of B) ⟨rfl, by unfold x_X2_ofDate; rw [xo_none x1, xo_none x2], by rw [ev], rfl⟩ rfl (Nat.le_of_ble_eq_true rfl) (Nat.le_of_ble_eq_true rfl) dX2_ofDate_16)
def v_X2_isToldBack (sp : Nat → TR) (dy : Nat → TR) (a1 : Int32) (a2 : Int32) : Int32 × (Nat → TR) × (Nat → TR) := if (v_X1_putBetween sp dy 12 a1.toNatClampNeg a2.toNatClampNeg).1 = 0 then (0, (v_X1_putBetween sp dy 12 a1.toNatClampNeg a2.toNatClampNeg).2, dy) else (if (v_X2_leads (v_X1_putBetween sp dy 12 a1.toNatClampNeg a2.toNatClampNeg).2 dy a1.toNatClampNeg 12 a2.toNatClampNeg).1 = 0 then (0, (v_X1_putBetween sp dy 12 a1.toNatClampNeg a2.toNatClampNeg).2, (v_X2_leads (v_X1_putBetween sp dy 12 a1.toNatClampNeg a2.toNatClampNeg).2 dy a1.toNatClampNeg 12 a2.toNatClampNeg).2) else (1, (v_X1_putBetween sp dy 12 a1.toNatClampNeg a2.toNatClampNeg).2, (v_X2_leads (v_X1_putBetween sp dy 12 a1.toNatClampNeg a2.toNatClampNeg).2 dy a1.toNatClampNeg 12 a2.toNatClampNeg).2))
def x_X2_isToldBack (sp : Nat → TR) (dy : Nat → TR) (a1 : Int32) (a2 : Int32) : Option String := xo (x_X2_dateAt a1) (xo (x_X2_dateAt a2) (if (v_X1_putBetween sp dy 12 a1.toNatClampNeg a2.toNatClampNeg).1 = 0 then none else (if (v_X2_leads (v_X1_putBetween sp dy 12 a1.toNatClampNeg a2.toNatClampNeg).2 dy a1.toNatClampNeg 12 a2.toNatClampNeg).1 = 0 then none else none)))
theorem b01_X2_isToldBack {sp : Nat → TR} {dy : Nat → TR} {a1 : Int32} {a2 : Int32} : (v_X2_isToldBack sp dy a1 a2).1 = 0 ∨ (v_X2_isToldBack sp dy a1 a2).1 = 1 := by
  unfold v_X2_isToldBack
  by_cases q1 : (v_X1_putBetween sp dy 12 a1.toNatClampNeg a2.toNatClampNeg).1 = 0
  · rw [if_pos q1]
    exact Or.inl rfl
  · rw [if_neg q1]
    by_cases q2 : (v_X2_leads (v_X1_putBetween sp dy 12 a1.toNatClampNeg a2.toNatClampNeg).2 dy a1.toNatClampNeg 12 a2.toNatClampNeg).1 = 0
    · rw [if_pos q2]
      exact Or.inl rfl
    · rw [if_neg q2]
      exact Or.inr rfl
set_option maxHeartbeats 4000000 in
set_option maxRecDepth 100000 in
theorem c_X2_isToldBack (l : Launch) (hfl : l.stackTraces = false) (g : GG) (N : Nat) (ad : Nat → Nat) (x : Nat → va_E) (sp dy : Nat → TR) (la kn re : Int32) (hN : 23 ≤ N) (a1 : Int32) (a2 : Int32) : XI l yX2_isToldBack cX2_isToldBack 5 (some .boolean) (rm 5 2 12) g [.ref (ad 0), .int a1, .int a2] N ad (cf g ad x sp dy la kn re) N (fun E => x_X2_isToldBack sp dy a1 a2 = some E) (fun r ad' f' => ad = ad' ∧ x_X2_isToldBack sp dy a1 a2 = none ∧ (v_X2_isToldBack sp dy a1 a2).1 = r ∧ (cf g ad x (v_X2_isToldBack sp dy a1 a2).2.1 (v_X2_isToldBack sp dy a1 a2).2.2 la kn re) = f') := by
  intro sz
  refine mx_start (by decide) (Nat.le_of_ble_eq_true rfl) ?_
  intro p e s m args below meth c hsz X hr hex hA hK hT H locs B ls hl
  obtain ⟨hx, hb, hml, hown, hts, hlocks⟩ := id X
  have hl : lv_has ls 5 [(0, .ref (ad 0)), (1, .int a1), (2, .int a2)] := hl
  refine lv_aload_n hx hb dX2_isToldBack_0 rfl (lv_at hl 0 rfl) ?_
  refine lv_iload_n hx hb dX2_isToldBack_1 rfl (lv_at hl 1 rfl) ?_
  refine k_xr (k := 1) (n := 6) hex X hsz hA B (ux_V (rest := []) X (c_X2_dateAt l hfl g N ad x sp dy la kn re hN a1 H.size) mw_X2_dateAt md_X2_dateAt rfl lk_X2_140 ⟨Nat.le_of_ble_eq_true rfl, Nat.le_of_ble_eq_true rfl⟩ hA hK hT B (pl_c hN 0 (by decide)) cf_0 rfl rfl hl.1 rfl (Nat.le_of_ble_eq_true rfl) dX2_isToldBack_2 ⟨Nat.le_of_ble_eq_true rfl, Nat.le_of_ble_eq_true rfl⟩) (Nat.le_of_ble_eq_true rfl) (Nat.le_of_ble_eq_true rfl) (Nat.le_of_ble_eq_true rfl) (Nat.le_of_ble_eq_true rfl) (fun E hE => by unfold x_X2_isToldBack; rw [xo_some hE]) (fun r ad' f' H locs hw B => ?_)
  obtain ⟨rfl, x1, rfl, rfl⟩ := hw
  refine lv_astore_n (lv' := [(3, .ref (ad (18 + a1.toNatClampNeg))), (0, .ref (ad 0)), (1, .int a1), (2, .int a2)]) hx hb dX2_isToldBack_5 rfl hl (by decide) rfl (fun ls hl => ?_)
  refine lv_aload_n hx hb dX2_isToldBack_6 rfl (lv_at hl 1 rfl) ?_
  refine lv_iload_n hx hb dX2_isToldBack_7 rfl (lv_at hl 3 rfl) ?_
  refine k_xr (k := 2) (n := 12) hex X hsz hA B (ux_V (rest := []) X (c_X2_dateAt l hfl g N ad x sp dy la kn re hN a2 H.size) mw_X2_dateAt md_X2_dateAt rfl lk_X2_140 ⟨Nat.le_of_ble_eq_true rfl, Nat.le_of_ble_eq_true rfl⟩ hA hK hT B (pl_c hN 0 (by decide)) cf_0 rfl rfl hl.1 rfl (Nat.le_of_ble_eq_true rfl) dX2_isToldBack_8 ⟨Nat.le_of_ble_eq_true rfl, Nat.le_of_ble_eq_true rfl⟩) (Nat.le_of_ble_eq_true rfl) (Nat.le_of_ble_eq_true rfl) (Nat.le_of_ble_eq_true rfl) (Nat.le_of_ble_eq_true rfl) (fun E hE => by unfold x_X2_isToldBack; rw [xo_none x1, xo_some hE]) (fun r ad' f' H locs hw B => ?_)
  obtain ⟨rfl, x2, rfl, rfl⟩ := hw
  refine lv_astore (lv' := [(4, .ref (ad (18 + a2.toNatClampNeg))), (3, .ref (ad (18 + a1.toNatClampNeg))), (0, .ref (ad 0)), (1, .int a1), (2, .int a2)]) hx hb dX2_isToldBack_11 hl (by decide) rfl (fun ls hl => ?_)
  refine lv_aload_n hx hb dX2_isToldBack_13 rfl (lv_at hl 2 rfl) ?_
  refine g_get (q := 0) (k := 6) X hK B rfl in_X2 (pl_c hN 0 (by decide)) cf_0 (by decide) lk_X2_25 rfl rfl dX2_isToldBack_14 ?_
  refine lv_aload_n hx hb dX2_isToldBack_17 rfl (lv_at hl 1 rfl) ?_
  refine lv_aload hx hb dX2_isToldBack_18 (lv_at hl 0 rfl) ?_
  refine k_i (k := 2) (n := 12) hA B (u_VN (rest := []) X (c_X1_putBetween l g N ad x sp dy la kn re hN 12 (by decide) a1.toNatClampNeg (Nat.lt_of_lt_of_le (xl_X2_dateAt x1) (by decide)) a2.toNatClampNeg (Nat.lt_of_lt_of_le (xl_X2_dateAt x2) (by decide)) H.size) mw_X1_putBetween md_X1_putBetween rfl lk_X2_173 ⟨Nat.le_of_ble_eq_true rfl, Nat.le_of_ble_eq_true rfl⟩ hA hK hT B (pl_sp hN (by decide)) (cf_sp (by decide)) rfl rfl hl.1 rfl (Nat.le_of_ble_eq_true rfl) dX2_isToldBack_20 ⟨Nat.le_of_ble_eq_true rfl, Nat.le_of_ble_eq_true rfl⟩) (Nat.le_of_ble_eq_true rfl) (Nat.le_of_ble_eq_true rfl) (fun r ad' f' H locs hw B => ?_)
  obtain ⟨rfl, rfl, rfl⟩ := hw
  refine lv_if_eq (tgt := 44) hx hb dX2_isToldBack_23 (by decide) (fun c3 => ?_) (fun c3 => ?_)
  · refine lv_iconst (v := 0) hx hb dX2_isToldBack_44 (by decide) ?_
    have ev := (show v_X2_isToldBack sp dy a1 a2 = (0, (v_X1_putBetween sp dy 12 a1.toNatClampNeg a2.toNatClampNeg).2, dy) from by unfold v_X2_isToldBack; rw [if_pos c3])
    exact vx_ret (rt_i X hr (ad, (cf g ad x (v_X1_putBetween sp dy 12 a1.toNatClampNeg a2.toNatClampNeg).2 dy la kn re)) B (PO_of B) ⟨rfl, by unfold x_X2_isToldBack; rw [xo_none x1, xo_none x2, if_pos c3], by rw [ev], by rw [ev]⟩ rfl (Nat.le_of_ble_eq_true rfl) (Nat.le_of_ble_eq_true rfl) dX2_isToldBack_45)
  · refine lv_aload_n hx hb dX2_isToldBack_26 rfl (lv_at hl 2 rfl) ?_
    refine lv_aload_n hx hb dX2_isToldBack_27 rfl (lv_at hl 1 rfl) ?_
    refine lv_aload_n hx hb dX2_isToldBack_28 rfl (lv_at hl 2 rfl) ?_
    refine g_get (q := 0) (k := 6) X hK B rfl in_X2 (pl_c hN 0 (by decide)) cf_0 (by decide) lk_X2_25 rfl rfl dX2_isToldBack_29 ?_
    refine lv_aload hx hb dX2_isToldBack_32 (lv_at hl 0 rfl) ?_
    refine k_i (k := 2) (n := 12) hA B (u_V (rest := []) X (c_X2_leads l g N ad x (v_X1_putBetween sp dy 12 a1.toNatClampNeg a2.toNatClampNeg).2 dy la kn re hN a1.toNatClampNeg (Nat.lt_of_lt_of_le (xl_X2_dateAt x1) (by decide)) 12 (by decide) a2.toNatClampNeg (Nat.lt_of_lt_of_le (xl_X2_dateAt x2) (by decide)) H.size) mw_X2_leads md_X2_leads rfl lk_X2_177 ⟨Nat.le_of_ble_eq_true rfl, Nat.le_of_ble_eq_true rfl⟩ hA hK hT B (pl_c hN 0 (by decide)) cf_0 rfl rfl hl.1 rfl (Nat.le_of_ble_eq_true rfl) dX2_isToldBack_34 ⟨Nat.le_of_ble_eq_true rfl, Nat.le_of_ble_eq_true rfl⟩) (Nat.le_of_ble_eq_true rfl) (Nat.le_of_ble_eq_true rfl) (fun r ad' f' H locs hw B => ?_)
    obtain ⟨rfl, rfl, rfl⟩ := hw
    refine lv_if_eq (tgt := 44) hx hb dX2_isToldBack_37 (by decide) (fun c4 => ?_) (fun c4 => ?_)
    · refine lv_iconst (v := 0) hx hb dX2_isToldBack_44 (by decide) ?_
      have ev := (show v_X2_isToldBack sp dy a1 a2 = (0, (v_X1_putBetween sp dy 12 a1.toNatClampNeg a2.toNatClampNeg).2, (v_X2_leads (v_X1_putBetween sp dy 12 a1.toNatClampNeg a2.toNatClampNeg).2 dy a1.toNatClampNeg 12 a2.toNatClampNeg).2) from by unfold v_X2_isToldBack; rw [if_neg c3, if_pos c4])
      exact vx_ret (rt_i X hr (ad, (cf g ad x (v_X1_putBetween sp dy 12 a1.toNatClampNeg a2.toNatClampNeg).2 (v_X2_leads (v_X1_putBetween sp dy 12 a1.toNatClampNeg a2.toNatClampNeg).2 dy a1.toNatClampNeg 12 a2.toNatClampNeg).2 la kn re)) B (PO_of B) ⟨rfl, by unfold x_X2_isToldBack; rw [xo_none x1, xo_none x2, if_neg c3, if_pos c4], by rw [ev], by rw [ev]⟩ rfl (Nat.le_of_ble_eq_true rfl) (Nat.le_of_ble_eq_true rfl) dX2_isToldBack_45)
    · refine lv_iconst (v := 1) hx hb dX2_isToldBack_40 (by decide) ?_
      refine lv_goto (tgt := 45) hx hb dX2_isToldBack_41 (by decide) ?_
      have ev := (show v_X2_isToldBack sp dy a1 a2 = (1, (v_X1_putBetween sp dy 12 a1.toNatClampNeg a2.toNatClampNeg).2, (v_X2_leads (v_X1_putBetween sp dy 12 a1.toNatClampNeg a2.toNatClampNeg).2 dy a1.toNatClampNeg 12 a2.toNatClampNeg).2) from by unfold v_X2_isToldBack; rw [if_neg c3, if_neg c4])
      exact vx_ret (rt_i X hr (ad, (cf g ad x (v_X1_putBetween sp dy 12 a1.toNatClampNeg a2.toNatClampNeg).2 (v_X2_leads (v_X1_putBetween sp dy 12 a1.toNatClampNeg a2.toNatClampNeg).2 dy a1.toNatClampNeg 12 a2.toNatClampNeg).2 la kn re)) B (PO_of B) ⟨rfl, by unfold x_X2_isToldBack; rw [xo_none x1, xo_none x2, if_neg c3, if_neg c4], by rw [ev], by rw [ev]⟩ rfl (Nat.le_of_ble_eq_true rfl) (Nat.le_of_ble_eq_true rfl) dX2_isToldBack_45)
def v_X2_order (dy : Nat → TR) (a1 : Int32) (a2 : Int32) : Int32 := (v_X0_orderTo dy a1.toNatClampNeg a2.toNatClampNeg)
def x_X2_order (a1 : Int32) (a2 : Int32) : Option String := xo (x_X2_dateAt a1) (xo (x_X2_dateAt a2) none)
set_option maxHeartbeats 4000000 in
set_option maxRecDepth 100000 in
theorem c_X2_order (l : Launch) (hfl : l.stackTraces = false) (g : GG) (N : Nat) (ad : Nat → Nat) (x : Nat → va_E) (sp dy : Nat → TR) (la kn re : Int32) (hN : 23 ≤ N) (a1 : Int32) (a2 : Int32) : XI l yX2_order cX2_order 4 (some .int) (rm 4 2 12) g [.ref (ad 0), .int a1, .int a2] N ad (cf g ad x sp dy la kn re) N (fun E => x_X2_order a1 a2 = some E) (fun r ad' f' => ad = ad' ∧ x_X2_order a1 a2 = none ∧ (v_X2_order dy a1 a2) = r ∧ (cf g ad x sp dy la kn re) = f') := by
  intro sz
  refine mx_start (by decide) (Nat.le_of_ble_eq_true rfl) ?_
  intro p e s m args below meth c hsz X hr hex hA hK hT H locs B ls hl
  obtain ⟨hx, hb, hml, hown, hts, hlocks⟩ := id X
  have hl : lv_has ls 4 [(0, .ref (ad 0)), (1, .int a1), (2, .int a2)] := hl
  refine lv_aload_n hx hb dX2_order_0 rfl (lv_at hl 0 rfl) ?_
  refine lv_iload_n hx hb dX2_order_1 rfl (lv_at hl 1 rfl) ?_
  refine k_xr (k := 1) (n := 6) hex X hsz hA B (ux_V (rest := []) X (c_X2_dateAt l hfl g N ad x sp dy la kn re hN a1 H.size) mw_X2_dateAt md_X2_dateAt rfl lk_X2_140 ⟨Nat.le_of_ble_eq_true rfl, Nat.le_of_ble_eq_true rfl⟩ hA hK hT B (pl_c hN 0 (by decide)) cf_0 rfl rfl hl.1 rfl (Nat.le_of_ble_eq_true rfl) dX2_order_2 ⟨Nat.le_of_ble_eq_true rfl, Nat.le_of_ble_eq_true rfl⟩) (Nat.le_of_ble_eq_true rfl) (Nat.le_of_ble_eq_true rfl) (Nat.le_of_ble_eq_true rfl) (Nat.le_of_ble_eq_true rfl) (fun E hE => by unfold x_X2_order; rw [xo_some hE]) (fun r ad' f' H locs hw B => ?_)
  obtain ⟨rfl, x1, rfl, rfl⟩ := hw
  refine lv_astore_n (lv' := [(3, .ref (ad (18 + a1.toNatClampNeg))), (0, .ref (ad 0)), (1, .int a1), (2, .int a2)]) hx hb dX2_order_5 rfl hl (by decide) rfl (fun ls hl => ?_)
  refine lv_aload_n hx hb dX2_order_6 rfl (lv_at hl 0 rfl) ?_
  refine lv_aload_n hx hb dX2_order_7 rfl (lv_at hl 1 rfl) ?_
  refine lv_iload_n hx hb dX2_order_8 rfl (lv_at hl 3 rfl) ?_
  refine k_xr (k := 2) (n := 12) hex X hsz hA B (ux_V (rest := [.ref (ad (18 + a1.toNatClampNeg))]) X (c_X2_dateAt l hfl g N ad x sp dy la kn re hN a2 H.size) mw_X2_dateAt md_X2_dateAt rfl lk_X2_140 ⟨Nat.le_of_ble_eq_true rfl, Nat.le_of_ble_eq_true rfl⟩ hA hK hT B (pl_c hN 0 (by decide)) cf_0 rfl rfl hl.1 rfl (Nat.le_of_ble_eq_true rfl) dX2_order_9 ⟨Nat.le_of_ble_eq_true rfl, Nat.le_of_ble_eq_true rfl⟩) (Nat.le_of_ble_eq_true rfl) (Nat.le_of_ble_eq_true rfl) (Nat.le_of_ble_eq_true rfl) (Nat.le_of_ble_eq_true rfl) (fun E hE => by unfold x_X2_order; rw [xo_none x1, xo_some hE]) (fun r ad' f' H locs hw B => ?_)
  obtain ⟨rfl, x2, rfl, rfl⟩ := hw
  refine k_i (k := 2) (n := 12) hA B (u_VN (rest := []) X (c_X0_orderTo l g N ad x sp dy la kn re hN a1.toNatClampNeg (Nat.lt_of_lt_of_le (xl_X2_dateAt x1) (by decide)) a2.toNatClampNeg (Nat.lt_of_lt_of_le (xl_X2_dateAt x2) (by decide)) H.size) mw_X0_orderTo md_X0_orderTo rfl lk_X2_181 ⟨Nat.le_of_ble_eq_true rfl, Nat.le_of_ble_eq_true rfl⟩ hA hK hT B (pl_dy hN (Nat.lt_of_lt_of_le (xl_X2_dateAt x1) (by decide))) (cf_dy (Nat.lt_of_lt_of_le (xl_X2_dateAt x1) (by decide))) rfl rfl hl.1 rfl (Nat.le_of_ble_eq_true rfl) dX2_order_12 ⟨Nat.le_of_ble_eq_true rfl, Nat.le_of_ble_eq_true rfl⟩) (Nat.le_of_ble_eq_true rfl) (Nat.le_of_ble_eq_true rfl) (fun r ad' f' H locs hw B => ?_)
  obtain ⟨rfl, rfl, rfl⟩ := hw
  have ev := (show v_X2_order dy a1 a2 = (v_X0_orderTo dy a1.toNatClampNeg a2.toNatClampNeg) from rfl)
  exact vx_ret (rt_i X hr (ad, (cf g ad x sp dy la kn re)) B (PO_of B) ⟨rfl, by unfold x_X2_order; rw [xo_none x1, xo_none x2], by rw [ev], rfl⟩ rfl (Nat.le_of_ble_eq_true rfl) (Nat.le_of_ble_eq_true rfl) dX2_order_15)
def v_X2_knock (kn : Int32) : Int32 × Int32 := (kn + 1, kn + 1)
set_option maxHeartbeats 4000000 in
set_option maxRecDepth 100000 in
theorem c_X2_knock (l : Launch) (g : GG) (N : Nat) (ad : Nat → Nat) (x : Nat → va_E) (sp dy : Nat → TR) (la kn re : Int32) (hN : 23 ≤ N) : KI l yX2_knock cX2_knock 1 (some .int) (rm 0 0 0) g [.ref (ad 0)] N ad (cf g ad x sp dy la kn re) N (fun r ad' f' => ad = ad' ∧ (v_X2_knock kn).1 = r ∧ (cf g ad x sp dy la (v_X2_knock kn).2 re) = f') := by
  intro sz
  refine mt_start (by decide) (Nat.le_of_ble_eq_true rfl) ?_
  intro p e s m args below meth c hsz X hr hnam hA hK hT H locs B ls hl
  obtain ⟨hx, hb, hml, hown, hts, hlocks⟩ := id X
  have hl : lv_has ls 1 [(0, .ref (ad 0))] := hl
  refine lv_aload_n hx hb dX2_knock_0 rfl (lv_at hl 0 rfl) ?_
  refine lv_dup hx hb dX2_knock_1 rfl ?_
  refine g_get (q := 0) (k := 4) X hK B rfl in_X2 (pl_c hN 0 (by decide)) cf_0 (by decide) lk_X2_185 rfl rfl dX2_knock_2 ?_
  refine lv_iconst (v := 1) hx hb dX2_knock_5 (by decide) ?_
  refine lv_iadd hx hb dX2_knock_6 ?_
  refine g_put (q := 0) (k := 4) X hK B rfl in_X2 tyX2_ok nmX2 (pl_c hN 0 (by decide)) cf_0 (by decide) lk_X2_185 rfl rfl rfl rfl rfl (Nat.le_of_ble_eq_true rfl) dX2_knock_7 (fun H locs B => ?_)
  have B : WB g (aw N ad sz) s.heap N ad (cf g ad x sp dy la (kn + 1) re) H locs := by rw [← cf_up_mn]; exact B
  refine lv_aload_n hx hb dX2_knock_10 rfl (lv_at hl 0 rfl) ?_
  refine g_get (q := 0) (k := 4) X hK B rfl in_X2 (pl_c hN 0 (by decide)) cf_0 (by decide) lk_X2_185 rfl rfl dX2_knock_11 ?_
  have ev := (show v_X2_knock kn = (kn + 1, kn + 1) from rfl)
  exact rt_i X hr (ad, (cf g ad x sp dy la (kn + 1) re)) B (PO_of B) ⟨rfl, by rw [ev], by rw [ev]⟩ rfl (Nat.le_of_ble_eq_true rfl) (Nat.le_of_ble_eq_true rfl) dX2_knock_14
def wX2_zeroCards_4 (sp : Nat → TR) : Nat → Int32 → Int32 → Int32
  | 0, nn, mn => 0
  | n + 1, nn, mn => if 4 ≤ nn then mn else (if (v_X1_isNothing sp nn.toNatClampNeg) = 0 then (wX2_zeroCards_4 sp n (nn + 1) (mn + 0)) else (wX2_zeroCards_4 sp n (nn + 1) (mn + 1)))
def v_X2_zeroCards (sp : Nat → TR) : Int32 := wX2_zeroCards_4 sp (((4 : Int32).toInt - (0 : Int32).toInt).toNat + 1) 0 0
set_option maxHeartbeats 4000000 in
set_option maxRecDepth 100000 in
theorem c_X2_zeroCards (l : Launch) (g : GG) (N : Nat) (ad : Nat → Nat) (x : Nat → va_E) (sp dy : Nat → TR) (la kn re : Int32) (hN : 23 ≤ N) : KI l yX2_zeroCards cX2_zeroCards 3 (some .int) (rm 1 0 0) g [.ref (ad 0)] N ad (cf g ad x sp dy la kn re) N (fun r ad' f' => ad = ad' ∧ (v_X2_zeroCards sp) = r ∧ (cf g ad x sp dy la kn re) = f') := by
  intro sz
  refine mt_start (by decide) (Nat.le_of_ble_eq_true rfl) ?_
  intro p e s m args below meth c hsz X hr hnam hA hK hT H locs B ls hl
  obtain ⟨hx, hb, hml, hown, hts, hlocks⟩ := id X
  have hl : lv_has ls 3 [(0, .ref (ad 0))] := hl
  refine lv_iconst (v := 0) hx hb dX2_zeroCards_0 (by decide) ?_
  refine lv_istore_n (lv' := [(1, .int 0), (0, .ref (ad 0))]) hx hb dX2_zeroCards_1 rfl hl (by decide) rfl (fun ls hl => ?_)
  refine lv_iconst (v := 0) hx hb dX2_zeroCards_2 (by decide) ?_
  refine lv_istore_n (lv' := [(2, .int 0), (1, .int 0), (0, .ref (ad 0))]) hx hb dX2_zeroCards_3 rfl hl (by decide) rfl (fun ls hl => ?_)
  have loop1 : ∀ (n1 : Nat) (nn : Int32) (mn : Int32) (H : Heap) (locs : List Loc), ((4 : Int32).toInt - nn.toInt).toNat < n1 → v_X2_zeroCards sp = wX2_zeroCards_4 sp n1 nn mn → ¬ nn < 0 → WB g (aw N ad sz) s.heap N ad (cf g ad x sp dy la kn re) H locs → ∀ ls : Array Slot, lv_has ls 3 [(2, .int nn), (1, .int mn), (0, .ref (ad 0))] → W p l e (rm 1 0 0) s m args below meth c H locs 0 0 (MQ below (va_Qi (fun r (u : WS) => (fun r ad' f' => ad = ad' ∧ (v_X2_zeroCards sp) = r ∧ (cf g ad x sp dy la kn re) = f') r u.1 u.2) (fun u t => PO g N u.1 u.2 (aw N ad sz) t) (aw N ad sz)) args s (rm 1 0 0).cells (rm 1 0 0).slots (aw N ad sz)) (F0 m 4 ls []) := by
    intro n1
    induction n1 with
    | zero => intro nn mn H locs hn; exact absurd hn (Nat.not_lt_zero _)
    | succ n1 ih1 =>
      intro nn mn H locs hn1 he1 hk0 B ls hl
      refine lv_iload_n hx hb dX2_zeroCards_4 rfl (lv_at hl 0 rfl) ?_
      refine lv_iconst (v := 4) hx hb dX2_zeroCards_5 (by decide) ?_
      refine lv_icmp_ge (tgt := 35) hx hb dX2_zeroCards_6 (by decide) (fun c2 => ?_) (fun c2 => ?_)
      · refine lv_iload_n hx hb dX2_zeroCards_35 rfl (lv_at hl 1 rfl) ?_
        have ev := (show v_X2_zeroCards sp = mn from he1.trans (by rw [wX2_zeroCards_4, if_pos c2]))
        exact rt_i X hr (ad, (cf g ad x sp dy la kn re)) B (PO_of B) ⟨rfl, by rw [ev], rfl⟩ rfl (Nat.le_of_ble_eq_true rfl) (Nat.le_of_ble_eq_true rfl) dX2_zeroCards_36
      · refine lv_iload_n hx hb dX2_zeroCards_9 rfl (lv_at hl 1 rfl) ?_
        refine lv_aload_n hx hb dX2_zeroCards_10 rfl (lv_at hl 2 rfl) ?_
        refine g_get (q := 0) (k := 0) X hK B rfl in_X2 (pl_c hN 0 (by decide)) cf_0 (by decide) lk_X2_11 rfl rfl dX2_zeroCards_11 ?_
        refine lv_iload_n hx hb dX2_zeroCards_14 rfl (lv_at hl 0 rfl) ?_
        refine g_aald (q := 1) (t0 := 3) X hK B (pl_c hN 1 (by decide)) cf_1 rfl rfl (ix_in (n := 4) hk0 c2 rfl) dX2_zeroCards_15 ?_
        have h3 : nn.toNatClampNeg < 14 := by have := (ix_lt (n := 4) hk0 c2 rfl); omega
        refine k_i (k := 0) (n := 0) hA B (u_VN (rest := [.int mn]) X (c_X1_isNothing l g N ad x sp dy la kn re hN nn.toNatClampNeg h3 H.size) mw_X1_isNothing md_X1_isNothing rfl lk_X2_116 ⟨Nat.le_of_ble_eq_true rfl, Nat.le_of_ble_eq_true rfl⟩ hA hK hT B (pl_sp hN h3) (cf_sp h3) rfl rfl hl.1 rfl (Nat.le_of_ble_eq_true rfl) dX2_zeroCards_16 ⟨Nat.le_of_ble_eq_true rfl, Nat.le_of_ble_eq_true rfl⟩) (Nat.le_of_ble_eq_true rfl) (Nat.le_of_ble_eq_true rfl) (fun r ad' f' H locs hw B => ?_)
        obtain ⟨rfl, rfl, rfl⟩ := hw
        refine lv_if_eq (tgt := 26) hx hb dX2_zeroCards_19 (by decide) (fun c4 => ?_) (fun c4 => ?_)
        · refine lv_iconst (v := 0) hx hb dX2_zeroCards_26 (by decide) ?_
          refine lv_iadd hx hb dX2_zeroCards_27 ?_
          refine lv_istore_n (lv' := [(1, .int (mn + 0)), (2, .int nn), (0, .ref (ad 0))]) hx hb dX2_zeroCards_28 rfl hl (by decide) rfl (fun ls hl => ?_)
          refine lv_iinc (v := nn + 1) (lv' := [(2, .int (nn + 1)), (1, .int (mn + 0)), (0, .ref (ad 0))]) hx hb dX2_zeroCards_29 hl (k := 1) rfl rfl (by decide) rfl (fun ls hl => ?_)
          refine lv_goto (tgt := 4) hx hb dX2_zeroCards_32 (by decide) ?_
          exact ih1 (nn + 1) (mn + 0) H locs (fu_le c2 hn1) (show v_X2_zeroCards sp = wX2_zeroCards_4 sp n1 (nn + 1) (mn + 0) from he1.trans (by rw [wX2_zeroCards_4, if_neg c2, if_pos c4])) (inc_nn hk0 c2) B ls (lv_sub hl [0, 1, 2] rfl)
        · refine lv_iconst (v := 1) hx hb dX2_zeroCards_22 (by decide) ?_
          refine lv_goto (tgt := 27) hx hb dX2_zeroCards_23 (by decide) ?_
          refine lv_iadd hx hb dX2_zeroCards_27 ?_
          refine lv_istore_n (lv' := [(1, .int (mn + 1)), (2, .int nn), (0, .ref (ad 0))]) hx hb dX2_zeroCards_28 rfl hl (by decide) rfl (fun ls hl => ?_)
          refine lv_iinc (v := nn + 1) (lv' := [(2, .int (nn + 1)), (1, .int (mn + 1)), (0, .ref (ad 0))]) hx hb dX2_zeroCards_29 hl (k := 1) rfl rfl (by decide) rfl (fun ls hl => ?_)
          refine lv_goto (tgt := 4) hx hb dX2_zeroCards_32 (by decide) ?_
          exact ih1 (nn + 1) (mn + 1) H locs (fu_le c2 hn1) (show v_X2_zeroCards sp = wX2_zeroCards_4 sp n1 (nn + 1) (mn + 1) from he1.trans (by rw [wX2_zeroCards_4, if_neg c2, if_neg c4])) (inc_nn hk0 c2) B ls (lv_sub hl [0, 1, 2] rfl)
  exact loop1 (((4 : Int32).toInt - (0 : Int32).toInt).toNat + 1) 0 0 H locs (Nat.lt_succ_self _) (show v_X2_zeroCards sp = wX2_zeroCards_4 sp (((4 : Int32).toInt - (0 : Int32).toInt).toNat + 1) 0 0 from rfl) (by decide) B ls hl
def wX2_negativeCards_4 (sp : Nat → TR) : Nat → Int32 → Int32 → Int32
  | 0, nn, mn => 0
  | n + 1, nn, mn => if 4 ≤ nn then mn else (if (v_X1_isBelowZero sp nn.toNatClampNeg) = 0 then (wX2_negativeCards_4 sp n (nn + 1) (mn + 0)) else (wX2_negativeCards_4 sp n (nn + 1) (mn + 1)))
def v_X2_negativeCards (sp : Nat → TR) : Int32 := wX2_negativeCards_4 sp (((4 : Int32).toInt - (0 : Int32).toInt).toNat + 1) 0 0
set_option maxHeartbeats 4000000 in
set_option maxRecDepth 100000 in
theorem c_X2_negativeCards (l : Launch) (g : GG) (N : Nat) (ad : Nat → Nat) (x : Nat → va_E) (sp dy : Nat → TR) (la kn re : Int32) (hN : 23 ≤ N) : KI l yX2_negativeCards cX2_negativeCards 3 (some .int) (rm 1 0 0) g [.ref (ad 0)] N ad (cf g ad x sp dy la kn re) N (fun r ad' f' => ad = ad' ∧ (v_X2_negativeCards sp) = r ∧ (cf g ad x sp dy la kn re) = f') := by
  intro sz
  refine mt_start (by decide) (Nat.le_of_ble_eq_true rfl) ?_
  intro p e s m args below meth c hsz X hr hnam hA hK hT H locs B ls hl
  obtain ⟨hx, hb, hml, hown, hts, hlocks⟩ := id X
  have hl : lv_has ls 3 [(0, .ref (ad 0))] := hl
  refine lv_iconst (v := 0) hx hb dX2_negativeCards_0 (by decide) ?_
  refine lv_istore_n (lv' := [(1, .int 0), (0, .ref (ad 0))]) hx hb dX2_negativeCards_1 rfl hl (by decide) rfl (fun ls hl => ?_)
  refine lv_iconst (v := 0) hx hb dX2_negativeCards_2 (by decide) ?_
  refine lv_istore_n (lv' := [(2, .int 0), (1, .int 0), (0, .ref (ad 0))]) hx hb dX2_negativeCards_3 rfl hl (by decide) rfl (fun ls hl => ?_)
  have loop1 : ∀ (n1 : Nat) (nn : Int32) (mn : Int32) (H : Heap) (locs : List Loc), ((4 : Int32).toInt - nn.toInt).toNat < n1 → v_X2_negativeCards sp = wX2_negativeCards_4 sp n1 nn mn → ¬ nn < 0 → WB g (aw N ad sz) s.heap N ad (cf g ad x sp dy la kn re) H locs → ∀ ls : Array Slot, lv_has ls 3 [(2, .int nn), (1, .int mn), (0, .ref (ad 0))] → W p l e (rm 1 0 0) s m args below meth c H locs 0 0 (MQ below (va_Qi (fun r (u : WS) => (fun r ad' f' => ad = ad' ∧ (v_X2_negativeCards sp) = r ∧ (cf g ad x sp dy la kn re) = f') r u.1 u.2) (fun u t => PO g N u.1 u.2 (aw N ad sz) t) (aw N ad sz)) args s (rm 1 0 0).cells (rm 1 0 0).slots (aw N ad sz)) (F0 m 4 ls []) := by
    intro n1
    induction n1 with
    | zero => intro nn mn H locs hn; exact absurd hn (Nat.not_lt_zero _)
    | succ n1 ih1 =>
      intro nn mn H locs hn1 he1 hk0 B ls hl
      refine lv_iload_n hx hb dX2_negativeCards_4 rfl (lv_at hl 0 rfl) ?_
      refine lv_iconst (v := 4) hx hb dX2_negativeCards_5 (by decide) ?_
      refine lv_icmp_ge (tgt := 35) hx hb dX2_negativeCards_6 (by decide) (fun c2 => ?_) (fun c2 => ?_)
      · refine lv_iload_n hx hb dX2_negativeCards_35 rfl (lv_at hl 1 rfl) ?_
        have ev := (show v_X2_negativeCards sp = mn from he1.trans (by rw [wX2_negativeCards_4, if_pos c2]))
        exact rt_i X hr (ad, (cf g ad x sp dy la kn re)) B (PO_of B) ⟨rfl, by rw [ev], rfl⟩ rfl (Nat.le_of_ble_eq_true rfl) (Nat.le_of_ble_eq_true rfl) dX2_negativeCards_36
      · refine lv_iload_n hx hb dX2_negativeCards_9 rfl (lv_at hl 1 rfl) ?_
        refine lv_aload_n hx hb dX2_negativeCards_10 rfl (lv_at hl 2 rfl) ?_
        refine g_get (q := 0) (k := 0) X hK B rfl in_X2 (pl_c hN 0 (by decide)) cf_0 (by decide) lk_X2_11 rfl rfl dX2_negativeCards_11 ?_
        refine lv_iload_n hx hb dX2_negativeCards_14 rfl (lv_at hl 0 rfl) ?_
        refine g_aald (q := 1) (t0 := 3) X hK B (pl_c hN 1 (by decide)) cf_1 rfl rfl (ix_in (n := 4) hk0 c2 rfl) dX2_negativeCards_15 ?_
        have h3 : nn.toNatClampNeg < 14 := by have := (ix_lt (n := 4) hk0 c2 rfl); omega
        refine k_i (k := 0) (n := 0) hA B (u_VN (rest := [.int mn]) X (c_X1_isBelowZero l g N ad x sp dy la kn re hN nn.toNatClampNeg h3 H.size) mw_X1_isBelowZero md_X1_isBelowZero rfl lk_X2_120 ⟨Nat.le_of_ble_eq_true rfl, Nat.le_of_ble_eq_true rfl⟩ hA hK hT B (pl_sp hN h3) (cf_sp h3) rfl rfl hl.1 rfl (Nat.le_of_ble_eq_true rfl) dX2_negativeCards_16 ⟨Nat.le_of_ble_eq_true rfl, Nat.le_of_ble_eq_true rfl⟩) (Nat.le_of_ble_eq_true rfl) (Nat.le_of_ble_eq_true rfl) (fun r ad' f' H locs hw B => ?_)
        obtain ⟨rfl, rfl, rfl⟩ := hw
        refine lv_if_eq (tgt := 26) hx hb dX2_negativeCards_19 (by decide) (fun c4 => ?_) (fun c4 => ?_)
        · refine lv_iconst (v := 0) hx hb dX2_negativeCards_26 (by decide) ?_
          refine lv_iadd hx hb dX2_negativeCards_27 ?_
          refine lv_istore_n (lv' := [(1, .int (mn + 0)), (2, .int nn), (0, .ref (ad 0))]) hx hb dX2_negativeCards_28 rfl hl (by decide) rfl (fun ls hl => ?_)
          refine lv_iinc (v := nn + 1) (lv' := [(2, .int (nn + 1)), (1, .int (mn + 0)), (0, .ref (ad 0))]) hx hb dX2_negativeCards_29 hl (k := 1) rfl rfl (by decide) rfl (fun ls hl => ?_)
          refine lv_goto (tgt := 4) hx hb dX2_negativeCards_32 (by decide) ?_
          exact ih1 (nn + 1) (mn + 0) H locs (fu_le c2 hn1) (show v_X2_negativeCards sp = wX2_negativeCards_4 sp n1 (nn + 1) (mn + 0) from he1.trans (by rw [wX2_negativeCards_4, if_neg c2, if_pos c4])) (inc_nn hk0 c2) B ls (lv_sub hl [0, 1, 2] rfl)
        · refine lv_iconst (v := 1) hx hb dX2_negativeCards_22 (by decide) ?_
          refine lv_goto (tgt := 27) hx hb dX2_negativeCards_23 (by decide) ?_
          refine lv_iadd hx hb dX2_negativeCards_27 ?_
          refine lv_istore_n (lv' := [(1, .int (mn + 1)), (2, .int nn), (0, .ref (ad 0))]) hx hb dX2_negativeCards_28 rfl hl (by decide) rfl (fun ls hl => ?_)
          refine lv_iinc (v := nn + 1) (lv' := [(2, .int (nn + 1)), (1, .int (mn + 1)), (0, .ref (ad 0))]) hx hb dX2_negativeCards_29 hl (k := 1) rfl rfl (by decide) rfl (fun ls hl => ?_)
          refine lv_goto (tgt := 4) hx hb dX2_negativeCards_32 (by decide) ?_
          exact ih1 (nn + 1) (mn + 1) H locs (fu_le c2 hn1) (show v_X2_negativeCards sp = wX2_negativeCards_4 sp n1 (nn + 1) (mn + 1) from he1.trans (by rw [wX2_negativeCards_4, if_neg c2, if_neg c4])) (inc_nn hk0 c2) B ls (lv_sub hl [0, 1, 2] rfl)
  exact loop1 (((4 : Int32).toInt - (0 : Int32).toInt).toNat + 1) 0 0 H locs (Nat.lt_succ_self _) (show v_X2_negativeCards sp = wX2_negativeCards_4 sp (((4 : Int32).toInt - (0 : Int32).toInt).toNat + 1) 0 0 from rfl) (by decide) B ls hl
def v_X2_ofHouse (sp : Nat → TR) (la : Int32) (kn : Int32) (re : Int32) (a1 : Int32) : Int32 := if a1 = 0 then kn else (if a1 = 1 then re else (if a1 = 2 then la else (if a1 = 3 then (v_X2_zeroCards sp) else (v_X2_negativeCards sp))))
set_option maxHeartbeats 4000000 in
set_option maxRecDepth 100000 in
theorem c_X2_ofHouse (l : Launch) (g : GG) (N : Nat) (ad : Nat → Nat) (x : Nat → va_E) (sp dy : Nat → TR) (la kn re : Int32) (hN : 23 ≤ N) (a1 : Int32) : KI l yX2_ofHouse cX2_ofHouse 2 (some .int) (rm 2 0 0) g [.ref (ad 0), .int a1] N ad (cf g ad x sp dy la kn re) N (fun r ad' f' => ad = ad' ∧ (v_X2_ofHouse sp la kn re a1) = r ∧ (cf g ad x sp dy la kn re) = f') := by
  intro sz
  refine mt_start (by decide) (Nat.le_of_ble_eq_true rfl) ?_
  intro p e s m args below meth c hsz X hr hnam hA hK hT H locs B ls hl
  obtain ⟨hx, hb, hml, hown, hts, hlocks⟩ := id X
  have hl : lv_has ls 2 [(0, .ref (ad 0)), (1, .int a1)] := hl
  refine lv_iload_n hx hb dX2_ofHouse_0 rfl (lv_at hl 1 rfl) ?_
  by_cases c1 : a1 = 0
  · refine lv_tableIn (tgt := 32) hx hb dX2_ofHouse_1 (by rw [c1]; decide) (by rw [c1]; decide) (by rw [c1]; rfl) (by decide) ?_
    refine lv_aload_n hx hb dX2_ofHouse_32 rfl (lv_at hl 0 rfl) ?_
    refine g_get (q := 0) (k := 4) X hK B rfl in_X2 (pl_c hN 0 (by decide)) cf_0 (by decide) lk_X2_185 rfl rfl dX2_ofHouse_33 ?_
    have ev := (show v_X2_ofHouse sp la kn re a1 = kn from by unfold v_X2_ofHouse; rw [if_pos c1])
    exact rt_i X hr (ad, (cf g ad x sp dy la kn re)) B (PO_of B) ⟨rfl, by rw [ev], rfl⟩ rfl (Nat.le_of_ble_eq_true rfl) (Nat.le_of_ble_eq_true rfl) dX2_ofHouse_36
  · by_cases c2 : a1 = 1
    · refine lv_tableIn (tgt := 37) hx hb dX2_ofHouse_1 (by rw [c2]; decide) (by rw [c2]; decide) (by rw [c2]; rfl) (by decide) ?_
      refine lv_aload_n hx hb dX2_ofHouse_37 rfl (lv_at hl 0 rfl) ?_
      refine g_get (q := 0) (k := 5) X hK B rfl in_X2 (pl_c hN 0 (by decide)) cf_0 (by decide) lk_X2_236 rfl rfl dX2_ofHouse_38 ?_
      have ev := (show v_X2_ofHouse sp la kn re a1 = re from by unfold v_X2_ofHouse; rw [if_neg c1, if_pos c2])
      exact rt_i X hr (ad, (cf g ad x sp dy la kn re)) B (PO_of B) ⟨rfl, by rw [ev], rfl⟩ rfl (Nat.le_of_ble_eq_true rfl) (Nat.le_of_ble_eq_true rfl) dX2_ofHouse_41
    · by_cases c3 : a1 = 2
      · refine lv_tableIn (tgt := 42) hx hb dX2_ofHouse_1 (by rw [c3]; decide) (by rw [c3]; decide) (by rw [c3]; rfl) (by decide) ?_
        refine lv_aload_n hx hb dX2_ofHouse_42 rfl (lv_at hl 0 rfl) ?_
        refine g_get (q := 0) (k := 3) X hK B rfl in_X2 (pl_c hN 0 (by decide)) cf_0 (by decide) lk_X2_91 rfl rfl dX2_ofHouse_43 ?_
        have ev := (show v_X2_ofHouse sp la kn re a1 = la from by unfold v_X2_ofHouse; rw [if_neg c1, if_neg c2, if_pos c3])
        exact rt_i X hr (ad, (cf g ad x sp dy la kn re)) B (PO_of B) ⟨rfl, by rw [ev], rfl⟩ rfl (Nat.le_of_ble_eq_true rfl) (Nat.le_of_ble_eq_true rfl) dX2_ofHouse_46
      · by_cases c4 : a1 = 3
        · refine lv_tableIn (tgt := 47) hx hb dX2_ofHouse_1 (by rw [c4]; decide) (by rw [c4]; decide) (by rw [c4]; rfl) (by decide) ?_
          refine lv_aload_n hx hb dX2_ofHouse_47 rfl (lv_at hl 0 rfl) ?_
          refine k_i (k := 0) (n := 0) hA B (u_V (rest := []) X (c_X2_zeroCards l g N ad x sp dy la kn re hN H.size) mw_X2_zeroCards md_X2_zeroCards rfl lk_X2_245 ⟨Nat.le_of_ble_eq_true rfl, Nat.le_of_ble_eq_true rfl⟩ hA hK hT B (pl_c hN 0 (by decide)) cf_0 rfl rfl hl.1 rfl (Nat.le_of_ble_eq_true rfl) dX2_ofHouse_48 ⟨Nat.le_of_ble_eq_true rfl, Nat.le_of_ble_eq_true rfl⟩) (Nat.le_of_ble_eq_true rfl) (Nat.le_of_ble_eq_true rfl) (fun r ad' f' H locs hw B => ?_)
          obtain ⟨rfl, rfl, rfl⟩ := hw
          have ev := (show v_X2_ofHouse sp la kn re a1 = (v_X2_zeroCards sp) from by unfold v_X2_ofHouse; rw [if_neg c1, if_neg c2, if_neg c3, if_pos c4])
          exact rt_i X hr (ad, (cf g ad x sp dy la kn re)) B (PO_of B) ⟨rfl, by rw [ev], rfl⟩ rfl (Nat.le_of_ble_eq_true rfl) (Nat.le_of_ble_eq_true rfl) dX2_ofHouse_51
        · have sc1 : a1.toInt ≠ 0 := sw_ne c1 rfl
          have sc2 : a1.toInt ≠ 1 := sw_ne c2 rfl
          have sc3 : a1.toInt ≠ 2 := sw_ne c3 rfl
          have sc4 : a1.toInt ≠ 3 := sw_ne c4 rfl
          refine lv_tableOut (tgt := 52) hx hb dX2_ofHouse_1 (by have := a1.toInt; omega) (by decide) ?_
          refine lv_aload_n hx hb dX2_ofHouse_52 rfl (lv_at hl 0 rfl) ?_
          refine k_i (k := 0) (n := 0) hA B (u_V (rest := []) X (c_X2_negativeCards l g N ad x sp dy la kn re hN H.size) mw_X2_negativeCards md_X2_negativeCards rfl lk_X2_248 ⟨Nat.le_of_ble_eq_true rfl, Nat.le_of_ble_eq_true rfl⟩ hA hK hT B (pl_c hN 0 (by decide)) cf_0 rfl rfl hl.1 rfl (Nat.le_of_ble_eq_true rfl) dX2_ofHouse_53 ⟨Nat.le_of_ble_eq_true rfl, Nat.le_of_ble_eq_true rfl⟩) (Nat.le_of_ble_eq_true rfl) (Nat.le_of_ble_eq_true rfl) (fun r ad' f' H locs hw B => ?_)
          obtain ⟨rfl, rfl, rfl⟩ := hw
          have ev := (show v_X2_ofHouse sp la kn re a1 = (v_X2_negativeCards sp) from by unfold v_X2_ofHouse; rw [if_neg c1, if_neg c2, if_neg c3, if_neg c4])
          exact rt_i X hr (ad, (cf g ad x sp dy la kn re)) B (PO_of B) ⟨rfl, by rw [ev], rfl⟩ rfl (Nat.le_of_ble_eq_true rfl) (Nat.le_of_ble_eq_true rfl) dX2_ofHouse_56
def v_X2_house (sp : Nat → TR) (la : Int32) (kn : Int32) (re : Int32) (a1 : Int32) : Int32 := (v_X2_ofHouse sp la kn re a1)
def x_X2_house (a1 : Int32) : Option String := xo (x_X2_checkWhat a1 5) none
set_option maxHeartbeats 4000000 in
set_option maxRecDepth 100000 in
theorem c_X2_house (l : Launch) (hfl : l.stackTraces = false) (g : GG) (N : Nat) (ad : Nat → Nat) (x : Nat → va_E) (sp dy : Nat → TR) (la kn re : Int32) (hN : 23 ≤ N) (a1 : Int32) : XI l yX2_house cX2_house 2 (some .int) (rm 3 1 6) g [.ref (ad 0), .int a1] N ad (cf g ad x sp dy la kn re) N (fun E => x_X2_house a1 = some E) (fun r ad' f' => ad = ad' ∧ x_X2_house a1 = none ∧ (v_X2_house sp la kn re a1) = r ∧ (cf g ad x sp dy la kn re) = f') := by
  intro sz
  refine mx_start (by decide) (Nat.le_of_ble_eq_true rfl) ?_
  intro p e s m args below meth c hsz X hr hex hA hK hT H locs B ls hl
  obtain ⟨hx, hb, hml, hown, hts, hlocks⟩ := id X
  have hl : lv_has ls 2 [(0, .ref (ad 0)), (1, .int a1)] := hl
  refine lv_iload_n hx hb dX2_house_0 rfl (lv_at hl 1 rfl) ?_
  refine lv_iconst (v := 5) hx hb dX2_house_1 (by decide) ?_
  refine k_xv (k := 1) (n := 6) hex X hsz hA B (ux_S (rest := []) X (c_X2_checkWhat l hfl g N ad x sp dy la kn re hN a1 5 H.size) mw_X2_checkWhat md_X2_checkWhat rfl lk_X2_51 ⟨Nat.le_of_ble_eq_true rfl, Nat.le_of_ble_eq_true rfl⟩ hA hK hT B hl.1 rfl (Nat.le_of_ble_eq_true rfl) dX2_house_2 ⟨Nat.le_of_ble_eq_true rfl, Nat.le_of_ble_eq_true rfl⟩) (Nat.le_of_ble_eq_true rfl) (Nat.le_of_ble_eq_true rfl) (Nat.le_of_ble_eq_true rfl) (Nat.le_of_ble_eq_true rfl) (fun E hE => by unfold x_X2_house; rw [xo_some hE]) (fun ad' f' H locs hw B => ?_)
  obtain ⟨rfl, x1, rfl⟩ := hw
  refine lv_aload_n hx hb dX2_house_5 rfl (lv_at hl 0 rfl) ?_
  refine lv_iload_n hx hb dX2_house_6 rfl (lv_at hl 1 rfl) ?_
  refine k_i (k := 1) (n := 6) hA B (u_V (rest := []) X (c_X2_ofHouse l g N ad x sp dy la kn re hN a1 H.size) mw_X2_ofHouse md_X2_ofHouse rfl lk_X2_188 ⟨Nat.le_of_ble_eq_true rfl, Nat.le_of_ble_eq_true rfl⟩ hA hK hT B (pl_c hN 0 (by decide)) cf_0 rfl rfl hl.1 rfl (Nat.le_of_ble_eq_true rfl) dX2_house_7 ⟨Nat.le_of_ble_eq_true rfl, Nat.le_of_ble_eq_true rfl⟩) (Nat.le_of_ble_eq_true rfl) (Nat.le_of_ble_eq_true rfl) (fun r ad' f' H locs hw B => ?_)
  obtain ⟨rfl, rfl, rfl⟩ := hw
  have ev := (show v_X2_house sp la kn re a1 = (v_X2_ofHouse sp la kn re a1) from rfl)
  exact vx_ret (rt_i X hr (ad, (cf g ad x sp dy la kn re)) B (PO_of B) ⟨rfl, by unfold x_X2_house; rw [xo_none x1], by rw [ev], rfl⟩ rfl (Nat.le_of_ble_eq_true rfl) (Nat.le_of_ble_eq_true rfl) dX2_house_10)
end
section
set_option maxHeartbeats 4000000 in
set_option maxRecDepth 100000 in
theorem c_X2_isSpanSound (l : Launch) (g : GG) (N : Nat) (ad : Nat → Nat) (x : Nat → va_E) (sp dy : Nat → TR) (la kn re : Int32) (hN : 23 ≤ N) (i1 : Nat) (hi1 : i1 < 14) : KI l yX2_isSpanSound cX2_isSpanSound 2 (some .boolean) (rm 4 0 0) g [.ref (ad 0), .ref (ad (4 + i1))] N ad (cf g ad x sp dy la kn re) N (fun r ad' f' => ad = ad' ∧ ∃ sp' dy' : Nat → TR, (∀ j, j < 12 → sp' j = sp j) ∧ (∀ j, j < 4 → dy' j = dy j) ∧ cf g ad x sp' dy' la kn re = f') := by
  intro sz
  refine mt_start (by decide) (Nat.le_of_ble_eq_true rfl) ?_
  intro p e s m args below meth c hsz X hr hnam hA hK hT H locs B ls hl
  obtain ⟨hx, hb, hml, hown, hts, hlocks⟩ := id X
  have hl : lv_has ls 2 [(0, .ref (ad 0)), (1, .ref (ad (4 + i1)))] := hl
  refine lv_aload_n hx hb dX2_isSpanSound_0 rfl (lv_at hl 0 rfl) ?_
  refine g_get (q := 0) (k := 6) X hK B rfl in_X2 (pl_c hN 0 (by decide)) cf_0 (by decide) lk_X2_25 rfl rfl dX2_isSpanSound_1 ?_
  refine lv_aload_n hx hb dX2_isSpanSound_4 rfl (lv_at hl 1 rfl) ?_
  refine g_getN (q := (4 + i1)) (k := 0) X hK hT B rfl in_X1 (pl_sp hN hi1) (cf_sp hi1) (by decide) lk_X2_55 rfl rfl dX2_isSpanSound_5 ?_
  refine lv_i2l (v := (sp i1).1.toInt64) hx hb dX2_isSpanSound_8 rfl ?_
  refine lv_aload_n hx hb dX2_isSpanSound_9 rfl (lv_at hl 1 rfl) ?_
  refine g_getN (q := (4 + i1)) (k := 1) X hK hT B rfl in_X1 (pl_sp hN hi1) (cf_sp hi1) (by decide) lk_X2_59 rfl rfl dX2_isSpanSound_10 ?_
  refine lv_i2l (v := (sp i1).2.1.toInt64) hx hb dX2_isSpanSound_13 rfl ?_
  refine lv_aload_n hx hb dX2_isSpanSound_14 rfl (lv_at hl 1 rfl) ?_
  refine g_getN (q := (4 + i1)) (k := 2) X hK hT B rfl in_X1 (pl_sp hN hi1) (cf_sp hi1) (by decide) lk_X2_62 rfl rfl dX2_isSpanSound_15 ?_
  refine lv_i2l (v := (sp i1).2.2.toInt64) hx hb dX2_isSpanSound_18 rfl ?_
  refine k_i (k := 0) (n := 0) hA B (u_VN (rest := []) X (c_X1_put l g N ad x sp dy la kn re hN 12 (by decide) ((sp i1).1.toInt64) ((sp i1).2.1.toInt64) ((sp i1).2.2.toInt64) H.size) mw_X1_put md_X1_put rfl lk_X2_41 ⟨Nat.le_of_ble_eq_true rfl, Nat.le_of_ble_eq_true rfl⟩ hA hK hT B (pl_sp hN (by decide)) (cf_sp (by decide)) rfl rfl hl.1 rfl (Nat.le_of_ble_eq_true rfl) dX2_isSpanSound_19 ⟨Nat.le_of_ble_eq_true rfl, Nat.le_of_ble_eq_true rfl⟩) (Nat.le_of_ble_eq_true rfl) (Nat.le_of_ble_eq_true rfl) (fun r ad' f' H locs hw B => ?_)
  obtain ⟨rfl, rfl, rfl⟩ := hw
  have k1 : ∀ j, j < 12 → (v_X1_put sp 12 ((sp i1).1.toInt64) ((sp i1).2.1.toInt64) ((sp i1).2.2.toInt64)).2 j = sp j := fun j hj => kp_X1_put_sp (by omega)
  generalize (v_X1_put sp 12 ((sp i1).1.toInt64) ((sp i1).2.1.toInt64) ((sp i1).2.2.toInt64)) = t1 at k1 B ⊢
  refine lv_if_eq (tgt := 36) hx hb dX2_isSpanSound_22 (by decide) (fun c2 => ?_) (fun c2 => ?_)
  · refine lv_iconst (v := 0) hx hb dX2_isSpanSound_36 (by decide) ?_
    exact rt_i X hr (ad, (cf g ad x t1.2 dy la kn re)) B (PO_of B) ⟨rfl, _, _, k1, fun _ _ => rfl, rfl⟩ rfl (Nat.le_of_ble_eq_true rfl) (Nat.le_of_ble_eq_true rfl) dX2_isSpanSound_37
  · refine lv_aload_n hx hb dX2_isSpanSound_25 rfl (lv_at hl 0 rfl) ?_
    refine g_get (q := 0) (k := 6) X hK B rfl in_X2 (pl_c hN 0 (by decide)) cf_0 (by decide) lk_X2_25 rfl rfl dX2_isSpanSound_26 ?_
    refine lv_aload_n hx hb dX2_isSpanSound_29 rfl (lv_at hl 1 rfl) ?_
    refine k_i (k := 0) (n := 0) hA B (u_VN (rest := []) X (c_X1_isSameAs l g N ad x t1.2 dy la kn re hN 12 (by decide) i1 hi1 H.size) mw_X1_isSameAs md_X1_isSameAs rfl lk_X2_123 ⟨Nat.le_of_ble_eq_true rfl, Nat.le_of_ble_eq_true rfl⟩ hA hK hT B (pl_sp hN (by decide)) (cf_sp (by decide)) rfl rfl hl.1 rfl (Nat.le_of_ble_eq_true rfl) dX2_isSpanSound_30 ⟨Nat.le_of_ble_eq_true rfl, Nat.le_of_ble_eq_true rfl⟩) (Nat.le_of_ble_eq_true rfl) (Nat.le_of_ble_eq_true rfl) (fun r ad' f' H locs hw B => ?_)
    obtain ⟨rfl, rfl, rfl⟩ := hw
    generalize (v_X1_isSameAs t1.2 12 i1) = t3
    refine lv_if_ne (tgt := 38) hx hb dX2_isSpanSound_33 (by decide) (fun c4 => ?_) (fun c4 => ?_)
    · refine lv_aload_n hx hb dX2_isSpanSound_38 rfl (lv_at hl 0 rfl) ?_
      refine g_get (q := 0) (k := 6) X hK B rfl in_X2 (pl_c hN 0 (by decide)) cf_0 (by decide) lk_X2_25 rfl rfl dX2_isSpanSound_39 ?_
      refine lv_aload_n hx hb dX2_isSpanSound_42 rfl (lv_at hl 1 rfl) ?_
      refine k_i (k := 0) (n := 0) hA B (u_VN (rest := []) X (c_X1_putOpposite l g N ad x t1.2 dy la kn re hN 12 (by decide) i1 hi1 H.size) mw_X1_putOpposite md_X1_putOpposite rfl lk_X2_84 ⟨Nat.le_of_ble_eq_true rfl, Nat.le_of_ble_eq_true rfl⟩ hA hK hT B (pl_sp hN (by decide)) (cf_sp (by decide)) rfl rfl hl.1 rfl (Nat.le_of_ble_eq_true rfl) dX2_isSpanSound_43 ⟨Nat.le_of_ble_eq_true rfl, Nat.le_of_ble_eq_true rfl⟩) (Nat.le_of_ble_eq_true rfl) (Nat.le_of_ble_eq_true rfl) (fun r ad' f' H locs hw B => ?_)
      obtain ⟨rfl, rfl, rfl⟩ := hw
      have k5 : ∀ j, j < 12 → (v_X1_putOpposite t1.2 12 i1).2 j = sp j := fun j hj => (kp_X1_putOpposite_sp (by omega)).trans (k1 j hj)
      generalize (v_X1_putOpposite t1.2 12 i1) = t5 at k5 B ⊢
      refine lv_if_eq (tgt := 76) hx hb dX2_isSpanSound_46 (by decide) (fun c6 => ?_) (fun c6 => ?_)
      · refine lv_aload_n hx hb dX2_isSpanSound_76 rfl (lv_at hl 0 rfl) ?_
        refine g_get (q := 0) (k := 6) X hK B rfl in_X2 (pl_c hN 0 (by decide)) cf_0 (by decide) lk_X2_25 rfl rfl dX2_isSpanSound_77 ?_
        refine lv_aload_n hx hb dX2_isSpanSound_80 rfl (lv_at hl 1 rfl) ?_
        refine k_i (k := 0) (n := 0) hA B (u_VN (rest := []) X (c_X1_putTidy l g N ad x t5.2 dy la kn re hN 12 (by decide) i1 hi1 H.size) mw_X1_putTidy md_X1_putTidy rfl lk_X2_88 ⟨Nat.le_of_ble_eq_true rfl, Nat.le_of_ble_eq_true rfl⟩ hA hK hT B (pl_sp hN (by decide)) (cf_sp (by decide)) rfl rfl hl.1 rfl (Nat.le_of_ble_eq_true rfl) dX2_isSpanSound_81 ⟨Nat.le_of_ble_eq_true rfl, Nat.le_of_ble_eq_true rfl⟩) (Nat.le_of_ble_eq_true rfl) (Nat.le_of_ble_eq_true rfl) (fun r ad' f' H locs hw B => ?_)
        obtain ⟨rfl, rfl, rfl⟩ := hw
        have k7 : ∀ j, j < 12 → (v_X1_putTidy t5.2 12 i1).2 j = sp j := fun j hj => (kp_X1_putTidy_sp (by omega)).trans (k5 j hj)
        generalize (v_X1_putTidy t5.2 12 i1) = t7 at k7 B ⊢
        refine lv_if_ne (tgt := 89) hx hb dX2_isSpanSound_84 (by decide) (fun c8 => ?_) (fun c8 => ?_)
        · refine lv_aload_n hx hb dX2_isSpanSound_89 rfl (lv_at hl 0 rfl) ?_
          refine g_get (q := 0) (k := 6) X hK B rfl in_X2 (pl_c hN 0 (by decide)) cf_0 (by decide) lk_X2_25 rfl rfl dX2_isSpanSound_90 ?_
          refine lv_aload_n hx hb dX2_isSpanSound_93 rfl (lv_at hl 1 rfl) ?_
          refine k_i (k := 0) (n := 0) hA B (u_VN (rest := []) X (c_X1_isAlikeTo l g N ad x t7.2 dy la kn re hN 12 (by decide) i1 hi1 H.size) mw_X1_isAlikeTo md_X1_isAlikeTo rfl lk_X2_126 ⟨Nat.le_of_ble_eq_true rfl, Nat.le_of_ble_eq_true rfl⟩ hA hK hT B (pl_sp hN (by decide)) (cf_sp (by decide)) rfl rfl hl.1 rfl (Nat.le_of_ble_eq_true rfl) dX2_isSpanSound_94 ⟨Nat.le_of_ble_eq_true rfl, Nat.le_of_ble_eq_true rfl⟩) (Nat.le_of_ble_eq_true rfl) (Nat.le_of_ble_eq_true rfl) (fun r ad' f' H locs hw B => ?_)
          obtain ⟨rfl, rfl, rfl⟩ := hw
          generalize (v_X1_isAlikeTo t7.2 12 i1) = t9
          refine lv_if_eq (tgt := 132) hx hb dX2_isSpanSound_97 (by decide) (fun c10 => ?_) (fun c10 => ?_)
          · refine lv_iconst (v := 0) hx hb dX2_isSpanSound_132 (by decide) ?_
            exact rt_i X hr (ad, (cf g ad x t7.2 dy la kn re)) B (PO_of B) ⟨rfl, _, _, k7, fun _ _ => rfl, rfl⟩ rfl (Nat.le_of_ble_eq_true rfl) (Nat.le_of_ble_eq_true rfl) dX2_isSpanSound_133
          · refine lv_aload_n hx hb dX2_isSpanSound_100 rfl (lv_at hl 0 rfl) ?_
            refine g_get (q := 0) (k := 7) X hK B rfl in_X2 (pl_c hN 0 (by decide)) cf_0 (by decide) lk_X2_29 rfl rfl dX2_isSpanSound_101 ?_
            refine lv_aload_n hx hb dX2_isSpanSound_104 rfl (lv_at hl 0 rfl) ?_
            refine g_get (q := 0) (k := 6) X hK B rfl in_X2 (pl_c hN 0 (by decide)) cf_0 (by decide) lk_X2_25 rfl rfl dX2_isSpanSound_105 ?_
            refine k_i (k := 0) (n := 0) hA B (u_VN (rest := []) X (c_X1_putTidy l g N ad x t7.2 dy la kn re hN 13 (by decide) 12 (by decide) H.size) mw_X1_putTidy md_X1_putTidy rfl lk_X2_88 ⟨Nat.le_of_ble_eq_true rfl, Nat.le_of_ble_eq_true rfl⟩ hA hK hT B (pl_sp hN (by decide)) (cf_sp (by decide)) rfl rfl hl.1 rfl (Nat.le_of_ble_eq_true rfl) dX2_isSpanSound_108 ⟨Nat.le_of_ble_eq_true rfl, Nat.le_of_ble_eq_true rfl⟩) (Nat.le_of_ble_eq_true rfl) (Nat.le_of_ble_eq_true rfl) (fun r ad' f' H locs hw B => ?_)
            obtain ⟨rfl, rfl, rfl⟩ := hw
            have k11 : ∀ j, j < 12 → (v_X1_putTidy t7.2 13 12).2 j = sp j := fun j hj => (kp_X1_putTidy_sp (by omega)).trans (k7 j hj)
            generalize (v_X1_putTidy t7.2 13 12) = t11 at k11 B ⊢
            refine lv_if_eq (tgt := 132) hx hb dX2_isSpanSound_111 (by decide) (fun c12 => ?_) (fun c12 => ?_)
            · refine lv_iconst (v := 0) hx hb dX2_isSpanSound_132 (by decide) ?_
              exact rt_i X hr (ad, (cf g ad x t11.2 dy la kn re)) B (PO_of B) ⟨rfl, _, _, k11, fun _ _ => rfl, rfl⟩ rfl (Nat.le_of_ble_eq_true rfl) (Nat.le_of_ble_eq_true rfl) dX2_isSpanSound_133
            · refine lv_aload_n hx hb dX2_isSpanSound_114 rfl (lv_at hl 0 rfl) ?_
              refine g_get (q := 0) (k := 7) X hK B rfl in_X2 (pl_c hN 0 (by decide)) cf_0 (by decide) lk_X2_29 rfl rfl dX2_isSpanSound_115 ?_
              refine lv_aload_n hx hb dX2_isSpanSound_118 rfl (lv_at hl 0 rfl) ?_
              refine g_get (q := 0) (k := 6) X hK B rfl in_X2 (pl_c hN 0 (by decide)) cf_0 (by decide) lk_X2_25 rfl rfl dX2_isSpanSound_119 ?_
              refine k_i (k := 0) (n := 0) hA B (u_VN (rest := []) X (c_X1_isSameAs l g N ad x t11.2 dy la kn re hN 13 (by decide) 12 (by decide) H.size) mw_X1_isSameAs md_X1_isSameAs rfl lk_X2_123 ⟨Nat.le_of_ble_eq_true rfl, Nat.le_of_ble_eq_true rfl⟩ hA hK hT B (pl_sp hN (by decide)) (cf_sp (by decide)) rfl rfl hl.1 rfl (Nat.le_of_ble_eq_true rfl) dX2_isSpanSound_122 ⟨Nat.le_of_ble_eq_true rfl, Nat.le_of_ble_eq_true rfl⟩) (Nat.le_of_ble_eq_true rfl) (Nat.le_of_ble_eq_true rfl) (fun r ad' f' H locs hw B => ?_)
              obtain ⟨rfl, rfl, rfl⟩ := hw
              generalize (v_X1_isSameAs t11.2 13 12) = t13
              refine lv_if_eq (tgt := 132) hx hb dX2_isSpanSound_125 (by decide) (fun c14 => ?_) (fun c14 => ?_)
              · refine lv_iconst (v := 0) hx hb dX2_isSpanSound_132 (by decide) ?_
                exact rt_i X hr (ad, (cf g ad x t11.2 dy la kn re)) B (PO_of B) ⟨rfl, _, _, k11, fun _ _ => rfl, rfl⟩ rfl (Nat.le_of_ble_eq_true rfl) (Nat.le_of_ble_eq_true rfl) dX2_isSpanSound_133
              · refine lv_iconst (v := 1) hx hb dX2_isSpanSound_128 (by decide) ?_
                refine lv_goto (tgt := 133) hx hb dX2_isSpanSound_129 (by decide) ?_
                exact rt_i X hr (ad, (cf g ad x t11.2 dy la kn re)) B (PO_of B) ⟨rfl, _, _, k11, fun _ _ => rfl, rfl⟩ rfl (Nat.le_of_ble_eq_true rfl) (Nat.le_of_ble_eq_true rfl) dX2_isSpanSound_133
        · refine lv_iconst (v := 1) hx hb dX2_isSpanSound_87 (by decide) ?_
          exact rt_i X hr (ad, (cf g ad x t7.2 dy la kn re)) B (PO_of B) ⟨rfl, _, _, k7, fun _ _ => rfl, rfl⟩ rfl (Nat.le_of_ble_eq_true rfl) (Nat.le_of_ble_eq_true rfl) dX2_isSpanSound_88
      · refine lv_aload_n hx hb dX2_isSpanSound_49 rfl (lv_at hl 0 rfl) ?_
        refine g_get (q := 0) (k := 7) X hK B rfl in_X2 (pl_c hN 0 (by decide)) cf_0 (by decide) lk_X2_29 rfl rfl dX2_isSpanSound_50 ?_
        refine lv_aload_n hx hb dX2_isSpanSound_53 rfl (lv_at hl 0 rfl) ?_
        refine g_get (q := 0) (k := 6) X hK B rfl in_X2 (pl_c hN 0 (by decide)) cf_0 (by decide) lk_X2_25 rfl rfl dX2_isSpanSound_54 ?_
        refine k_i (k := 0) (n := 0) hA B (u_VN (rest := []) X (c_X1_putOpposite l g N ad x t5.2 dy la kn re hN 13 (by decide) 12 (by decide) H.size) mw_X1_putOpposite md_X1_putOpposite rfl lk_X2_84 ⟨Nat.le_of_ble_eq_true rfl, Nat.le_of_ble_eq_true rfl⟩ hA hK hT B (pl_sp hN (by decide)) (cf_sp (by decide)) rfl rfl hl.1 rfl (Nat.le_of_ble_eq_true rfl) dX2_isSpanSound_57 ⟨Nat.le_of_ble_eq_true rfl, Nat.le_of_ble_eq_true rfl⟩) (Nat.le_of_ble_eq_true rfl) (Nat.le_of_ble_eq_true rfl) (fun r ad' f' H locs hw B => ?_)
        obtain ⟨rfl, rfl, rfl⟩ := hw
        have k15 : ∀ j, j < 12 → (v_X1_putOpposite t5.2 13 12).2 j = sp j := fun j hj => (kp_X1_putOpposite_sp (by omega)).trans (k5 j hj)
        generalize (v_X1_putOpposite t5.2 13 12) = t15 at k15 B ⊢
        refine lv_if_eq (tgt := 74) hx hb dX2_isSpanSound_60 (by decide) (fun c16 => ?_) (fun c16 => ?_)
        · refine lv_iconst (v := 0) hx hb dX2_isSpanSound_74 (by decide) ?_
          exact rt_i X hr (ad, (cf g ad x t15.2 dy la kn re)) B (PO_of B) ⟨rfl, _, _, k15, fun _ _ => rfl, rfl⟩ rfl (Nat.le_of_ble_eq_true rfl) (Nat.le_of_ble_eq_true rfl) dX2_isSpanSound_75
        · refine lv_aload_n hx hb dX2_isSpanSound_63 rfl (lv_at hl 0 rfl) ?_
          refine g_get (q := 0) (k := 7) X hK B rfl in_X2 (pl_c hN 0 (by decide)) cf_0 (by decide) lk_X2_29 rfl rfl dX2_isSpanSound_64 ?_
          refine lv_aload_n hx hb dX2_isSpanSound_67 rfl (lv_at hl 1 rfl) ?_
          refine k_i (k := 0) (n := 0) hA B (u_VN (rest := []) X (c_X1_isSameAs l g N ad x t15.2 dy la kn re hN 13 (by decide) i1 hi1 H.size) mw_X1_isSameAs md_X1_isSameAs rfl lk_X2_123 ⟨Nat.le_of_ble_eq_true rfl, Nat.le_of_ble_eq_true rfl⟩ hA hK hT B (pl_sp hN (by decide)) (cf_sp (by decide)) rfl rfl hl.1 rfl (Nat.le_of_ble_eq_true rfl) dX2_isSpanSound_68 ⟨Nat.le_of_ble_eq_true rfl, Nat.le_of_ble_eq_true rfl⟩) (Nat.le_of_ble_eq_true rfl) (Nat.le_of_ble_eq_true rfl) (fun r ad' f' H locs hw B => ?_)
          obtain ⟨rfl, rfl, rfl⟩ := hw
          generalize (v_X1_isSameAs t15.2 13 i1) = t17
          refine lv_if_ne (tgt := 76) hx hb dX2_isSpanSound_71 (by decide) (fun c18 => ?_) (fun c18 => ?_)
          · refine lv_aload_n hx hb dX2_isSpanSound_76 rfl (lv_at hl 0 rfl) ?_
            refine g_get (q := 0) (k := 6) X hK B rfl in_X2 (pl_c hN 0 (by decide)) cf_0 (by decide) lk_X2_25 rfl rfl dX2_isSpanSound_77 ?_
            refine lv_aload_n hx hb dX2_isSpanSound_80 rfl (lv_at hl 1 rfl) ?_
            refine k_i (k := 0) (n := 0) hA B (u_VN (rest := []) X (c_X1_putTidy l g N ad x t15.2 dy la kn re hN 12 (by decide) i1 hi1 H.size) mw_X1_putTidy md_X1_putTidy rfl lk_X2_88 ⟨Nat.le_of_ble_eq_true rfl, Nat.le_of_ble_eq_true rfl⟩ hA hK hT B (pl_sp hN (by decide)) (cf_sp (by decide)) rfl rfl hl.1 rfl (Nat.le_of_ble_eq_true rfl) dX2_isSpanSound_81 ⟨Nat.le_of_ble_eq_true rfl, Nat.le_of_ble_eq_true rfl⟩) (Nat.le_of_ble_eq_true rfl) (Nat.le_of_ble_eq_true rfl) (fun r ad' f' H locs hw B => ?_)
            obtain ⟨rfl, rfl, rfl⟩ := hw
            have k19 : ∀ j, j < 12 → (v_X1_putTidy t15.2 12 i1).2 j = sp j := fun j hj => (kp_X1_putTidy_sp (by omega)).trans (k15 j hj)
            generalize (v_X1_putTidy t15.2 12 i1) = t19 at k19 B ⊢
            refine lv_if_ne (tgt := 89) hx hb dX2_isSpanSound_84 (by decide) (fun c20 => ?_) (fun c20 => ?_)
            · refine lv_aload_n hx hb dX2_isSpanSound_89 rfl (lv_at hl 0 rfl) ?_
              refine g_get (q := 0) (k := 6) X hK B rfl in_X2 (pl_c hN 0 (by decide)) cf_0 (by decide) lk_X2_25 rfl rfl dX2_isSpanSound_90 ?_
              refine lv_aload_n hx hb dX2_isSpanSound_93 rfl (lv_at hl 1 rfl) ?_
              refine k_i (k := 0) (n := 0) hA B (u_VN (rest := []) X (c_X1_isAlikeTo l g N ad x t19.2 dy la kn re hN 12 (by decide) i1 hi1 H.size) mw_X1_isAlikeTo md_X1_isAlikeTo rfl lk_X2_126 ⟨Nat.le_of_ble_eq_true rfl, Nat.le_of_ble_eq_true rfl⟩ hA hK hT B (pl_sp hN (by decide)) (cf_sp (by decide)) rfl rfl hl.1 rfl (Nat.le_of_ble_eq_true rfl) dX2_isSpanSound_94 ⟨Nat.le_of_ble_eq_true rfl, Nat.le_of_ble_eq_true rfl⟩) (Nat.le_of_ble_eq_true rfl) (Nat.le_of_ble_eq_true rfl) (fun r ad' f' H locs hw B => ?_)
              obtain ⟨rfl, rfl, rfl⟩ := hw
              generalize (v_X1_isAlikeTo t19.2 12 i1) = t21
              refine lv_if_eq (tgt := 132) hx hb dX2_isSpanSound_97 (by decide) (fun c22 => ?_) (fun c22 => ?_)
              · refine lv_iconst (v := 0) hx hb dX2_isSpanSound_132 (by decide) ?_
                exact rt_i X hr (ad, (cf g ad x t19.2 dy la kn re)) B (PO_of B) ⟨rfl, _, _, k19, fun _ _ => rfl, rfl⟩ rfl (Nat.le_of_ble_eq_true rfl) (Nat.le_of_ble_eq_true rfl) dX2_isSpanSound_133
              · refine lv_aload_n hx hb dX2_isSpanSound_100 rfl (lv_at hl 0 rfl) ?_
                refine g_get (q := 0) (k := 7) X hK B rfl in_X2 (pl_c hN 0 (by decide)) cf_0 (by decide) lk_X2_29 rfl rfl dX2_isSpanSound_101 ?_
                refine lv_aload_n hx hb dX2_isSpanSound_104 rfl (lv_at hl 0 rfl) ?_
                refine g_get (q := 0) (k := 6) X hK B rfl in_X2 (pl_c hN 0 (by decide)) cf_0 (by decide) lk_X2_25 rfl rfl dX2_isSpanSound_105 ?_
                refine k_i (k := 0) (n := 0) hA B (u_VN (rest := []) X (c_X1_putTidy l g N ad x t19.2 dy la kn re hN 13 (by decide) 12 (by decide) H.size) mw_X1_putTidy md_X1_putTidy rfl lk_X2_88 ⟨Nat.le_of_ble_eq_true rfl, Nat.le_of_ble_eq_true rfl⟩ hA hK hT B (pl_sp hN (by decide)) (cf_sp (by decide)) rfl rfl hl.1 rfl (Nat.le_of_ble_eq_true rfl) dX2_isSpanSound_108 ⟨Nat.le_of_ble_eq_true rfl, Nat.le_of_ble_eq_true rfl⟩) (Nat.le_of_ble_eq_true rfl) (Nat.le_of_ble_eq_true rfl) (fun r ad' f' H locs hw B => ?_)
                obtain ⟨rfl, rfl, rfl⟩ := hw
                have k23 : ∀ j, j < 12 → (v_X1_putTidy t19.2 13 12).2 j = sp j := fun j hj => (kp_X1_putTidy_sp (by omega)).trans (k19 j hj)
                generalize (v_X1_putTidy t19.2 13 12) = t23 at k23 B ⊢
                refine lv_if_eq (tgt := 132) hx hb dX2_isSpanSound_111 (by decide) (fun c24 => ?_) (fun c24 => ?_)
                · refine lv_iconst (v := 0) hx hb dX2_isSpanSound_132 (by decide) ?_
                  exact rt_i X hr (ad, (cf g ad x t23.2 dy la kn re)) B (PO_of B) ⟨rfl, _, _, k23, fun _ _ => rfl, rfl⟩ rfl (Nat.le_of_ble_eq_true rfl) (Nat.le_of_ble_eq_true rfl) dX2_isSpanSound_133
                · refine lv_aload_n hx hb dX2_isSpanSound_114 rfl (lv_at hl 0 rfl) ?_
                  refine g_get (q := 0) (k := 7) X hK B rfl in_X2 (pl_c hN 0 (by decide)) cf_0 (by decide) lk_X2_29 rfl rfl dX2_isSpanSound_115 ?_
                  refine lv_aload_n hx hb dX2_isSpanSound_118 rfl (lv_at hl 0 rfl) ?_
                  refine g_get (q := 0) (k := 6) X hK B rfl in_X2 (pl_c hN 0 (by decide)) cf_0 (by decide) lk_X2_25 rfl rfl dX2_isSpanSound_119 ?_
                  refine k_i (k := 0) (n := 0) hA B (u_VN (rest := []) X (c_X1_isSameAs l g N ad x t23.2 dy la kn re hN 13 (by decide) 12 (by decide) H.size) mw_X1_isSameAs md_X1_isSameAs rfl lk_X2_123 ⟨Nat.le_of_ble_eq_true rfl, Nat.le_of_ble_eq_true rfl⟩ hA hK hT B (pl_sp hN (by decide)) (cf_sp (by decide)) rfl rfl hl.1 rfl (Nat.le_of_ble_eq_true rfl) dX2_isSpanSound_122 ⟨Nat.le_of_ble_eq_true rfl, Nat.le_of_ble_eq_true rfl⟩) (Nat.le_of_ble_eq_true rfl) (Nat.le_of_ble_eq_true rfl) (fun r ad' f' H locs hw B => ?_)
                  obtain ⟨rfl, rfl, rfl⟩ := hw
                  generalize (v_X1_isSameAs t23.2 13 12) = t25
                  refine lv_if_eq (tgt := 132) hx hb dX2_isSpanSound_125 (by decide) (fun c26 => ?_) (fun c26 => ?_)
                  · refine lv_iconst (v := 0) hx hb dX2_isSpanSound_132 (by decide) ?_
                    exact rt_i X hr (ad, (cf g ad x t23.2 dy la kn re)) B (PO_of B) ⟨rfl, _, _, k23, fun _ _ => rfl, rfl⟩ rfl (Nat.le_of_ble_eq_true rfl) (Nat.le_of_ble_eq_true rfl) dX2_isSpanSound_133
                  · refine lv_iconst (v := 1) hx hb dX2_isSpanSound_128 (by decide) ?_
                    refine lv_goto (tgt := 133) hx hb dX2_isSpanSound_129 (by decide) ?_
                    exact rt_i X hr (ad, (cf g ad x t23.2 dy la kn re)) B (PO_of B) ⟨rfl, _, _, k23, fun _ _ => rfl, rfl⟩ rfl (Nat.le_of_ble_eq_true rfl) (Nat.le_of_ble_eq_true rfl) dX2_isSpanSound_133
            · refine lv_iconst (v := 1) hx hb dX2_isSpanSound_87 (by decide) ?_
              exact rt_i X hr (ad, (cf g ad x t19.2 dy la kn re)) B (PO_of B) ⟨rfl, _, _, k19, fun _ _ => rfl, rfl⟩ rfl (Nat.le_of_ble_eq_true rfl) (Nat.le_of_ble_eq_true rfl) dX2_isSpanSound_88
          · refine lv_iconst (v := 0) hx hb dX2_isSpanSound_74 (by decide) ?_
            exact rt_i X hr (ad, (cf g ad x t15.2 dy la kn re)) B (PO_of B) ⟨rfl, _, _, k15, fun _ _ => rfl, rfl⟩ rfl (Nat.le_of_ble_eq_true rfl) (Nat.le_of_ble_eq_true rfl) dX2_isSpanSound_75
    · refine lv_iconst (v := 0) hx hb dX2_isSpanSound_36 (by decide) ?_
      exact rt_i X hr (ad, (cf g ad x t1.2 dy la kn re)) B (PO_of B) ⟨rfl, _, _, k1, fun _ _ => rfl, rfl⟩ rfl (Nat.le_of_ble_eq_true rfl) (Nat.le_of_ble_eq_true rfl) dX2_isSpanSound_37
set_option maxHeartbeats 4000000 in
set_option maxRecDepth 100000 in
theorem c_X2_isSumSound (l : Launch) (g : GG) (N : Nat) (ad : Nat → Nat) (x : Nat → va_E) (sp dy : Nat → TR) (la kn re : Int32) (hN : 23 ≤ N) (i1 : Nat) (hi1 : i1 < 14) (i2 : Nat) (hi2 : i2 < 14) : KI l yX2_isSumSound cX2_isSumSound 4 (some .boolean) (rm 3 0 0) g [.ref (ad 0), .ref (ad (4 + i1)), .ref (ad (4 + i2))] N ad (cf g ad x sp dy la kn re) N (fun r ad' f' => ad = ad' ∧ ∃ sp' dy' : Nat → TR, (∀ j, j < 12 → sp' j = sp j) ∧ (∀ j, j < 4 → dy' j = dy j) ∧ cf g ad x sp' dy' la kn re = f') := by
  intro sz
  refine mt_start (by decide) (Nat.le_of_ble_eq_true rfl) ?_
  intro p e s m args below meth c hsz X hr hnam hA hK hT H locs B ls hl
  obtain ⟨hx, hb, hml, hown, hts, hlocks⟩ := id X
  have hl : lv_has ls 4 [(0, .ref (ad 0)), (1, .ref (ad (4 + i1))), (2, .ref (ad (4 + i2)))] := hl
  refine lv_aload_n hx hb dX2_isSumSound_0 rfl (lv_at hl 0 rfl) ?_
  refine g_get (q := 0) (k := 6) X hK B rfl in_X2 (pl_c hN 0 (by decide)) cf_0 (by decide) lk_X2_25 rfl rfl dX2_isSumSound_1 ?_
  refine lv_aload_n hx hb dX2_isSumSound_4 rfl (lv_at hl 1 rfl) ?_
  refine lv_aload_n hx hb dX2_isSumSound_5 rfl (lv_at hl 2 rfl) ?_
  refine k_i (k := 0) (n := 0) hA B (u_VN (rest := []) X (c_X1_putSum l g N ad x sp dy la kn re hN 12 (by decide) i1 hi1 i2 hi2 H.size) mw_X1_putSum md_X1_putSum rfl lk_X2_73 ⟨Nat.le_of_ble_eq_true rfl, Nat.le_of_ble_eq_true rfl⟩ hA hK hT B (pl_sp hN (by decide)) (cf_sp (by decide)) rfl rfl hl.1 rfl (Nat.le_of_ble_eq_true rfl) dX2_isSumSound_6 ⟨Nat.le_of_ble_eq_true rfl, Nat.le_of_ble_eq_true rfl⟩) (Nat.le_of_ble_eq_true rfl) (Nat.le_of_ble_eq_true rfl) (fun r ad' f' H locs hw B => ?_)
  obtain ⟨rfl, rfl, rfl⟩ := hw
  have k1 : ∀ j, j < 12 → (v_X1_putSum sp 12 i1 i2).2 j = sp j := fun j hj => kp_X1_putSum_sp (by omega)
  generalize (v_X1_putSum sp 12 i1 i2) = t1 at k1 B ⊢
  refine lv_istore_n (lv' := [(3, .int t1.1), (0, .ref (ad 0)), (1, .ref (ad (4 + i1))), (2, .ref (ad (4 + i2)))]) hx hb dX2_isSumSound_9 rfl hl (by decide) rfl (fun ls hl => ?_)
  refine lv_iload_n hx hb dX2_isSumSound_10 rfl (lv_at hl 0 rfl) ?_
  refine lv_aload_n hx hb dX2_isSumSound_11 rfl (lv_at hl 1 rfl) ?_
  refine g_get (q := 0) (k := 7) X hK B rfl in_X2 (pl_c hN 0 (by decide)) cf_0 (by decide) lk_X2_29 rfl rfl dX2_isSumSound_12 ?_
  refine lv_aload_n hx hb dX2_isSumSound_15 rfl (lv_at hl 3 rfl) ?_
  refine lv_aload_n hx hb dX2_isSumSound_16 rfl (lv_at hl 2 rfl) ?_
  refine k_i (k := 0) (n := 0) hA B (u_VN (rest := [.int t1.1]) X (c_X1_putSum l g N ad x t1.2 dy la kn re hN 13 (by decide) i2 hi2 i1 hi1 H.size) mw_X1_putSum md_X1_putSum rfl lk_X2_73 ⟨Nat.le_of_ble_eq_true rfl, Nat.le_of_ble_eq_true rfl⟩ hA hK hT B (pl_sp hN (by decide)) (cf_sp (by decide)) rfl rfl hl.1 rfl (Nat.le_of_ble_eq_true rfl) dX2_isSumSound_17 ⟨Nat.le_of_ble_eq_true rfl, Nat.le_of_ble_eq_true rfl⟩) (Nat.le_of_ble_eq_true rfl) (Nat.le_of_ble_eq_true rfl) (fun r ad' f' H locs hw B => ?_)
  obtain ⟨rfl, rfl, rfl⟩ := hw
  have k2 : ∀ j, j < 12 → (v_X1_putSum t1.2 13 i2 i1).2 j = sp j := fun j hj => (kp_X1_putSum_sp (by omega)).trans (k1 j hj)
  generalize (v_X1_putSum t1.2 13 i2 i1) = t2 at k2 B ⊢
  refine lv_icmp_eq (tgt := 25) hx hb dX2_isSumSound_20 (by decide) (fun c3 => ?_) (fun c3 => ?_)
  · refine lv_iload_n hx hb dX2_isSumSound_25 rfl (lv_at hl 0 rfl) ?_
    refine lv_if_ne (tgt := 31) hx hb dX2_isSumSound_26 (by decide) (fun c4 => ?_) (fun c4 => ?_)
    · refine lv_aload_n hx hb dX2_isSumSound_31 rfl (lv_at hl 1 rfl) ?_
      refine g_get (q := 0) (k := 6) X hK B rfl in_X2 (pl_c hN 0 (by decide)) cf_0 (by decide) lk_X2_25 rfl rfl dX2_isSumSound_32 ?_
      refine lv_aload_n hx hb dX2_isSumSound_35 rfl (lv_at hl 1 rfl) ?_
      refine g_get (q := 0) (k := 7) X hK B rfl in_X2 (pl_c hN 0 (by decide)) cf_0 (by decide) lk_X2_29 rfl rfl dX2_isSumSound_36 ?_
      refine k_i (k := 0) (n := 0) hA B (u_VN (rest := []) X (c_X1_isSameAs l g N ad x t2.2 dy la kn re hN 12 (by decide) 13 (by decide) H.size) mw_X1_isSameAs md_X1_isSameAs rfl lk_X2_123 ⟨Nat.le_of_ble_eq_true rfl, Nat.le_of_ble_eq_true rfl⟩ hA hK hT B (pl_sp hN (by decide)) (cf_sp (by decide)) rfl rfl hl.1 rfl (Nat.le_of_ble_eq_true rfl) dX2_isSumSound_39 ⟨Nat.le_of_ble_eq_true rfl, Nat.le_of_ble_eq_true rfl⟩) (Nat.le_of_ble_eq_true rfl) (Nat.le_of_ble_eq_true rfl) (fun r ad' f' H locs hw B => ?_)
      obtain ⟨rfl, rfl, rfl⟩ := hw
      generalize (v_X1_isSameAs t2.2 12 13) = t5
      refine lv_if_ne (tgt := 47) hx hb dX2_isSumSound_42 (by decide) (fun c6 => ?_) (fun c6 => ?_)
      · refine lv_aload_n hx hb dX2_isSumSound_47 rfl (lv_at hl 1 rfl) ?_
        refine g_get (q := 0) (k := 7) X hK B rfl in_X2 (pl_c hN 0 (by decide)) cf_0 (by decide) lk_X2_29 rfl rfl dX2_isSumSound_48 ?_
        refine lv_aload_n hx hb dX2_isSumSound_51 rfl (lv_at hl 1 rfl) ?_
        refine g_get (q := 0) (k := 6) X hK B rfl in_X2 (pl_c hN 0 (by decide)) cf_0 (by decide) lk_X2_25 rfl rfl dX2_isSumSound_52 ?_
        refine lv_aload_n hx hb dX2_isSumSound_55 rfl (lv_at hl 3 rfl) ?_
        refine k_i (k := 0) (n := 0) hA B (u_VN (rest := []) X (c_X1_putDifference l g N ad x t2.2 dy la kn re hN 13 (by decide) 12 (by decide) i2 hi2 H.size) mw_X1_putDifference md_X1_putDifference rfl lk_X2_77 ⟨Nat.le_of_ble_eq_true rfl, Nat.le_of_ble_eq_true rfl⟩ hA hK hT B (pl_sp hN (by decide)) (cf_sp (by decide)) rfl rfl hl.1 rfl (Nat.le_of_ble_eq_true rfl) dX2_isSumSound_56 ⟨Nat.le_of_ble_eq_true rfl, Nat.le_of_ble_eq_true rfl⟩) (Nat.le_of_ble_eq_true rfl) (Nat.le_of_ble_eq_true rfl) (fun r ad' f' H locs hw B => ?_)
        obtain ⟨rfl, rfl, rfl⟩ := hw
        have k7 : ∀ j, j < 12 → (v_X1_putDifference t2.2 13 12 i2).2 j = sp j := fun j hj => (kp_X1_putDifference_sp (by omega)).trans (k2 j hj)
        generalize (v_X1_putDifference t2.2 13 12 i2) = t7 at k7 B ⊢
        refine lv_if_eq (tgt := 77) hx hb dX2_isSumSound_59 (by decide) (fun c8 => ?_) (fun c8 => ?_)
        · refine lv_iconst (v := 0) hx hb dX2_isSumSound_77 (by decide) ?_
          exact rt_i X hr (ad, (cf g ad x t7.2 dy la kn re)) B (PO_of B) ⟨rfl, _, _, k7, fun _ _ => rfl, rfl⟩ rfl (Nat.le_of_ble_eq_true rfl) (Nat.le_of_ble_eq_true rfl) dX2_isSumSound_78
        · refine lv_aload_n hx hb dX2_isSumSound_62 rfl (lv_at hl 1 rfl) ?_
          refine g_get (q := 0) (k := 7) X hK B rfl in_X2 (pl_c hN 0 (by decide)) cf_0 (by decide) lk_X2_29 rfl rfl dX2_isSumSound_63 ?_
          refine lv_aload_n hx hb dX2_isSumSound_66 rfl (lv_at hl 2 rfl) ?_
          refine k_i (k := 0) (n := 0) hA B (u_VN (rest := []) X (c_X1_isSameAs l g N ad x t7.2 dy la kn re hN 13 (by decide) i1 hi1 H.size) mw_X1_isSameAs md_X1_isSameAs rfl lk_X2_123 ⟨Nat.le_of_ble_eq_true rfl, Nat.le_of_ble_eq_true rfl⟩ hA hK hT B (pl_sp hN (by decide)) (cf_sp (by decide)) rfl rfl hl.1 rfl (Nat.le_of_ble_eq_true rfl) dX2_isSumSound_67 ⟨Nat.le_of_ble_eq_true rfl, Nat.le_of_ble_eq_true rfl⟩) (Nat.le_of_ble_eq_true rfl) (Nat.le_of_ble_eq_true rfl) (fun r ad' f' H locs hw B => ?_)
          obtain ⟨rfl, rfl, rfl⟩ := hw
          generalize (v_X1_isSameAs t7.2 13 i1) = t9
          refine lv_if_eq (tgt := 77) hx hb dX2_isSumSound_70 (by decide) (fun c10 => ?_) (fun c10 => ?_)
          · refine lv_iconst (v := 0) hx hb dX2_isSumSound_77 (by decide) ?_
            exact rt_i X hr (ad, (cf g ad x t7.2 dy la kn re)) B (PO_of B) ⟨rfl, _, _, k7, fun _ _ => rfl, rfl⟩ rfl (Nat.le_of_ble_eq_true rfl) (Nat.le_of_ble_eq_true rfl) dX2_isSumSound_78
          · refine lv_iconst (v := 1) hx hb dX2_isSumSound_73 (by decide) ?_
            refine lv_goto (tgt := 78) hx hb dX2_isSumSound_74 (by decide) ?_
            exact rt_i X hr (ad, (cf g ad x t7.2 dy la kn re)) B (PO_of B) ⟨rfl, _, _, k7, fun _ _ => rfl, rfl⟩ rfl (Nat.le_of_ble_eq_true rfl) (Nat.le_of_ble_eq_true rfl) dX2_isSumSound_78
      · refine lv_iconst (v := 0) hx hb dX2_isSumSound_45 (by decide) ?_
        exact rt_i X hr (ad, (cf g ad x t2.2 dy la kn re)) B (PO_of B) ⟨rfl, _, _, k2, fun _ _ => rfl, rfl⟩ rfl (Nat.le_of_ble_eq_true rfl) (Nat.le_of_ble_eq_true rfl) dX2_isSumSound_46
    · refine lv_iconst (v := 1) hx hb dX2_isSumSound_29 (by decide) ?_
      exact rt_i X hr (ad, (cf g ad x t2.2 dy la kn re)) B (PO_of B) ⟨rfl, _, _, k2, fun _ _ => rfl, rfl⟩ rfl (Nat.le_of_ble_eq_true rfl) (Nat.le_of_ble_eq_true rfl) dX2_isSumSound_30
  · refine lv_iconst (v := 0) hx hb dX2_isSumSound_23 (by decide) ?_
    exact rt_i X hr (ad, (cf g ad x t2.2 dy la kn re)) B (PO_of B) ⟨rfl, _, _, k2, fun _ _ => rfl, rfl⟩ rfl (Nat.le_of_ble_eq_true rfl) (Nat.le_of_ble_eq_true rfl) dX2_isSumSound_24
set_option maxHeartbeats 4000000 in
set_option maxRecDepth 100000 in
theorem c_X2_isAlikenessSound (l : Launch) (g : GG) (N : Nat) (ad : Nat → Nat) (x : Nat → va_E) (sp dy : Nat → TR) (la kn re : Int32) (hN : 23 ≤ N) (i1 : Nat) (hi1 : i1 < 14) (i2 : Nat) (hi2 : i2 < 14) : KI l yX2_isAlikenessSound cX2_isAlikenessSound 3 (some .boolean) (rm 4 0 0) g [.ref (ad 0), .ref (ad (4 + i1)), .ref (ad (4 + i2))] N ad (cf g ad x sp dy la kn re) N (fun r ad' f' => ad = ad' ∧ ∃ sp' dy' : Nat → TR, (∀ j, j < 12 → sp' j = sp j) ∧ (∀ j, j < 4 → dy' j = dy j) ∧ cf g ad x sp' dy' la kn re = f') := by
  intro sz
  refine mt_start (by decide) (Nat.le_of_ble_eq_true rfl) ?_
  intro p e s m args below meth c hsz X hr hnam hA hK hT H locs B ls hl
  obtain ⟨hx, hb, hml, hown, hts, hlocks⟩ := id X
  have hl : lv_has ls 3 [(0, .ref (ad 0)), (1, .ref (ad (4 + i1))), (2, .ref (ad (4 + i2)))] := hl
  refine lv_aload_n hx hb dX2_isAlikenessSound_0 rfl (lv_at hl 0 rfl) ?_
  refine g_get (q := 0) (k := 6) X hK B rfl in_X2 (pl_c hN 0 (by decide)) cf_0 (by decide) lk_X2_25 rfl rfl dX2_isAlikenessSound_1 ?_
  refine lv_aload_n hx hb dX2_isAlikenessSound_4 rfl (lv_at hl 1 rfl) ?_
  refine k_i (k := 0) (n := 0) hA B (u_VN (rest := []) X (c_X1_putOpposite l g N ad x sp dy la kn re hN 12 (by decide) i1 hi1 H.size) mw_X1_putOpposite md_X1_putOpposite rfl lk_X2_84 ⟨Nat.le_of_ble_eq_true rfl, Nat.le_of_ble_eq_true rfl⟩ hA hK hT B (pl_sp hN (by decide)) (cf_sp (by decide)) rfl rfl hl.1 rfl (Nat.le_of_ble_eq_true rfl) dX2_isAlikenessSound_5 ⟨Nat.le_of_ble_eq_true rfl, Nat.le_of_ble_eq_true rfl⟩) (Nat.le_of_ble_eq_true rfl) (Nat.le_of_ble_eq_true rfl) (fun r ad' f' H locs hw B => ?_)
  obtain ⟨rfl, rfl, rfl⟩ := hw
  have k1 : ∀ j, j < 12 → (v_X1_putOpposite sp 12 i1).2 j = sp j := fun j hj => kp_X1_putOpposite_sp (by omega)
  generalize (v_X1_putOpposite sp 12 i1) = t1 at k1 B ⊢
  refine lv_if_eq (tgt := 22) hx hb dX2_isAlikenessSound_8 (by decide) (fun c2 => ?_) (fun c2 => ?_)
  · refine lv_iconst (v := 1) hx hb dX2_isAlikenessSound_22 (by decide) ?_
    exact rt_i X hr (ad, (cf g ad x t1.2 dy la kn re)) B (PO_of B) ⟨rfl, _, _, k1, fun _ _ => rfl, rfl⟩ rfl (Nat.le_of_ble_eq_true rfl) (Nat.le_of_ble_eq_true rfl) dX2_isAlikenessSound_23
  · refine lv_aload_n hx hb dX2_isAlikenessSound_11 rfl (lv_at hl 0 rfl) ?_
    refine g_get (q := 0) (k := 7) X hK B rfl in_X2 (pl_c hN 0 (by decide)) cf_0 (by decide) lk_X2_29 rfl rfl dX2_isAlikenessSound_12 ?_
    refine lv_aload_n hx hb dX2_isAlikenessSound_15 rfl (lv_at hl 2 rfl) ?_
    refine k_i (k := 0) (n := 0) hA B (u_VN (rest := []) X (c_X1_putOpposite l g N ad x t1.2 dy la kn re hN 13 (by decide) i2 hi2 H.size) mw_X1_putOpposite md_X1_putOpposite rfl lk_X2_84 ⟨Nat.le_of_ble_eq_true rfl, Nat.le_of_ble_eq_true rfl⟩ hA hK hT B (pl_sp hN (by decide)) (cf_sp (by decide)) rfl rfl hl.1 rfl (Nat.le_of_ble_eq_true rfl) dX2_isAlikenessSound_16 ⟨Nat.le_of_ble_eq_true rfl, Nat.le_of_ble_eq_true rfl⟩) (Nat.le_of_ble_eq_true rfl) (Nat.le_of_ble_eq_true rfl) (fun r ad' f' H locs hw B => ?_)
    obtain ⟨rfl, rfl, rfl⟩ := hw
    have k3 : ∀ j, j < 12 → (v_X1_putOpposite t1.2 13 i2).2 j = sp j := fun j hj => (kp_X1_putOpposite_sp (by omega)).trans (k1 j hj)
    generalize (v_X1_putOpposite t1.2 13 i2) = t3 at k3 B ⊢
    refine lv_if_ne (tgt := 24) hx hb dX2_isAlikenessSound_19 (by decide) (fun c4 => ?_) (fun c4 => ?_)
    · refine lv_aload_n hx hb dX2_isAlikenessSound_24 rfl (lv_at hl 0 rfl) ?_
      refine g_get (q := 0) (k := 6) X hK B rfl in_X2 (pl_c hN 0 (by decide)) cf_0 (by decide) lk_X2_25 rfl rfl dX2_isAlikenessSound_25 ?_
      refine lv_aload_n hx hb dX2_isAlikenessSound_28 rfl (lv_at hl 0 rfl) ?_
      refine g_get (q := 0) (k := 7) X hK B rfl in_X2 (pl_c hN 0 (by decide)) cf_0 (by decide) lk_X2_29 rfl rfl dX2_isAlikenessSound_29 ?_
      refine k_i (k := 0) (n := 0) hA B (u_VN (rest := []) X (c_X1_isAlikeTo l g N ad x t3.2 dy la kn re hN 12 (by decide) 13 (by decide) H.size) mw_X1_isAlikeTo md_X1_isAlikeTo rfl lk_X2_126 ⟨Nat.le_of_ble_eq_true rfl, Nat.le_of_ble_eq_true rfl⟩ hA hK hT B (pl_sp hN (by decide)) (cf_sp (by decide)) rfl rfl hl.1 rfl (Nat.le_of_ble_eq_true rfl) dX2_isAlikenessSound_32 ⟨Nat.le_of_ble_eq_true rfl, Nat.le_of_ble_eq_true rfl⟩) (Nat.le_of_ble_eq_true rfl) (Nat.le_of_ble_eq_true rfl) (fun r ad' f' H locs hw B => ?_)
      obtain ⟨rfl, rfl, rfl⟩ := hw
      generalize (v_X1_isAlikeTo t3.2 12 13) = t5
      refine lv_aload_n hx hb dX2_isAlikenessSound_35 rfl (lv_at hl 1 rfl) ?_
      refine lv_aload_n hx hb dX2_isAlikenessSound_36 rfl (lv_at hl 2 rfl) ?_
      refine k_i (k := 0) (n := 0) hA B (u_VN (rest := [.int t5]) X (c_X1_isAlikeTo l g N ad x t3.2 dy la kn re hN i1 hi1 i2 hi2 H.size) mw_X1_isAlikeTo md_X1_isAlikeTo rfl lk_X2_126 ⟨Nat.le_of_ble_eq_true rfl, Nat.le_of_ble_eq_true rfl⟩ hA hK hT B (pl_sp hN hi1) (cf_sp hi1) rfl rfl hl.1 rfl (Nat.le_of_ble_eq_true rfl) dX2_isAlikenessSound_37 ⟨Nat.le_of_ble_eq_true rfl, Nat.le_of_ble_eq_true rfl⟩) (Nat.le_of_ble_eq_true rfl) (Nat.le_of_ble_eq_true rfl) (fun r ad' f' H locs hw B => ?_)
      obtain ⟨rfl, rfl, rfl⟩ := hw
      generalize (v_X1_isAlikeTo t3.2 i1 i2) = t6
      refine lv_icmp_ne (tgt := 47) hx hb dX2_isAlikenessSound_40 (by decide) (fun c7 => ?_) (fun c7 => ?_)
      · refine lv_iconst (v := 0) hx hb dX2_isAlikenessSound_47 (by decide) ?_
        exact rt_i X hr (ad, (cf g ad x t3.2 dy la kn re)) B (PO_of B) ⟨rfl, _, _, k3, fun _ _ => rfl, rfl⟩ rfl (Nat.le_of_ble_eq_true rfl) (Nat.le_of_ble_eq_true rfl) dX2_isAlikenessSound_48
      · refine lv_iconst (v := 1) hx hb dX2_isAlikenessSound_43 (by decide) ?_
        refine lv_goto (tgt := 48) hx hb dX2_isAlikenessSound_44 (by decide) ?_
        exact rt_i X hr (ad, (cf g ad x t3.2 dy la kn re)) B (PO_of B) ⟨rfl, _, _, k3, fun _ _ => rfl, rfl⟩ rfl (Nat.le_of_ble_eq_true rfl) (Nat.le_of_ble_eq_true rfl) dX2_isAlikenessSound_48
    · refine lv_iconst (v := 1) hx hb dX2_isAlikenessSound_22 (by decide) ?_
      exact rt_i X hr (ad, (cf g ad x t3.2 dy la kn re)) B (PO_of B) ⟨rfl, _, _, k3, fun _ _ => rfl, rfl⟩ rfl (Nat.le_of_ble_eq_true rfl) (Nat.le_of_ble_eq_true rfl) dX2_isAlikenessSound_23
set_option maxHeartbeats 4000000 in
set_option maxRecDepth 100000 in
theorem c_X2_isSound (l : Launch) (g : GG) (N : Nat) (ad : Nat → Nat) (x : Nat → va_E) (sp dy : Nat → TR) (la kn re : Int32) (hN : 23 ≤ N) : KI l yX2_isSound cX2_isSound 3 (some .boolean) (rm 5 0 0) g [.ref (ad 0)] N ad (cf g ad x sp dy la kn re) N (fun r ad' f' => ad = ad' ∧ ∃ sp' dy' : Nat → TR, (∀ j, j < 12 → sp' j = sp j) ∧ (∀ j, j < 4 → dy' j = dy j) ∧ cf g ad x sp' dy' la kn re = f') := by
  intro sz
  refine mt_start (by decide) (Nat.le_of_ble_eq_true rfl) ?_
  intro p e s m args below meth c hsz X hr hnam hA hK hT H locs B ls hl
  obtain ⟨hx, hb, hml, hown, hts, hlocks⟩ := id X
  have hl : lv_has ls 3 [(0, .ref (ad 0))] := hl
  refine lv_iconst (v := 0) hx hb dX2_isSound_0 (by decide) ?_
  refine lv_istore_n (lv' := [(1, .int 0), (0, .ref (ad 0))]) hx hb dX2_isSound_1 rfl hl (by decide) rfl (fun ls hl => ?_)
  have loop1 : ∀ (n1 : Nat) (ua : Int32) (sp9 : Nat → TR) (dy9 : Nat → TR) (H : Heap) (locs : List Loc), ((4 : Int32).toInt - ua.toInt).toNat < n1 → ¬ ua < 0 → (∀ j, j < 12 → sp9 j = sp j) → (∀ j, j < 4 → dy9 j = dy j) → WB g (aw N ad sz) s.heap N ad (cf g ad x sp9 dy9 la kn re) H locs → ∀ ls : Array Slot, lv_has ls 3 [(1, .int ua), (0, .ref (ad 0))] → W p l e (rm 5 0 0) s m args below meth c H locs 0 0 (MQ below (va_Qi (fun r (u : WS) => (fun r ad' f' => ad = ad' ∧ ∃ sp' dy' : Nat → TR, (∀ j, j < 12 → sp' j = sp j) ∧ (∀ j, j < 4 → dy' j = dy j) ∧ cf g ad x sp' dy' la kn re = f') r u.1 u.2) (fun u t => PO g N u.1 u.2 (aw N ad sz) t) (aw N ad sz)) args s (rm 5 0 0).cells (rm 5 0 0).slots (aw N ad sz)) (F0 m 2 ls []) := by
    intro n1
    induction n1 with
    | zero => intro ua sp9 dy9 H locs hn; exact absurd hn (Nat.not_lt_zero _)
    | succ n1 ih1 =>
      intro ua sp9 dy9 H locs hn1 hzua hksp1 hkdy1 B ls hl
      refine lv_iload_n hx hb dX2_isSound_2 rfl (lv_at hl 0 rfl) ?_
      refine lv_iconst (v := 4) hx hb dX2_isSound_3 (by decide) ?_
      refine lv_icmp_ge (tgt := 81) hx hb dX2_isSound_4 (by decide) (fun c2 => ?_) (fun c2 => ?_)
      · refine lv_iconst (v := 0) hx hb dX2_isSound_81 (by decide) ?_
        refine lv_istore_n (lv' := [(1, .int 0), (0, .ref (ad 0))]) hx hb dX2_isSound_82 rfl hl (by decide) rfl (fun ls hl => ?_)
        have loop3 : ∀ (n3 : Nat) (uc : Int32) (sp9 : Nat → TR) (dy9 : Nat → TR) (H : Heap) (locs : List Loc), ((4 : Int32).toInt - uc.toInt).toNat < n3 → ¬ uc < 0 → (∀ j, j < 12 → sp9 j = sp j) → (∀ j, j < 4 → dy9 j = dy j) → WB g (aw N ad sz) s.heap N ad (cf g ad x sp9 dy9 la kn re) H locs → ∀ ls : Array Slot, lv_has ls 3 [(1, .int uc), (0, .ref (ad 0))] → W p l e (rm 5 0 0) s m args below meth c H locs 0 0 (MQ below (va_Qi (fun r (u : WS) => (fun r ad' f' => ad = ad' ∧ ∃ sp' dy' : Nat → TR, (∀ j, j < 12 → sp' j = sp j) ∧ (∀ j, j < 4 → dy' j = dy j) ∧ cf g ad x sp' dy' la kn re = f') r u.1 u.2) (fun u t => PO g N u.1 u.2 (aw N ad sz) t) (aw N ad sz)) args s (rm 5 0 0).cells (rm 5 0 0).slots (aw N ad sz)) (F0 m 83 ls []) := by
          intro n3
          induction n3 with
          | zero => intro uc sp9 dy9 H locs hn; exact absurd hn (Nat.not_lt_zero _)
          | succ n3 ih3 =>
            intro uc sp9 dy9 H locs hn3 hzuc hksp3 hkdy3 B ls hl
            refine lv_iload_n hx hb dX2_isSound_83 rfl (lv_at hl 0 rfl) ?_
            refine lv_iconst (v := 4) hx hb dX2_isSound_84 (by decide) ?_
            refine lv_icmp_ge (tgt := 154) hx hb dX2_isSound_85 (by decide) (fun c4 => ?_) (fun c4 => ?_)
            · refine lv_iconst (v := 1) hx hb dX2_isSound_154 (by decide) ?_
              exact rt_i X hr (ad, (cf g ad x sp9 dy9 la kn re)) B (PO_of B) ⟨rfl, _, _, hksp3, hkdy3, rfl⟩ rfl (Nat.le_of_ble_eq_true rfl) (Nat.le_of_ble_eq_true rfl) dX2_isSound_155
            · refine lv_iconst (v := 0) hx hb dX2_isSound_88 (by decide) ?_
              refine lv_istore_n (lv' := [(2, .int 0), (1, .int uc), (0, .ref (ad 0))]) hx hb dX2_isSound_89 rfl hl (by decide) rfl (fun ls hl => ?_)
              have loop5 : ∀ (n5 : Nat) (ud : Int32) (sp9 : Nat → TR) (dy9 : Nat → TR) (H : Heap) (locs : List Loc), ((4 : Int32).toInt - ud.toInt).toNat < n5 → ¬ ud < 0 → (∀ j, j < 12 → sp9 j = sp j) → (∀ j, j < 4 → dy9 j = dy j) → WB g (aw N ad sz) s.heap N ad (cf g ad x sp9 dy9 la kn re) H locs → ∀ ls : Array Slot, lv_has ls 3 [(2, .int ud), (1, .int uc), (0, .ref (ad 0))] → W p l e (rm 5 0 0) s m args below meth c H locs 0 0 (MQ below (va_Qi (fun r (u : WS) => (fun r ad' f' => ad = ad' ∧ ∃ sp' dy' : Nat → TR, (∀ j, j < 12 → sp' j = sp j) ∧ (∀ j, j < 4 → dy' j = dy j) ∧ cf g ad x sp' dy' la kn re = f') r u.1 u.2) (fun u t => PO g N u.1 u.2 (aw N ad sz) t) (aw N ad sz)) args s (rm 5 0 0).cells (rm 5 0 0).slots (aw N ad sz)) (F0 m 90 ls []) := by
                intro n5
                induction n5 with
                | zero => intro ud sp9 dy9 H locs hn; exact absurd hn (Nat.not_lt_zero _)
                | succ n5 ih5 =>
                  intro ud sp9 dy9 H locs hn5 hzud hksp5 hkdy5 B ls hl
                  refine lv_iload_n hx hb dX2_isSound_90 rfl (lv_at hl 0 rfl) ?_
                  refine lv_iconst (v := 4) hx hb dX2_isSound_91 (by decide) ?_
                  refine lv_icmp_ge (tgt := 148) hx hb dX2_isSound_92 (by decide) (fun c6 => ?_) (fun c6 => ?_)
                  · refine lv_iinc (v := uc + 1) (lv' := [(1, .int (uc + 1)), (2, .int ud), (0, .ref (ad 0))]) hx hb dX2_isSound_148 hl (k := 1) rfl rfl (by decide) rfl (fun ls hl => ?_)
                    refine lv_goto (tgt := 83) hx hb dX2_isSound_151 (by decide) ?_
                    exact ih3 (uc + 1) sp9 dy9 H locs (fu_le c4 hn3) (inc_nn hzuc c4) (hksp5) (hkdy5) B ls (lv_sub hl [0, 2] rfl)
                  · refine lv_aload_n hx hb dX2_isSound_95 rfl (lv_at hl 2 rfl) ?_
                    refine g_get (q := 0) (k := 6) X hK B rfl in_X2 (pl_c hN 0 (by decide)) cf_0 (by decide) lk_X2_25 rfl rfl dX2_isSound_96 ?_
                    refine lv_aload_n hx hb dX2_isSound_99 rfl (lv_at hl 2 rfl) ?_
                    refine g_get (q := 0) (k := 2) X hK B rfl in_X2 (pl_c hN 0 (by decide)) cf_0 (by decide) lk_X2_20 rfl rfl dX2_isSound_100 ?_
                    refine lv_iload_n hx hb dX2_isSound_103 rfl (lv_at hl 1 rfl) ?_
                    refine g_aald (q := 3) (t0 := 4) X hK B (pl_c hN 3 (by decide)) cf_3 rfl rfl (ix_in (n := 4) hzuc c4 rfl) dX2_isSound_104 ?_
                    have h7 : uc.toNatClampNeg < 5 := by have := (ix_lt (n := 4) hzuc c4 rfl); omega
                    refine lv_aload_n hx hb dX2_isSound_105 rfl (lv_at hl 2 rfl) ?_
                    refine g_get (q := 0) (k := 2) X hK B rfl in_X2 (pl_c hN 0 (by decide)) cf_0 (by decide) lk_X2_20 rfl rfl dX2_isSound_106 ?_
                    refine lv_iload_n hx hb dX2_isSound_109 rfl (lv_at hl 0 rfl) ?_
                    refine g_aald (q := 3) (t0 := 4) X hK B (pl_c hN 3 (by decide)) cf_3 rfl rfl (ix_in (n := 4) hzud c6 rfl) dX2_isSound_110 ?_
                    have h8 : ud.toNatClampNeg < 5 := by have := (ix_lt (n := 4) hzud c6 rfl); omega
                    refine k_i (k := 0) (n := 0) hA B (u_VN (rest := []) X (c_X1_putBetween l g N ad x sp9 dy9 la kn re hN 12 (by decide) uc.toNatClampNeg h7 ud.toNatClampNeg h8 H.size) mw_X1_putBetween md_X1_putBetween rfl lk_X2_173 ⟨Nat.le_of_ble_eq_true rfl, Nat.le_of_ble_eq_true rfl⟩ hA hK hT B (pl_sp hN (by decide)) (cf_sp (by decide)) rfl rfl hl.1 rfl (Nat.le_of_ble_eq_true rfl) dX2_isSound_111 ⟨Nat.le_of_ble_eq_true rfl, Nat.le_of_ble_eq_true rfl⟩) (Nat.le_of_ble_eq_true rfl) (Nat.le_of_ble_eq_true rfl) (fun r ad' f' H locs hw B => ?_)
                    obtain ⟨rfl, rfl, rfl⟩ := hw
                    have k9 : ∀ j, j < 12 → (v_X1_putBetween sp9 dy9 12 uc.toNatClampNeg ud.toNatClampNeg).2 j = sp j := fun j hj => (kp_X1_putBetween_sp (by omega)).trans (hksp5 j hj)
                    generalize (v_X1_putBetween sp9 dy9 12 uc.toNatClampNeg ud.toNatClampNeg) = t9 at k9 B ⊢
                    refine lv_if_eq (tgt := 142) hx hb dX2_isSound_114 (by decide) (fun c10 => ?_) (fun c10 => ?_)
                    · refine lv_iinc (v := ud + 1) (lv' := [(2, .int (ud + 1)), (1, .int uc), (0, .ref (ad 0))]) hx hb dX2_isSound_142 hl (k := 0) rfl rfl (by decide) rfl (fun ls hl => ?_)
                      refine lv_goto (tgt := 90) hx hb dX2_isSound_145 (by decide) ?_
                      exact ih5 (ud + 1) t9.2 dy9 H locs (fu_le c6 hn5) (inc_nn hzud c6) (k9) (hkdy5) B ls (lv_sub hl [0, 1, 2] rfl)
                    · refine lv_aload_n hx hb dX2_isSound_117 rfl (lv_at hl 2 rfl) ?_
                      refine lv_aload_n hx hb dX2_isSound_118 rfl (lv_at hl 2 rfl) ?_
                      refine g_get (q := 0) (k := 2) X hK B rfl in_X2 (pl_c hN 0 (by decide)) cf_0 (by decide) lk_X2_20 rfl rfl dX2_isSound_119 ?_
                      refine lv_iload_n hx hb dX2_isSound_122 rfl (lv_at hl 1 rfl) ?_
                      refine g_aald (q := 3) (t0 := 4) X hK B (pl_c hN 3 (by decide)) cf_3 rfl rfl (ix_in (n := 4) hzuc c4 rfl) dX2_isSound_123 ?_
                      have h11 : uc.toNatClampNeg < 5 := by have := (ix_lt (n := 4) hzuc c4 rfl); omega
                      refine lv_aload_n hx hb dX2_isSound_124 rfl (lv_at hl 2 rfl) ?_
                      refine g_get (q := 0) (k := 6) X hK B rfl in_X2 (pl_c hN 0 (by decide)) cf_0 (by decide) lk_X2_25 rfl rfl dX2_isSound_125 ?_
                      refine lv_aload_n hx hb dX2_isSound_128 rfl (lv_at hl 2 rfl) ?_
                      refine g_get (q := 0) (k := 2) X hK B rfl in_X2 (pl_c hN 0 (by decide)) cf_0 (by decide) lk_X2_20 rfl rfl dX2_isSound_129 ?_
                      refine lv_iload_n hx hb dX2_isSound_132 rfl (lv_at hl 0 rfl) ?_
                      refine g_aald (q := 3) (t0 := 4) X hK B (pl_c hN 3 (by decide)) cf_3 rfl rfl (ix_in (n := 4) hzud c6 rfl) dX2_isSound_133 ?_
                      have h12 : ud.toNatClampNeg < 5 := by have := (ix_lt (n := 4) hzud c6 rfl); omega
                      refine k_i (k := 0) (n := 0) hA B (u_V (rest := []) X (c_X2_leads l g N ad x t9.2 dy9 la kn re hN uc.toNatClampNeg h11 12 (by decide) ud.toNatClampNeg h12 H.size) mw_X2_leads md_X2_leads rfl lk_X2_177 ⟨Nat.le_of_ble_eq_true rfl, Nat.le_of_ble_eq_true rfl⟩ hA hK hT B (pl_c hN 0 (by decide)) cf_0 rfl rfl hl.1 rfl (Nat.le_of_ble_eq_true rfl) dX2_isSound_134 ⟨Nat.le_of_ble_eq_true rfl, Nat.le_of_ble_eq_true rfl⟩) (Nat.le_of_ble_eq_true rfl) (Nat.le_of_ble_eq_true rfl) (fun r ad' f' H locs hw B => ?_)
                      obtain ⟨rfl, rfl, rfl⟩ := hw
                      have e13 : ∀ j, j < 4 → (v_X2_leads t9.2 dy9 uc.toNatClampNeg 12 ud.toNatClampNeg).2 j = dy j := fun j hj => (kp_X2_leads_dy (by omega)).trans (hkdy5 j hj)
                      generalize (v_X2_leads t9.2 dy9 uc.toNatClampNeg 12 ud.toNatClampNeg) = t13 at e13 B ⊢
                      refine lv_if_ne (tgt := 142) hx hb dX2_isSound_137 (by decide) (fun c14 => ?_) (fun c14 => ?_)
                      · refine lv_iinc (v := ud + 1) (lv' := [(2, .int (ud + 1)), (1, .int uc), (0, .ref (ad 0))]) hx hb dX2_isSound_142 hl (k := 0) rfl rfl (by decide) rfl (fun ls hl => ?_)
                        refine lv_goto (tgt := 90) hx hb dX2_isSound_145 (by decide) ?_
                        exact ih5 (ud + 1) t9.2 t13.2 H locs (fu_le c6 hn5) (inc_nn hzud c6) (k9) (e13) B ls (lv_sub hl [0, 1, 2] rfl)
                      · refine lv_iconst (v := 0) hx hb dX2_isSound_140 (by decide) ?_
                        exact rt_i X hr (ad, (cf g ad x t9.2 t13.2 la kn re)) B (PO_of B) ⟨rfl, _, _, k9, e13, rfl⟩ rfl (Nat.le_of_ble_eq_true rfl) (Nat.le_of_ble_eq_true rfl) dX2_isSound_141
              exact loop5 (((4 : Int32).toInt - (0 : Int32).toInt).toNat + 1) 0 sp9 dy9 H locs (Nat.lt_succ_self _) (by decide) (hksp3) (hkdy3) B ls hl
        exact loop3 (((4 : Int32).toInt - (0 : Int32).toInt).toNat + 1) 0 sp9 dy9 H locs (Nat.lt_succ_self _) (by decide) (hksp1) (hkdy1) B ls hl
      · refine lv_aload_n hx hb dX2_isSound_7 rfl (lv_at hl 1 rfl) ?_
        refine lv_aload_n hx hb dX2_isSound_8 rfl (lv_at hl 1 rfl) ?_
        refine g_get (q := 0) (k := 0) X hK B rfl in_X2 (pl_c hN 0 (by decide)) cf_0 (by decide) lk_X2_11 rfl rfl dX2_isSound_9 ?_
        refine lv_iload_n hx hb dX2_isSound_12 rfl (lv_at hl 0 rfl) ?_
        refine g_aald (q := 1) (t0 := 3) X hK B (pl_c hN 1 (by decide)) cf_1 rfl rfl (ix_in (n := 4) hzua c2 rfl) dX2_isSound_13 ?_
        have h15 : ua.toNatClampNeg < 14 := by have := (ix_lt (n := 4) hzua c2 rfl); omega
        refine k_i (k := 0) (n := 0) hA B (u_V (rest := []) X (c_X2_isSpanSound l g N ad x sp9 dy9 la kn re hN ua.toNatClampNeg h15 H.size) mw_X2_isSpanSound md_X2_isSpanSound rfl lk_X2_191 ⟨Nat.le_of_ble_eq_true rfl, Nat.le_of_ble_eq_true rfl⟩ hA hK hT B (pl_c hN 0 (by decide)) cf_0 rfl rfl hl.1 rfl (Nat.le_of_ble_eq_true rfl) dX2_isSound_14 ⟨Nat.le_of_ble_eq_true rfl, Nat.le_of_ble_eq_true rfl⟩) (Nat.le_of_ble_eq_true rfl) (Nat.le_of_ble_eq_true rfl) (fun r16 ad' f' H locs hw B => ?_)
        obtain ⟨rfl, sp16, dy16, k16, e16, rfl⟩ := hw
        have k16 : ∀ j, j < 12 → sp16 j = sp j := fun j hj => (k16 j hj).trans (hksp1 j hj)
        have e16 : ∀ j, j < 4 → dy16 j = dy j := fun j hj => (e16 j hj).trans (hkdy1 j hj)
        refine lv_if_ne (tgt := 22) hx hb dX2_isSound_17 (by decide) (fun c17 => ?_) (fun c17 => ?_)
        · refine lv_iconst (v := 0) hx hb dX2_isSound_22 (by decide) ?_
          refine lv_istore_n (lv' := [(2, .int 0), (1, .int ua), (0, .ref (ad 0))]) hx hb dX2_isSound_23 rfl hl (by decide) rfl (fun ls hl => ?_)
          have loop18 : ∀ (n18 : Nat) (ub : Int32) (sp9 : Nat → TR) (dy9 : Nat → TR) (H : Heap) (locs : List Loc), ((4 : Int32).toInt - ub.toInt).toNat < n18 → ¬ ub < 0 → (∀ j, j < 12 → sp9 j = sp j) → (∀ j, j < 4 → dy9 j = dy j) → WB g (aw N ad sz) s.heap N ad (cf g ad x sp9 dy9 la kn re) H locs → ∀ ls : Array Slot, lv_has ls 3 [(2, .int ub), (1, .int ua), (0, .ref (ad 0))] → W p l e (rm 5 0 0) s m args below meth c H locs 0 0 (MQ below (va_Qi (fun r (u : WS) => (fun r ad' f' => ad = ad' ∧ ∃ sp' dy' : Nat → TR, (∀ j, j < 12 → sp' j = sp j) ∧ (∀ j, j < 4 → dy' j = dy j) ∧ cf g ad x sp' dy' la kn re = f') r u.1 u.2) (fun u t => PO g N u.1 u.2 (aw N ad sz) t) (aw N ad sz)) args s (rm 5 0 0).cells (rm 5 0 0).slots (aw N ad sz)) (F0 m 24 ls []) := by
            intro n18
            induction n18 with
            | zero => intro ub sp9 dy9 H locs hn; exact absurd hn (Nat.not_lt_zero _)
            | succ n18 ih18 =>
              intro ub sp9 dy9 H locs hn18 hzub hksp18 hkdy18 B ls hl
              refine lv_iload_n hx hb dX2_isSound_24 rfl (lv_at hl 0 rfl) ?_
              refine lv_iconst (v := 4) hx hb dX2_isSound_25 (by decide) ?_
              refine lv_icmp_ge (tgt := 75) hx hb dX2_isSound_26 (by decide) (fun c19 => ?_) (fun c19 => ?_)
              · refine lv_iinc (v := ua + 1) (lv' := [(1, .int (ua + 1)), (2, .int ub), (0, .ref (ad 0))]) hx hb dX2_isSound_75 hl (k := 1) rfl rfl (by decide) rfl (fun ls hl => ?_)
                refine lv_goto (tgt := 2) hx hb dX2_isSound_78 (by decide) ?_
                exact ih1 (ua + 1) sp9 dy9 H locs (fu_le c2 hn1) (inc_nn hzua c2) (hksp18) (hkdy18) B ls (lv_sub hl [0, 2] rfl)
              · refine lv_aload_n hx hb dX2_isSound_29 rfl (lv_at hl 2 rfl) ?_
                refine lv_aload_n hx hb dX2_isSound_30 rfl (lv_at hl 2 rfl) ?_
                refine g_get (q := 0) (k := 0) X hK B rfl in_X2 (pl_c hN 0 (by decide)) cf_0 (by decide) lk_X2_11 rfl rfl dX2_isSound_31 ?_
                refine lv_iload_n hx hb dX2_isSound_34 rfl (lv_at hl 1 rfl) ?_
                refine g_aald (q := 1) (t0 := 3) X hK B (pl_c hN 1 (by decide)) cf_1 rfl rfl (ix_in (n := 4) hzua c2 rfl) dX2_isSound_35 ?_
                have h20 : ua.toNatClampNeg < 14 := by have := (ix_lt (n := 4) hzua c2 rfl); omega
                refine lv_aload_n hx hb dX2_isSound_36 rfl (lv_at hl 2 rfl) ?_
                refine g_get (q := 0) (k := 0) X hK B rfl in_X2 (pl_c hN 0 (by decide)) cf_0 (by decide) lk_X2_11 rfl rfl dX2_isSound_37 ?_
                refine lv_iload_n hx hb dX2_isSound_40 rfl (lv_at hl 0 rfl) ?_
                refine g_aald (q := 1) (t0 := 3) X hK B (pl_c hN 1 (by decide)) cf_1 rfl rfl (ix_in (n := 4) hzub c19 rfl) dX2_isSound_41 ?_
                have h21 : ub.toNatClampNeg < 14 := by have := (ix_lt (n := 4) hzub c19 rfl); omega
                refine k_i (k := 0) (n := 0) hA B (u_V (rest := []) X (c_X2_isSumSound l g N ad x sp9 dy9 la kn re hN ua.toNatClampNeg h20 ub.toNatClampNeg h21 H.size) mw_X2_isSumSound md_X2_isSumSound rfl lk_X2_194 ⟨Nat.le_of_ble_eq_true rfl, Nat.le_of_ble_eq_true rfl⟩ hA hK hT B (pl_c hN 0 (by decide)) cf_0 rfl rfl hl.1 rfl (Nat.le_of_ble_eq_true rfl) dX2_isSound_42 ⟨Nat.le_of_ble_eq_true rfl, Nat.le_of_ble_eq_true rfl⟩) (Nat.le_of_ble_eq_true rfl) (Nat.le_of_ble_eq_true rfl) (fun r22 ad' f' H locs hw B => ?_)
                obtain ⟨rfl, sp22, dy22, k22, e22, rfl⟩ := hw
                have k22 : ∀ j, j < 12 → sp22 j = sp j := fun j hj => (k22 j hj).trans (hksp18 j hj)
                have e22 : ∀ j, j < 4 → dy22 j = dy j := fun j hj => (e22 j hj).trans (hkdy18 j hj)
                refine lv_if_eq (tgt := 67) hx hb dX2_isSound_45 (by decide) (fun c23 => ?_) (fun c23 => ?_)
                · refine lv_iconst (v := 0) hx hb dX2_isSound_67 (by decide) ?_
                  exact rt_i X hr (ad, (cf g ad x sp22 dy22 la kn re)) B (PO_of B) ⟨rfl, _, _, k22, e22, rfl⟩ rfl (Nat.le_of_ble_eq_true rfl) (Nat.le_of_ble_eq_true rfl) dX2_isSound_68
                · refine lv_aload_n hx hb dX2_isSound_48 rfl (lv_at hl 2 rfl) ?_
                  refine lv_aload_n hx hb dX2_isSound_49 rfl (lv_at hl 2 rfl) ?_
                  refine g_get (q := 0) (k := 0) X hK B rfl in_X2 (pl_c hN 0 (by decide)) cf_0 (by decide) lk_X2_11 rfl rfl dX2_isSound_50 ?_
                  refine lv_iload_n hx hb dX2_isSound_53 rfl (lv_at hl 1 rfl) ?_
                  refine g_aald (q := 1) (t0 := 3) X hK B (pl_c hN 1 (by decide)) cf_1 rfl rfl (ix_in (n := 4) hzua c2 rfl) dX2_isSound_54 ?_
                  have h24 : ua.toNatClampNeg < 14 := by have := (ix_lt (n := 4) hzua c2 rfl); omega
                  refine lv_aload_n hx hb dX2_isSound_55 rfl (lv_at hl 2 rfl) ?_
                  refine g_get (q := 0) (k := 0) X hK B rfl in_X2 (pl_c hN 0 (by decide)) cf_0 (by decide) lk_X2_11 rfl rfl dX2_isSound_56 ?_
                  refine lv_iload_n hx hb dX2_isSound_59 rfl (lv_at hl 0 rfl) ?_
                  refine g_aald (q := 1) (t0 := 3) X hK B (pl_c hN 1 (by decide)) cf_1 rfl rfl (ix_in (n := 4) hzub c19 rfl) dX2_isSound_60 ?_
                  have h25 : ub.toNatClampNeg < 14 := by have := (ix_lt (n := 4) hzub c19 rfl); omega
                  refine k_i (k := 0) (n := 0) hA B (u_V (rest := []) X (c_X2_isAlikenessSound l g N ad x sp22 dy22 la kn re hN ua.toNatClampNeg h24 ub.toNatClampNeg h25 H.size) mw_X2_isAlikenessSound md_X2_isAlikenessSound rfl lk_X2_197 ⟨Nat.le_of_ble_eq_true rfl, Nat.le_of_ble_eq_true rfl⟩ hA hK hT B (pl_c hN 0 (by decide)) cf_0 rfl rfl hl.1 rfl (Nat.le_of_ble_eq_true rfl) dX2_isSound_61 ⟨Nat.le_of_ble_eq_true rfl, Nat.le_of_ble_eq_true rfl⟩) (Nat.le_of_ble_eq_true rfl) (Nat.le_of_ble_eq_true rfl) (fun r26 ad' f' H locs hw B => ?_)
                  obtain ⟨rfl, sp26, dy26, k26, e26, rfl⟩ := hw
                  have k26 : ∀ j, j < 12 → sp26 j = sp j := fun j hj => (k26 j hj).trans (k22 j hj)
                  have e26 : ∀ j, j < 4 → dy26 j = dy j := fun j hj => (e26 j hj).trans (e22 j hj)
                  refine lv_if_ne (tgt := 69) hx hb dX2_isSound_64 (by decide) (fun c27 => ?_) (fun c27 => ?_)
                  · refine lv_iinc (v := ub + 1) (lv' := [(2, .int (ub + 1)), (1, .int ua), (0, .ref (ad 0))]) hx hb dX2_isSound_69 hl (k := 0) rfl rfl (by decide) rfl (fun ls hl => ?_)
                    refine lv_goto (tgt := 24) hx hb dX2_isSound_72 (by decide) ?_
                    exact ih18 (ub + 1) sp26 dy26 H locs (fu_le c19 hn18) (inc_nn hzub c19) (k26) (e26) B ls (lv_sub hl [0, 1, 2] rfl)
                  · refine lv_iconst (v := 0) hx hb dX2_isSound_67 (by decide) ?_
                    exact rt_i X hr (ad, (cf g ad x sp26 dy26 la kn re)) B (PO_of B) ⟨rfl, _, _, k26, e26, rfl⟩ rfl (Nat.le_of_ble_eq_true rfl) (Nat.le_of_ble_eq_true rfl) dX2_isSound_68
          exact loop18 (((4 : Int32).toInt - (0 : Int32).toInt).toNat + 1) 0 sp16 dy16 H locs (Nat.lt_succ_self _) (by decide) (k16) (e16) B ls hl
        · refine lv_iconst (v := 0) hx hb dX2_isSound_20 (by decide) ?_
          exact rt_i X hr (ad, (cf g ad x sp16 dy16 la kn re)) B (PO_of B) ⟨rfl, _, _, k16, e16, rfl⟩ rfl (Nat.le_of_ble_eq_true rfl) (Nat.le_of_ble_eq_true rfl) dX2_isSound_21
  exact loop1 (((4 : Int32).toInt - (0 : Int32).toInt).toNat + 1) 0 sp dy H locs (Nat.lt_succ_self _) (by decide) (fun _ _ => rfl) (fun _ _ => rfl) B ls hl
set_option maxHeartbeats 4000000 in
set_option maxRecDepth 100000 in
theorem c_X2_digestCard (l : Launch) (g : GG) (N : Nat) (ad : Nat → Nat) (x : Nat → va_E) (sp dy : Nat → TR) (la kn re : Int32) (hN : 23 ≤ N) (b1 : Int64) (i2 : Nat) (hi2 : i2 < 14) : KL l yX2_digestCard cX2_digestCard 7 (rm 4 0 0) g [.ref (ad 0), .long b1, .ref (ad (4 + i2))] N ad (cf g ad x sp dy la kn re) N (fun r ad' f' => ad = ad' ∧ ∃ sp' dy' : Nat → TR, (∀ j, j < 12 → sp' j = sp j) ∧ (∀ j, j < 4 → dy' j = dy j) ∧ cf g ad x sp' dy' la kn re = f') := by
  intro sz
  refine mt_start (by decide) (Nat.le_of_ble_eq_true rfl) ?_
  intro p e s m args below meth c hsz X hr hnam hA hK hT H locs B ls hl
  obtain ⟨hx, hb, hml, hown, hts, hlocks⟩ := id X
  have hl : lv_has ls 7 [(0, .ref (ad 0)), (1, .long b1), (3, .ref (ad (4 + i2)))] := hl
  refine lv_lload_n hx hb dX2_digestCard_0 rfl (lv_at hl 1 rfl) ?_
  refine lv_lstore (lv' := [(4, .long b1), (0, .ref (ad 0)), (1, .long b1), (3, .ref (ad (4 + i2)))]) hx hb dX2_digestCard_1 hl (by decide) rfl (fun ls hl => ?_)
  refine lv_iconst (v := 0) hx hb dX2_digestCard_3 (by decide) ?_
  refine lv_istore (lv' := [(6, .int 0), (4, .long b1), (0, .ref (ad 0)), (1, .long b1), (3, .ref (ad (4 + i2)))]) hx hb dX2_digestCard_4 hl (by decide) rfl (fun ls hl => ?_)
  have loop1 : ∀ (n1 : Nat) (ua : Int32) (da : Int64) (sp9 : Nat → TR) (dy9 : Nat → TR) (H : Heap) (locs : List Loc), ((3 : Int32).toInt - ua.toInt).toNat < n1 → ¬ ua < 0 → (∀ j, j < 12 → sp9 j = sp j) → (∀ j, j < 4 → dy9 j = dy j) → WB g (aw N ad sz) s.heap N ad (cf g ad x sp9 dy9 la kn re) H locs → ∀ ls : Array Slot, lv_has ls 7 [(6, .int ua), (4, .long da), (0, .ref (ad 0)), (1, .long b1), (3, .ref (ad (4 + i2)))] → W p l e (rm 4 0 0) s m args below meth c H locs 0 0 (MQ below (va_Ql (fun r (u : WS) => (fun r ad' f' => ad = ad' ∧ ∃ sp' dy' : Nat → TR, (∀ j, j < 12 → sp' j = sp j) ∧ (∀ j, j < 4 → dy' j = dy j) ∧ cf g ad x sp' dy' la kn re = f') r u.1 u.2) (fun u t => PO g N u.1 u.2 (aw N ad sz) t) (aw N ad sz)) args s (rm 4 0 0).cells (rm 4 0 0).slots (aw N ad sz)) (F0 m 6 ls []) := by
    intro n1
    induction n1 with
    | zero => intro ua da sp9 dy9 H locs hn; exact absurd hn (Nat.not_lt_zero _)
    | succ n1 ih1 =>
      intro ua da sp9 dy9 H locs hn1 hzua hksp1 hkdy1 B ls hl
      refine lv_iload hx hb dX2_digestCard_6 (lv_at hl 0 rfl) ?_
      refine lv_iconst (v := 3) hx hb dX2_digestCard_8 (by decide) ?_
      refine lv_icmp_ge (tgt := 32) hx hb dX2_digestCard_9 (by decide) (fun c2 => ?_) (fun c2 => ?_)
      · refine lv_lload hx hb dX2_digestCard_32 (lv_at hl 1 rfl) ?_
        refine lv_aload_n hx hb dX2_digestCard_34 rfl (lv_at hl 4 rfl) ?_
        refine k_l (k := 0) (n := 0) hA B (u_VN (rest := [.long da]) X (c_X1_allMonths l g N ad x sp9 dy9 la kn re hN i2 hi2 H.size) mw_X1_allMonths md_X1_allMonths rfl lk_X2_108 ⟨Nat.le_of_ble_eq_true rfl, Nat.le_of_ble_eq_true rfl⟩ hA hK hT B (pl_sp hN hi2) (cf_sp hi2) rfl rfl hl.1 rfl (Nat.le_of_ble_eq_true rfl) dX2_digestCard_35 ⟨Nat.le_of_ble_eq_true rfl, Nat.le_of_ble_eq_true rfl⟩) (Nat.le_of_ble_eq_true rfl) (Nat.le_of_ble_eq_true rfl) (fun r ad' f' H locs hw B => ?_)
        obtain ⟨rfl, rfl, rfl⟩ := hw
        generalize (v_X1_allMonths sp9 i2) = t3
        refine k_l (k := 0) (n := 0) hA B (u_S (rest := []) X (c_X2_digestNext l g N ad x sp9 dy9 la kn re hN da t3 H.size) mw_X2_digestNext md_X2_digestNext rfl lk_X2_213 ⟨Nat.le_of_ble_eq_true rfl, Nat.le_of_ble_eq_true rfl⟩ hA hK hT B hl.1 rfl (Nat.le_of_ble_eq_true rfl) dX2_digestCard_38 ⟨Nat.le_of_ble_eq_true rfl, Nat.le_of_ble_eq_true rfl⟩) (Nat.le_of_ble_eq_true rfl) (Nat.le_of_ble_eq_true rfl) (fun r ad' f' H locs hw B => ?_)
        obtain ⟨rfl, rfl, rfl⟩ := hw
        generalize (v_X2_digestNext da t3) = t4
        refine lv_lstore (lv' := [(4, .long t4), (6, .int ua), (0, .ref (ad 0)), (1, .long b1), (3, .ref (ad (4 + i2)))]) hx hb dX2_digestCard_41 hl (by decide) rfl (fun ls hl => ?_)
        refine lv_lload hx hb dX2_digestCard_43 (lv_at hl 0 rfl) ?_
        refine lv_aload_n hx hb dX2_digestCard_45 rfl (lv_at hl 4 rfl) ?_
        refine k_i (k := 0) (n := 0) hA B (u_VN (rest := [.long t4]) X (c_X1_isNothing l g N ad x sp9 dy9 la kn re hN i2 hi2 H.size) mw_X1_isNothing md_X1_isNothing rfl lk_X2_116 ⟨Nat.le_of_ble_eq_true rfl, Nat.le_of_ble_eq_true rfl⟩ hA hK hT B (pl_sp hN hi2) (cf_sp hi2) rfl rfl hl.1 rfl (Nat.le_of_ble_eq_true rfl) dX2_digestCard_46 ⟨Nat.le_of_ble_eq_true rfl, Nat.le_of_ble_eq_true rfl⟩) (Nat.le_of_ble_eq_true rfl) (Nat.le_of_ble_eq_true rfl) (fun r ad' f' H locs hw B => ?_)
        obtain ⟨rfl, rfl, rfl⟩ := hw
        generalize (v_X1_isNothing sp9 i2) = t5
        refine lv_if_eq (tgt := 56) hx hb dX2_digestCard_49 (by decide) (fun c6 => ?_) (fun c6 => ?_)
        · refine lv_lconst (v := 0) hx hb dX2_digestCard_56 (by decide) ?_
          refine k_l (k := 0) (n := 0) hA B (u_S (rest := []) X (c_X2_digestNext l g N ad x sp9 dy9 la kn re hN t4 0 H.size) mw_X2_digestNext md_X2_digestNext rfl lk_X2_213 ⟨Nat.le_of_ble_eq_true rfl, Nat.le_of_ble_eq_true rfl⟩ hA hK hT B hl.1 rfl (Nat.le_of_ble_eq_true rfl) dX2_digestCard_57 ⟨Nat.le_of_ble_eq_true rfl, Nat.le_of_ble_eq_true rfl⟩) (Nat.le_of_ble_eq_true rfl) (Nat.le_of_ble_eq_true rfl) (fun r ad' f' H locs hw B => ?_)
          obtain ⟨rfl, rfl, rfl⟩ := hw
          generalize (v_X2_digestNext t4 0) = t7
          refine lv_lstore (lv' := [(4, .long t7), (6, .int ua), (0, .ref (ad 0)), (1, .long b1), (3, .ref (ad (4 + i2)))]) hx hb dX2_digestCard_60 hl (by decide) rfl (fun ls hl => ?_)
          refine lv_lload hx hb dX2_digestCard_62 (lv_at hl 0 rfl) ?_
          refine lv_aload_n hx hb dX2_digestCard_64 rfl (lv_at hl 4 rfl) ?_
          refine k_i (k := 0) (n := 0) hA B (u_VN (rest := [.long t7]) X (c_X1_isBelowZero l g N ad x sp9 dy9 la kn re hN i2 hi2 H.size) mw_X1_isBelowZero md_X1_isBelowZero rfl lk_X2_120 ⟨Nat.le_of_ble_eq_true rfl, Nat.le_of_ble_eq_true rfl⟩ hA hK hT B (pl_sp hN hi2) (cf_sp hi2) rfl rfl hl.1 rfl (Nat.le_of_ble_eq_true rfl) dX2_digestCard_65 ⟨Nat.le_of_ble_eq_true rfl, Nat.le_of_ble_eq_true rfl⟩) (Nat.le_of_ble_eq_true rfl) (Nat.le_of_ble_eq_true rfl) (fun r ad' f' H locs hw B => ?_)
          obtain ⟨rfl, rfl, rfl⟩ := hw
          generalize (v_X1_isBelowZero sp9 i2) = t8
          refine lv_if_eq (tgt := 75) hx hb dX2_digestCard_68 (by decide) (fun c9 => ?_) (fun c9 => ?_)
          · refine lv_lconst (v := 0) hx hb dX2_digestCard_75 (by decide) ?_
            refine k_l (k := 0) (n := 0) hA B (u_S (rest := []) X (c_X2_digestNext l g N ad x sp9 dy9 la kn re hN t7 0 H.size) mw_X2_digestNext md_X2_digestNext rfl lk_X2_213 ⟨Nat.le_of_ble_eq_true rfl, Nat.le_of_ble_eq_true rfl⟩ hA hK hT B hl.1 rfl (Nat.le_of_ble_eq_true rfl) dX2_digestCard_76 ⟨Nat.le_of_ble_eq_true rfl, Nat.le_of_ble_eq_true rfl⟩) (Nat.le_of_ble_eq_true rfl) (Nat.le_of_ble_eq_true rfl) (fun r ad' f' H locs hw B => ?_)
            obtain ⟨rfl, rfl, rfl⟩ := hw
            generalize (v_X2_digestNext t7 0) = t10
            refine lv_lstore (lv' := [(4, .long t10), (6, .int ua), (0, .ref (ad 0)), (1, .long b1), (3, .ref (ad (4 + i2)))]) hx hb dX2_digestCard_79 hl (by decide) rfl (fun ls hl => ?_)
            refine lv_lload hx hb dX2_digestCard_81 (lv_at hl 0 rfl) ?_
            refine lv_aload_n hx hb dX2_digestCard_83 rfl (lv_at hl 4 rfl) ?_
            refine k_i (k := 0) (n := 0) hA B (u_VN (rest := [.long t10]) X (c_X1_signs l g N ad x sp9 dy9 la kn re hN i2 hi2 H.size) mw_X1_signs md_X1_signs rfl lk_X2_210 ⟨Nat.le_of_ble_eq_true rfl, Nat.le_of_ble_eq_true rfl⟩ hA hK hT B (pl_sp hN hi2) (cf_sp hi2) rfl rfl hl.1 rfl (Nat.le_of_ble_eq_true rfl) dX2_digestCard_84 ⟨Nat.le_of_ble_eq_true rfl, Nat.le_of_ble_eq_true rfl⟩) (Nat.le_of_ble_eq_true rfl) (Nat.le_of_ble_eq_true rfl) (fun r ad' f' H locs hw B => ?_)
            obtain ⟨rfl, rfl, rfl⟩ := hw
            generalize (v_X1_signs sp9 i2) = t11
            refine lv_i2l (v := t11.toInt64) hx hb dX2_digestCard_87 rfl ?_
            refine k_l (k := 0) (n := 0) hA B (u_S (rest := []) X (c_X2_digestNext l g N ad x sp9 dy9 la kn re hN t10 t11.toInt64 H.size) mw_X2_digestNext md_X2_digestNext rfl lk_X2_213 ⟨Nat.le_of_ble_eq_true rfl, Nat.le_of_ble_eq_true rfl⟩ hA hK hT B hl.1 rfl (Nat.le_of_ble_eq_true rfl) dX2_digestCard_88 ⟨Nat.le_of_ble_eq_true rfl, Nat.le_of_ble_eq_true rfl⟩) (Nat.le_of_ble_eq_true rfl) (Nat.le_of_ble_eq_true rfl) (fun r ad' f' H locs hw B => ?_)
            obtain ⟨rfl, rfl, rfl⟩ := hw
            generalize (v_X2_digestNext t10 t11.toInt64) = t12
            refine lv_lstore (lv' := [(4, .long t12), (6, .int ua), (0, .ref (ad 0)), (1, .long b1), (3, .ref (ad (4 + i2)))]) hx hb dX2_digestCard_91 hl (by decide) rfl (fun ls hl => ?_)
            refine lv_lload hx hb dX2_digestCard_93 (lv_at hl 0 rfl) ?_
            refine lv_aload_n hx hb dX2_digestCard_95 rfl (lv_at hl 2 rfl) ?_
            refine lv_aload_n hx hb dX2_digestCard_96 rfl (lv_at hl 2 rfl) ?_
            refine g_get (q := 0) (k := 6) X hK B rfl in_X2 (pl_c hN 0 (by decide)) cf_0 (by decide) lk_X2_25 rfl rfl dX2_digestCard_97 ?_
            refine lv_aload_n hx hb dX2_digestCard_100 rfl (lv_at hl 4 rfl) ?_
            refine k_i (k := 0) (n := 0) hA B (u_VN (rest := [.ref (ad 0), .long t12]) X (c_X1_putTidy l g N ad x sp9 dy9 la kn re hN 12 (by decide) i2 hi2 H.size) mw_X1_putTidy md_X1_putTidy rfl lk_X2_88 ⟨Nat.le_of_ble_eq_true rfl, Nat.le_of_ble_eq_true rfl⟩ hA hK hT B (pl_sp hN (by decide)) (cf_sp (by decide)) rfl rfl hl.1 rfl (Nat.le_of_ble_eq_true rfl) dX2_digestCard_101 ⟨Nat.le_of_ble_eq_true rfl, Nat.le_of_ble_eq_true rfl⟩) (Nat.le_of_ble_eq_true rfl) (Nat.le_of_ble_eq_true rfl) (fun r ad' f' H locs hw B => ?_)
            obtain ⟨rfl, rfl, rfl⟩ := hw
            have k13 : ∀ j, j < 12 → (v_X1_putTidy sp9 12 i2).2 j = sp j := fun j hj => (kp_X1_putTidy_sp (by omega)).trans (hksp1 j hj)
            generalize (v_X1_putTidy sp9 12 i2) = t13 at k13 B ⊢
            refine k_i (k := 0) (n := 0) hA B (u_V (rest := [.long t12]) X (c_X2_resultSigns l g N ad x t13.2 dy9 la kn re hN t13.1 H.size) mw_X2_resultSigns md_X2_resultSigns rfl lk_X2_253 ⟨Nat.le_of_ble_eq_true rfl, Nat.le_of_ble_eq_true rfl⟩ hA hK hT B (pl_c hN 0 (by decide)) cf_0 rfl rfl hl.1 rfl (Nat.le_of_ble_eq_true rfl) dX2_digestCard_104 ⟨Nat.le_of_ble_eq_true rfl, Nat.le_of_ble_eq_true rfl⟩) (Nat.le_of_ble_eq_true rfl) (Nat.le_of_ble_eq_true rfl) (fun r ad' f' H locs hw B => ?_)
            obtain ⟨rfl, rfl, rfl⟩ := hw
            generalize (v_X2_resultSigns t13.2 t13.1) = t14
            refine lv_i2l (v := t14.toInt64) hx hb dX2_digestCard_107 rfl ?_
            refine k_l (k := 0) (n := 0) hA B (u_S (rest := []) X (c_X2_digestNext l g N ad x t13.2 dy9 la kn re hN t12 t14.toInt64 H.size) mw_X2_digestNext md_X2_digestNext rfl lk_X2_213 ⟨Nat.le_of_ble_eq_true rfl, Nat.le_of_ble_eq_true rfl⟩ hA hK hT B hl.1 rfl (Nat.le_of_ble_eq_true rfl) dX2_digestCard_108 ⟨Nat.le_of_ble_eq_true rfl, Nat.le_of_ble_eq_true rfl⟩) (Nat.le_of_ble_eq_true rfl) (Nat.le_of_ble_eq_true rfl) (fun r ad' f' H locs hw B => ?_)
            obtain ⟨rfl, rfl, rfl⟩ := hw
            generalize (v_X2_digestNext t12 t14.toInt64) = t15
            refine lv_lstore (lv' := [(4, .long t15), (6, .int ua), (0, .ref (ad 0)), (1, .long b1), (3, .ref (ad (4 + i2)))]) hx hb dX2_digestCard_111 hl (by decide) rfl (fun ls hl => ?_)
            refine lv_lload hx hb dX2_digestCard_113 (lv_at hl 0 rfl) ?_
            refine lv_aload_n hx hb dX2_digestCard_115 rfl (lv_at hl 2 rfl) ?_
            refine lv_aload_n hx hb dX2_digestCard_116 rfl (lv_at hl 2 rfl) ?_
            refine g_get (q := 0) (k := 6) X hK B rfl in_X2 (pl_c hN 0 (by decide)) cf_0 (by decide) lk_X2_25 rfl rfl dX2_digestCard_117 ?_
            refine lv_aload_n hx hb dX2_digestCard_120 rfl (lv_at hl 4 rfl) ?_
            refine k_i (k := 0) (n := 0) hA B (u_VN (rest := [.ref (ad 0), .long t15]) X (c_X1_putOpposite l g N ad x t13.2 dy9 la kn re hN 12 (by decide) i2 hi2 H.size) mw_X1_putOpposite md_X1_putOpposite rfl lk_X2_84 ⟨Nat.le_of_ble_eq_true rfl, Nat.le_of_ble_eq_true rfl⟩ hA hK hT B (pl_sp hN (by decide)) (cf_sp (by decide)) rfl rfl hl.1 rfl (Nat.le_of_ble_eq_true rfl) dX2_digestCard_121 ⟨Nat.le_of_ble_eq_true rfl, Nat.le_of_ble_eq_true rfl⟩) (Nat.le_of_ble_eq_true rfl) (Nat.le_of_ble_eq_true rfl) (fun r ad' f' H locs hw B => ?_)
            obtain ⟨rfl, rfl, rfl⟩ := hw
            have k16 : ∀ j, j < 12 → (v_X1_putOpposite t13.2 12 i2).2 j = sp j := fun j hj => (kp_X1_putOpposite_sp (by omega)).trans (k13 j hj)
            generalize (v_X1_putOpposite t13.2 12 i2) = t16 at k16 B ⊢
            refine k_i (k := 0) (n := 0) hA B (u_V (rest := [.long t15]) X (c_X2_resultSigns l g N ad x t16.2 dy9 la kn re hN t16.1 H.size) mw_X2_resultSigns md_X2_resultSigns rfl lk_X2_253 ⟨Nat.le_of_ble_eq_true rfl, Nat.le_of_ble_eq_true rfl⟩ hA hK hT B (pl_c hN 0 (by decide)) cf_0 rfl rfl hl.1 rfl (Nat.le_of_ble_eq_true rfl) dX2_digestCard_124 ⟨Nat.le_of_ble_eq_true rfl, Nat.le_of_ble_eq_true rfl⟩) (Nat.le_of_ble_eq_true rfl) (Nat.le_of_ble_eq_true rfl) (fun r ad' f' H locs hw B => ?_)
            obtain ⟨rfl, rfl, rfl⟩ := hw
            generalize (v_X2_resultSigns t16.2 t16.1) = t17
            refine lv_i2l (v := t17.toInt64) hx hb dX2_digestCard_127 rfl ?_
            refine k_l (k := 0) (n := 0) hA B (u_S (rest := []) X (c_X2_digestNext l g N ad x t16.2 dy9 la kn re hN t15 t17.toInt64 H.size) mw_X2_digestNext md_X2_digestNext rfl lk_X2_213 ⟨Nat.le_of_ble_eq_true rfl, Nat.le_of_ble_eq_true rfl⟩ hA hK hT B hl.1 rfl (Nat.le_of_ble_eq_true rfl) dX2_digestCard_128 ⟨Nat.le_of_ble_eq_true rfl, Nat.le_of_ble_eq_true rfl⟩) (Nat.le_of_ble_eq_true rfl) (Nat.le_of_ble_eq_true rfl) (fun r ad' f' H locs hw B => ?_)
            obtain ⟨rfl, rfl, rfl⟩ := hw
            generalize (v_X2_digestNext t15 t17.toInt64) = t18
            exact rt_l X hr (ad, (cf g ad x t16.2 dy9 la kn re)) B (PO_of B) ⟨rfl, _, _, k16, hkdy1, rfl⟩ (Nat.le_of_ble_eq_true rfl) (Nat.le_of_ble_eq_true rfl) dX2_digestCard_131
          · refine lv_lconst (v := 1) hx hb dX2_digestCard_71 (by decide) ?_
            refine lv_goto (tgt := 76) hx hb dX2_digestCard_72 (by decide) ?_
            refine k_l (k := 0) (n := 0) hA B (u_S (rest := []) X (c_X2_digestNext l g N ad x sp9 dy9 la kn re hN t7 1 H.size) mw_X2_digestNext md_X2_digestNext rfl lk_X2_213 ⟨Nat.le_of_ble_eq_true rfl, Nat.le_of_ble_eq_true rfl⟩ hA hK hT B hl.1 rfl (Nat.le_of_ble_eq_true rfl) dX2_digestCard_76 ⟨Nat.le_of_ble_eq_true rfl, Nat.le_of_ble_eq_true rfl⟩) (Nat.le_of_ble_eq_true rfl) (Nat.le_of_ble_eq_true rfl) (fun r ad' f' H locs hw B => ?_)
            obtain ⟨rfl, rfl, rfl⟩ := hw
            generalize (v_X2_digestNext t7 1) = t19
            refine lv_lstore (lv' := [(4, .long t19), (6, .int ua), (0, .ref (ad 0)), (1, .long b1), (3, .ref (ad (4 + i2)))]) hx hb dX2_digestCard_79 hl (by decide) rfl (fun ls hl => ?_)
            refine lv_lload hx hb dX2_digestCard_81 (lv_at hl 0 rfl) ?_
            refine lv_aload_n hx hb dX2_digestCard_83 rfl (lv_at hl 4 rfl) ?_
            refine k_i (k := 0) (n := 0) hA B (u_VN (rest := [.long t19]) X (c_X1_signs l g N ad x sp9 dy9 la kn re hN i2 hi2 H.size) mw_X1_signs md_X1_signs rfl lk_X2_210 ⟨Nat.le_of_ble_eq_true rfl, Nat.le_of_ble_eq_true rfl⟩ hA hK hT B (pl_sp hN hi2) (cf_sp hi2) rfl rfl hl.1 rfl (Nat.le_of_ble_eq_true rfl) dX2_digestCard_84 ⟨Nat.le_of_ble_eq_true rfl, Nat.le_of_ble_eq_true rfl⟩) (Nat.le_of_ble_eq_true rfl) (Nat.le_of_ble_eq_true rfl) (fun r ad' f' H locs hw B => ?_)
            obtain ⟨rfl, rfl, rfl⟩ := hw
            generalize (v_X1_signs sp9 i2) = t20
            refine lv_i2l (v := t20.toInt64) hx hb dX2_digestCard_87 rfl ?_
            refine k_l (k := 0) (n := 0) hA B (u_S (rest := []) X (c_X2_digestNext l g N ad x sp9 dy9 la kn re hN t19 t20.toInt64 H.size) mw_X2_digestNext md_X2_digestNext rfl lk_X2_213 ⟨Nat.le_of_ble_eq_true rfl, Nat.le_of_ble_eq_true rfl⟩ hA hK hT B hl.1 rfl (Nat.le_of_ble_eq_true rfl) dX2_digestCard_88 ⟨Nat.le_of_ble_eq_true rfl, Nat.le_of_ble_eq_true rfl⟩) (Nat.le_of_ble_eq_true rfl) (Nat.le_of_ble_eq_true rfl) (fun r ad' f' H locs hw B => ?_)
            obtain ⟨rfl, rfl, rfl⟩ := hw
            generalize (v_X2_digestNext t19 t20.toInt64) = t21
            refine lv_lstore (lv' := [(4, .long t21), (6, .int ua), (0, .ref (ad 0)), (1, .long b1), (3, .ref (ad (4 + i2)))]) hx hb dX2_digestCard_91 hl (by decide) rfl (fun ls hl => ?_)
            refine lv_lload hx hb dX2_digestCard_93 (lv_at hl 0 rfl) ?_
            refine lv_aload_n hx hb dX2_digestCard_95 rfl (lv_at hl 2 rfl) ?_
            refine lv_aload_n hx hb dX2_digestCard_96 rfl (lv_at hl 2 rfl) ?_
            refine g_get (q := 0) (k := 6) X hK B rfl in_X2 (pl_c hN 0 (by decide)) cf_0 (by decide) lk_X2_25 rfl rfl dX2_digestCard_97 ?_
            refine lv_aload_n hx hb dX2_digestCard_100 rfl (lv_at hl 4 rfl) ?_
            refine k_i (k := 0) (n := 0) hA B (u_VN (rest := [.ref (ad 0), .long t21]) X (c_X1_putTidy l g N ad x sp9 dy9 la kn re hN 12 (by decide) i2 hi2 H.size) mw_X1_putTidy md_X1_putTidy rfl lk_X2_88 ⟨Nat.le_of_ble_eq_true rfl, Nat.le_of_ble_eq_true rfl⟩ hA hK hT B (pl_sp hN (by decide)) (cf_sp (by decide)) rfl rfl hl.1 rfl (Nat.le_of_ble_eq_true rfl) dX2_digestCard_101 ⟨Nat.le_of_ble_eq_true rfl, Nat.le_of_ble_eq_true rfl⟩) (Nat.le_of_ble_eq_true rfl) (Nat.le_of_ble_eq_true rfl) (fun r ad' f' H locs hw B => ?_)
            obtain ⟨rfl, rfl, rfl⟩ := hw
            have k22 : ∀ j, j < 12 → (v_X1_putTidy sp9 12 i2).2 j = sp j := fun j hj => (kp_X1_putTidy_sp (by omega)).trans (hksp1 j hj)
            generalize (v_X1_putTidy sp9 12 i2) = t22 at k22 B ⊢
            refine k_i (k := 0) (n := 0) hA B (u_V (rest := [.long t21]) X (c_X2_resultSigns l g N ad x t22.2 dy9 la kn re hN t22.1 H.size) mw_X2_resultSigns md_X2_resultSigns rfl lk_X2_253 ⟨Nat.le_of_ble_eq_true rfl, Nat.le_of_ble_eq_true rfl⟩ hA hK hT B (pl_c hN 0 (by decide)) cf_0 rfl rfl hl.1 rfl (Nat.le_of_ble_eq_true rfl) dX2_digestCard_104 ⟨Nat.le_of_ble_eq_true rfl, Nat.le_of_ble_eq_true rfl⟩) (Nat.le_of_ble_eq_true rfl) (Nat.le_of_ble_eq_true rfl) (fun r ad' f' H locs hw B => ?_)
            obtain ⟨rfl, rfl, rfl⟩ := hw
            generalize (v_X2_resultSigns t22.2 t22.1) = t23
            refine lv_i2l (v := t23.toInt64) hx hb dX2_digestCard_107 rfl ?_
            refine k_l (k := 0) (n := 0) hA B (u_S (rest := []) X (c_X2_digestNext l g N ad x t22.2 dy9 la kn re hN t21 t23.toInt64 H.size) mw_X2_digestNext md_X2_digestNext rfl lk_X2_213 ⟨Nat.le_of_ble_eq_true rfl, Nat.le_of_ble_eq_true rfl⟩ hA hK hT B hl.1 rfl (Nat.le_of_ble_eq_true rfl) dX2_digestCard_108 ⟨Nat.le_of_ble_eq_true rfl, Nat.le_of_ble_eq_true rfl⟩) (Nat.le_of_ble_eq_true rfl) (Nat.le_of_ble_eq_true rfl) (fun r ad' f' H locs hw B => ?_)
            obtain ⟨rfl, rfl, rfl⟩ := hw
            generalize (v_X2_digestNext t21 t23.toInt64) = t24
            refine lv_lstore (lv' := [(4, .long t24), (6, .int ua), (0, .ref (ad 0)), (1, .long b1), (3, .ref (ad (4 + i2)))]) hx hb dX2_digestCard_111 hl (by decide) rfl (fun ls hl => ?_)
            refine lv_lload hx hb dX2_digestCard_113 (lv_at hl 0 rfl) ?_
            refine lv_aload_n hx hb dX2_digestCard_115 rfl (lv_at hl 2 rfl) ?_
            refine lv_aload_n hx hb dX2_digestCard_116 rfl (lv_at hl 2 rfl) ?_
            refine g_get (q := 0) (k := 6) X hK B rfl in_X2 (pl_c hN 0 (by decide)) cf_0 (by decide) lk_X2_25 rfl rfl dX2_digestCard_117 ?_
            refine lv_aload_n hx hb dX2_digestCard_120 rfl (lv_at hl 4 rfl) ?_
            refine k_i (k := 0) (n := 0) hA B (u_VN (rest := [.ref (ad 0), .long t24]) X (c_X1_putOpposite l g N ad x t22.2 dy9 la kn re hN 12 (by decide) i2 hi2 H.size) mw_X1_putOpposite md_X1_putOpposite rfl lk_X2_84 ⟨Nat.le_of_ble_eq_true rfl, Nat.le_of_ble_eq_true rfl⟩ hA hK hT B (pl_sp hN (by decide)) (cf_sp (by decide)) rfl rfl hl.1 rfl (Nat.le_of_ble_eq_true rfl) dX2_digestCard_121 ⟨Nat.le_of_ble_eq_true rfl, Nat.le_of_ble_eq_true rfl⟩) (Nat.le_of_ble_eq_true rfl) (Nat.le_of_ble_eq_true rfl) (fun r ad' f' H locs hw B => ?_)
            obtain ⟨rfl, rfl, rfl⟩ := hw
            have k25 : ∀ j, j < 12 → (v_X1_putOpposite t22.2 12 i2).2 j = sp j := fun j hj => (kp_X1_putOpposite_sp (by omega)).trans (k22 j hj)
            generalize (v_X1_putOpposite t22.2 12 i2) = t25 at k25 B ⊢
            refine k_i (k := 0) (n := 0) hA B (u_V (rest := [.long t24]) X (c_X2_resultSigns l g N ad x t25.2 dy9 la kn re hN t25.1 H.size) mw_X2_resultSigns md_X2_resultSigns rfl lk_X2_253 ⟨Nat.le_of_ble_eq_true rfl, Nat.le_of_ble_eq_true rfl⟩ hA hK hT B (pl_c hN 0 (by decide)) cf_0 rfl rfl hl.1 rfl (Nat.le_of_ble_eq_true rfl) dX2_digestCard_124 ⟨Nat.le_of_ble_eq_true rfl, Nat.le_of_ble_eq_true rfl⟩) (Nat.le_of_ble_eq_true rfl) (Nat.le_of_ble_eq_true rfl) (fun r ad' f' H locs hw B => ?_)
            obtain ⟨rfl, rfl, rfl⟩ := hw
            generalize (v_X2_resultSigns t25.2 t25.1) = t26
            refine lv_i2l (v := t26.toInt64) hx hb dX2_digestCard_127 rfl ?_
            refine k_l (k := 0) (n := 0) hA B (u_S (rest := []) X (c_X2_digestNext l g N ad x t25.2 dy9 la kn re hN t24 t26.toInt64 H.size) mw_X2_digestNext md_X2_digestNext rfl lk_X2_213 ⟨Nat.le_of_ble_eq_true rfl, Nat.le_of_ble_eq_true rfl⟩ hA hK hT B hl.1 rfl (Nat.le_of_ble_eq_true rfl) dX2_digestCard_128 ⟨Nat.le_of_ble_eq_true rfl, Nat.le_of_ble_eq_true rfl⟩) (Nat.le_of_ble_eq_true rfl) (Nat.le_of_ble_eq_true rfl) (fun r ad' f' H locs hw B => ?_)
            obtain ⟨rfl, rfl, rfl⟩ := hw
            generalize (v_X2_digestNext t24 t26.toInt64) = t27
            exact rt_l X hr (ad, (cf g ad x t25.2 dy9 la kn re)) B (PO_of B) ⟨rfl, _, _, k25, hkdy1, rfl⟩ (Nat.le_of_ble_eq_true rfl) (Nat.le_of_ble_eq_true rfl) dX2_digestCard_131
        · refine lv_lconst (v := 1) hx hb dX2_digestCard_52 (by decide) ?_
          refine lv_goto (tgt := 57) hx hb dX2_digestCard_53 (by decide) ?_
          refine k_l (k := 0) (n := 0) hA B (u_S (rest := []) X (c_X2_digestNext l g N ad x sp9 dy9 la kn re hN t4 1 H.size) mw_X2_digestNext md_X2_digestNext rfl lk_X2_213 ⟨Nat.le_of_ble_eq_true rfl, Nat.le_of_ble_eq_true rfl⟩ hA hK hT B hl.1 rfl (Nat.le_of_ble_eq_true rfl) dX2_digestCard_57 ⟨Nat.le_of_ble_eq_true rfl, Nat.le_of_ble_eq_true rfl⟩) (Nat.le_of_ble_eq_true rfl) (Nat.le_of_ble_eq_true rfl) (fun r ad' f' H locs hw B => ?_)
          obtain ⟨rfl, rfl, rfl⟩ := hw
          generalize (v_X2_digestNext t4 1) = t28
          refine lv_lstore (lv' := [(4, .long t28), (6, .int ua), (0, .ref (ad 0)), (1, .long b1), (3, .ref (ad (4 + i2)))]) hx hb dX2_digestCard_60 hl (by decide) rfl (fun ls hl => ?_)
          refine lv_lload hx hb dX2_digestCard_62 (lv_at hl 0 rfl) ?_
          refine lv_aload_n hx hb dX2_digestCard_64 rfl (lv_at hl 4 rfl) ?_
          refine k_i (k := 0) (n := 0) hA B (u_VN (rest := [.long t28]) X (c_X1_isBelowZero l g N ad x sp9 dy9 la kn re hN i2 hi2 H.size) mw_X1_isBelowZero md_X1_isBelowZero rfl lk_X2_120 ⟨Nat.le_of_ble_eq_true rfl, Nat.le_of_ble_eq_true rfl⟩ hA hK hT B (pl_sp hN hi2) (cf_sp hi2) rfl rfl hl.1 rfl (Nat.le_of_ble_eq_true rfl) dX2_digestCard_65 ⟨Nat.le_of_ble_eq_true rfl, Nat.le_of_ble_eq_true rfl⟩) (Nat.le_of_ble_eq_true rfl) (Nat.le_of_ble_eq_true rfl) (fun r ad' f' H locs hw B => ?_)
          obtain ⟨rfl, rfl, rfl⟩ := hw
          generalize (v_X1_isBelowZero sp9 i2) = t29
          refine lv_if_eq (tgt := 75) hx hb dX2_digestCard_68 (by decide) (fun c30 => ?_) (fun c30 => ?_)
          · refine lv_lconst (v := 0) hx hb dX2_digestCard_75 (by decide) ?_
            refine k_l (k := 0) (n := 0) hA B (u_S (rest := []) X (c_X2_digestNext l g N ad x sp9 dy9 la kn re hN t28 0 H.size) mw_X2_digestNext md_X2_digestNext rfl lk_X2_213 ⟨Nat.le_of_ble_eq_true rfl, Nat.le_of_ble_eq_true rfl⟩ hA hK hT B hl.1 rfl (Nat.le_of_ble_eq_true rfl) dX2_digestCard_76 ⟨Nat.le_of_ble_eq_true rfl, Nat.le_of_ble_eq_true rfl⟩) (Nat.le_of_ble_eq_true rfl) (Nat.le_of_ble_eq_true rfl) (fun r ad' f' H locs hw B => ?_)
            obtain ⟨rfl, rfl, rfl⟩ := hw
            generalize (v_X2_digestNext t28 0) = t31
            refine lv_lstore (lv' := [(4, .long t31), (6, .int ua), (0, .ref (ad 0)), (1, .long b1), (3, .ref (ad (4 + i2)))]) hx hb dX2_digestCard_79 hl (by decide) rfl (fun ls hl => ?_)
            refine lv_lload hx hb dX2_digestCard_81 (lv_at hl 0 rfl) ?_
            refine lv_aload_n hx hb dX2_digestCard_83 rfl (lv_at hl 4 rfl) ?_
            refine k_i (k := 0) (n := 0) hA B (u_VN (rest := [.long t31]) X (c_X1_signs l g N ad x sp9 dy9 la kn re hN i2 hi2 H.size) mw_X1_signs md_X1_signs rfl lk_X2_210 ⟨Nat.le_of_ble_eq_true rfl, Nat.le_of_ble_eq_true rfl⟩ hA hK hT B (pl_sp hN hi2) (cf_sp hi2) rfl rfl hl.1 rfl (Nat.le_of_ble_eq_true rfl) dX2_digestCard_84 ⟨Nat.le_of_ble_eq_true rfl, Nat.le_of_ble_eq_true rfl⟩) (Nat.le_of_ble_eq_true rfl) (Nat.le_of_ble_eq_true rfl) (fun r ad' f' H locs hw B => ?_)
            obtain ⟨rfl, rfl, rfl⟩ := hw
            generalize (v_X1_signs sp9 i2) = t32
            refine lv_i2l (v := t32.toInt64) hx hb dX2_digestCard_87 rfl ?_
            refine k_l (k := 0) (n := 0) hA B (u_S (rest := []) X (c_X2_digestNext l g N ad x sp9 dy9 la kn re hN t31 t32.toInt64 H.size) mw_X2_digestNext md_X2_digestNext rfl lk_X2_213 ⟨Nat.le_of_ble_eq_true rfl, Nat.le_of_ble_eq_true rfl⟩ hA hK hT B hl.1 rfl (Nat.le_of_ble_eq_true rfl) dX2_digestCard_88 ⟨Nat.le_of_ble_eq_true rfl, Nat.le_of_ble_eq_true rfl⟩) (Nat.le_of_ble_eq_true rfl) (Nat.le_of_ble_eq_true rfl) (fun r ad' f' H locs hw B => ?_)
            obtain ⟨rfl, rfl, rfl⟩ := hw
            generalize (v_X2_digestNext t31 t32.toInt64) = t33
            refine lv_lstore (lv' := [(4, .long t33), (6, .int ua), (0, .ref (ad 0)), (1, .long b1), (3, .ref (ad (4 + i2)))]) hx hb dX2_digestCard_91 hl (by decide) rfl (fun ls hl => ?_)
            refine lv_lload hx hb dX2_digestCard_93 (lv_at hl 0 rfl) ?_
            refine lv_aload_n hx hb dX2_digestCard_95 rfl (lv_at hl 2 rfl) ?_
            refine lv_aload_n hx hb dX2_digestCard_96 rfl (lv_at hl 2 rfl) ?_
            refine g_get (q := 0) (k := 6) X hK B rfl in_X2 (pl_c hN 0 (by decide)) cf_0 (by decide) lk_X2_25 rfl rfl dX2_digestCard_97 ?_
            refine lv_aload_n hx hb dX2_digestCard_100 rfl (lv_at hl 4 rfl) ?_
            refine k_i (k := 0) (n := 0) hA B (u_VN (rest := [.ref (ad 0), .long t33]) X (c_X1_putTidy l g N ad x sp9 dy9 la kn re hN 12 (by decide) i2 hi2 H.size) mw_X1_putTidy md_X1_putTidy rfl lk_X2_88 ⟨Nat.le_of_ble_eq_true rfl, Nat.le_of_ble_eq_true rfl⟩ hA hK hT B (pl_sp hN (by decide)) (cf_sp (by decide)) rfl rfl hl.1 rfl (Nat.le_of_ble_eq_true rfl) dX2_digestCard_101 ⟨Nat.le_of_ble_eq_true rfl, Nat.le_of_ble_eq_true rfl⟩) (Nat.le_of_ble_eq_true rfl) (Nat.le_of_ble_eq_true rfl) (fun r ad' f' H locs hw B => ?_)
            obtain ⟨rfl, rfl, rfl⟩ := hw
            have k34 : ∀ j, j < 12 → (v_X1_putTidy sp9 12 i2).2 j = sp j := fun j hj => (kp_X1_putTidy_sp (by omega)).trans (hksp1 j hj)
            generalize (v_X1_putTidy sp9 12 i2) = t34 at k34 B ⊢
            refine k_i (k := 0) (n := 0) hA B (u_V (rest := [.long t33]) X (c_X2_resultSigns l g N ad x t34.2 dy9 la kn re hN t34.1 H.size) mw_X2_resultSigns md_X2_resultSigns rfl lk_X2_253 ⟨Nat.le_of_ble_eq_true rfl, Nat.le_of_ble_eq_true rfl⟩ hA hK hT B (pl_c hN 0 (by decide)) cf_0 rfl rfl hl.1 rfl (Nat.le_of_ble_eq_true rfl) dX2_digestCard_104 ⟨Nat.le_of_ble_eq_true rfl, Nat.le_of_ble_eq_true rfl⟩) (Nat.le_of_ble_eq_true rfl) (Nat.le_of_ble_eq_true rfl) (fun r ad' f' H locs hw B => ?_)
            obtain ⟨rfl, rfl, rfl⟩ := hw
            generalize (v_X2_resultSigns t34.2 t34.1) = t35
            refine lv_i2l (v := t35.toInt64) hx hb dX2_digestCard_107 rfl ?_
            refine k_l (k := 0) (n := 0) hA B (u_S (rest := []) X (c_X2_digestNext l g N ad x t34.2 dy9 la kn re hN t33 t35.toInt64 H.size) mw_X2_digestNext md_X2_digestNext rfl lk_X2_213 ⟨Nat.le_of_ble_eq_true rfl, Nat.le_of_ble_eq_true rfl⟩ hA hK hT B hl.1 rfl (Nat.le_of_ble_eq_true rfl) dX2_digestCard_108 ⟨Nat.le_of_ble_eq_true rfl, Nat.le_of_ble_eq_true rfl⟩) (Nat.le_of_ble_eq_true rfl) (Nat.le_of_ble_eq_true rfl) (fun r ad' f' H locs hw B => ?_)
            obtain ⟨rfl, rfl, rfl⟩ := hw
            generalize (v_X2_digestNext t33 t35.toInt64) = t36
            refine lv_lstore (lv' := [(4, .long t36), (6, .int ua), (0, .ref (ad 0)), (1, .long b1), (3, .ref (ad (4 + i2)))]) hx hb dX2_digestCard_111 hl (by decide) rfl (fun ls hl => ?_)
            refine lv_lload hx hb dX2_digestCard_113 (lv_at hl 0 rfl) ?_
            refine lv_aload_n hx hb dX2_digestCard_115 rfl (lv_at hl 2 rfl) ?_
            refine lv_aload_n hx hb dX2_digestCard_116 rfl (lv_at hl 2 rfl) ?_
            refine g_get (q := 0) (k := 6) X hK B rfl in_X2 (pl_c hN 0 (by decide)) cf_0 (by decide) lk_X2_25 rfl rfl dX2_digestCard_117 ?_
            refine lv_aload_n hx hb dX2_digestCard_120 rfl (lv_at hl 4 rfl) ?_
            refine k_i (k := 0) (n := 0) hA B (u_VN (rest := [.ref (ad 0), .long t36]) X (c_X1_putOpposite l g N ad x t34.2 dy9 la kn re hN 12 (by decide) i2 hi2 H.size) mw_X1_putOpposite md_X1_putOpposite rfl lk_X2_84 ⟨Nat.le_of_ble_eq_true rfl, Nat.le_of_ble_eq_true rfl⟩ hA hK hT B (pl_sp hN (by decide)) (cf_sp (by decide)) rfl rfl hl.1 rfl (Nat.le_of_ble_eq_true rfl) dX2_digestCard_121 ⟨Nat.le_of_ble_eq_true rfl, Nat.le_of_ble_eq_true rfl⟩) (Nat.le_of_ble_eq_true rfl) (Nat.le_of_ble_eq_true rfl) (fun r ad' f' H locs hw B => ?_)
            obtain ⟨rfl, rfl, rfl⟩ := hw
            have k37 : ∀ j, j < 12 → (v_X1_putOpposite t34.2 12 i2).2 j = sp j := fun j hj => (kp_X1_putOpposite_sp (by omega)).trans (k34 j hj)
            generalize (v_X1_putOpposite t34.2 12 i2) = t37 at k37 B ⊢
            refine k_i (k := 0) (n := 0) hA B (u_V (rest := [.long t36]) X (c_X2_resultSigns l g N ad x t37.2 dy9 la kn re hN t37.1 H.size) mw_X2_resultSigns md_X2_resultSigns rfl lk_X2_253 ⟨Nat.le_of_ble_eq_true rfl, Nat.le_of_ble_eq_true rfl⟩ hA hK hT B (pl_c hN 0 (by decide)) cf_0 rfl rfl hl.1 rfl (Nat.le_of_ble_eq_true rfl) dX2_digestCard_124 ⟨Nat.le_of_ble_eq_true rfl, Nat.le_of_ble_eq_true rfl⟩) (Nat.le_of_ble_eq_true rfl) (Nat.le_of_ble_eq_true rfl) (fun r ad' f' H locs hw B => ?_)
            obtain ⟨rfl, rfl, rfl⟩ := hw
            generalize (v_X2_resultSigns t37.2 t37.1) = t38
            refine lv_i2l (v := t38.toInt64) hx hb dX2_digestCard_127 rfl ?_
            refine k_l (k := 0) (n := 0) hA B (u_S (rest := []) X (c_X2_digestNext l g N ad x t37.2 dy9 la kn re hN t36 t38.toInt64 H.size) mw_X2_digestNext md_X2_digestNext rfl lk_X2_213 ⟨Nat.le_of_ble_eq_true rfl, Nat.le_of_ble_eq_true rfl⟩ hA hK hT B hl.1 rfl (Nat.le_of_ble_eq_true rfl) dX2_digestCard_128 ⟨Nat.le_of_ble_eq_true rfl, Nat.le_of_ble_eq_true rfl⟩) (Nat.le_of_ble_eq_true rfl) (Nat.le_of_ble_eq_true rfl) (fun r ad' f' H locs hw B => ?_)
            obtain ⟨rfl, rfl, rfl⟩ := hw
            generalize (v_X2_digestNext t36 t38.toInt64) = t39
            exact rt_l X hr (ad, (cf g ad x t37.2 dy9 la kn re)) B (PO_of B) ⟨rfl, _, _, k37, hkdy1, rfl⟩ (Nat.le_of_ble_eq_true rfl) (Nat.le_of_ble_eq_true rfl) dX2_digestCard_131
          · refine lv_lconst (v := 1) hx hb dX2_digestCard_71 (by decide) ?_
            refine lv_goto (tgt := 76) hx hb dX2_digestCard_72 (by decide) ?_
            refine k_l (k := 0) (n := 0) hA B (u_S (rest := []) X (c_X2_digestNext l g N ad x sp9 dy9 la kn re hN t28 1 H.size) mw_X2_digestNext md_X2_digestNext rfl lk_X2_213 ⟨Nat.le_of_ble_eq_true rfl, Nat.le_of_ble_eq_true rfl⟩ hA hK hT B hl.1 rfl (Nat.le_of_ble_eq_true rfl) dX2_digestCard_76 ⟨Nat.le_of_ble_eq_true rfl, Nat.le_of_ble_eq_true rfl⟩) (Nat.le_of_ble_eq_true rfl) (Nat.le_of_ble_eq_true rfl) (fun r ad' f' H locs hw B => ?_)
            obtain ⟨rfl, rfl, rfl⟩ := hw
            generalize (v_X2_digestNext t28 1) = t40
            refine lv_lstore (lv' := [(4, .long t40), (6, .int ua), (0, .ref (ad 0)), (1, .long b1), (3, .ref (ad (4 + i2)))]) hx hb dX2_digestCard_79 hl (by decide) rfl (fun ls hl => ?_)
            refine lv_lload hx hb dX2_digestCard_81 (lv_at hl 0 rfl) ?_
            refine lv_aload_n hx hb dX2_digestCard_83 rfl (lv_at hl 4 rfl) ?_
            refine k_i (k := 0) (n := 0) hA B (u_VN (rest := [.long t40]) X (c_X1_signs l g N ad x sp9 dy9 la kn re hN i2 hi2 H.size) mw_X1_signs md_X1_signs rfl lk_X2_210 ⟨Nat.le_of_ble_eq_true rfl, Nat.le_of_ble_eq_true rfl⟩ hA hK hT B (pl_sp hN hi2) (cf_sp hi2) rfl rfl hl.1 rfl (Nat.le_of_ble_eq_true rfl) dX2_digestCard_84 ⟨Nat.le_of_ble_eq_true rfl, Nat.le_of_ble_eq_true rfl⟩) (Nat.le_of_ble_eq_true rfl) (Nat.le_of_ble_eq_true rfl) (fun r ad' f' H locs hw B => ?_)
            obtain ⟨rfl, rfl, rfl⟩ := hw
            generalize (v_X1_signs sp9 i2) = t41
            refine lv_i2l (v := t41.toInt64) hx hb dX2_digestCard_87 rfl ?_
            refine k_l (k := 0) (n := 0) hA B (u_S (rest := []) X (c_X2_digestNext l g N ad x sp9 dy9 la kn re hN t40 t41.toInt64 H.size) mw_X2_digestNext md_X2_digestNext rfl lk_X2_213 ⟨Nat.le_of_ble_eq_true rfl, Nat.le_of_ble_eq_true rfl⟩ hA hK hT B hl.1 rfl (Nat.le_of_ble_eq_true rfl) dX2_digestCard_88 ⟨Nat.le_of_ble_eq_true rfl, Nat.le_of_ble_eq_true rfl⟩) (Nat.le_of_ble_eq_true rfl) (Nat.le_of_ble_eq_true rfl) (fun r ad' f' H locs hw B => ?_)
            obtain ⟨rfl, rfl, rfl⟩ := hw
            generalize (v_X2_digestNext t40 t41.toInt64) = t42
            refine lv_lstore (lv' := [(4, .long t42), (6, .int ua), (0, .ref (ad 0)), (1, .long b1), (3, .ref (ad (4 + i2)))]) hx hb dX2_digestCard_91 hl (by decide) rfl (fun ls hl => ?_)
            refine lv_lload hx hb dX2_digestCard_93 (lv_at hl 0 rfl) ?_
            refine lv_aload_n hx hb dX2_digestCard_95 rfl (lv_at hl 2 rfl) ?_
            refine lv_aload_n hx hb dX2_digestCard_96 rfl (lv_at hl 2 rfl) ?_
            refine g_get (q := 0) (k := 6) X hK B rfl in_X2 (pl_c hN 0 (by decide)) cf_0 (by decide) lk_X2_25 rfl rfl dX2_digestCard_97 ?_
            refine lv_aload_n hx hb dX2_digestCard_100 rfl (lv_at hl 4 rfl) ?_
            refine k_i (k := 0) (n := 0) hA B (u_VN (rest := [.ref (ad 0), .long t42]) X (c_X1_putTidy l g N ad x sp9 dy9 la kn re hN 12 (by decide) i2 hi2 H.size) mw_X1_putTidy md_X1_putTidy rfl lk_X2_88 ⟨Nat.le_of_ble_eq_true rfl, Nat.le_of_ble_eq_true rfl⟩ hA hK hT B (pl_sp hN (by decide)) (cf_sp (by decide)) rfl rfl hl.1 rfl (Nat.le_of_ble_eq_true rfl) dX2_digestCard_101 ⟨Nat.le_of_ble_eq_true rfl, Nat.le_of_ble_eq_true rfl⟩) (Nat.le_of_ble_eq_true rfl) (Nat.le_of_ble_eq_true rfl) (fun r ad' f' H locs hw B => ?_)
            obtain ⟨rfl, rfl, rfl⟩ := hw
            have k43 : ∀ j, j < 12 → (v_X1_putTidy sp9 12 i2).2 j = sp j := fun j hj => (kp_X1_putTidy_sp (by omega)).trans (hksp1 j hj)
            generalize (v_X1_putTidy sp9 12 i2) = t43 at k43 B ⊢
            refine k_i (k := 0) (n := 0) hA B (u_V (rest := [.long t42]) X (c_X2_resultSigns l g N ad x t43.2 dy9 la kn re hN t43.1 H.size) mw_X2_resultSigns md_X2_resultSigns rfl lk_X2_253 ⟨Nat.le_of_ble_eq_true rfl, Nat.le_of_ble_eq_true rfl⟩ hA hK hT B (pl_c hN 0 (by decide)) cf_0 rfl rfl hl.1 rfl (Nat.le_of_ble_eq_true rfl) dX2_digestCard_104 ⟨Nat.le_of_ble_eq_true rfl, Nat.le_of_ble_eq_true rfl⟩) (Nat.le_of_ble_eq_true rfl) (Nat.le_of_ble_eq_true rfl) (fun r ad' f' H locs hw B => ?_)
            obtain ⟨rfl, rfl, rfl⟩ := hw
            generalize (v_X2_resultSigns t43.2 t43.1) = t44
            refine lv_i2l (v := t44.toInt64) hx hb dX2_digestCard_107 rfl ?_
            refine k_l (k := 0) (n := 0) hA B (u_S (rest := []) X (c_X2_digestNext l g N ad x t43.2 dy9 la kn re hN t42 t44.toInt64 H.size) mw_X2_digestNext md_X2_digestNext rfl lk_X2_213 ⟨Nat.le_of_ble_eq_true rfl, Nat.le_of_ble_eq_true rfl⟩ hA hK hT B hl.1 rfl (Nat.le_of_ble_eq_true rfl) dX2_digestCard_108 ⟨Nat.le_of_ble_eq_true rfl, Nat.le_of_ble_eq_true rfl⟩) (Nat.le_of_ble_eq_true rfl) (Nat.le_of_ble_eq_true rfl) (fun r ad' f' H locs hw B => ?_)
            obtain ⟨rfl, rfl, rfl⟩ := hw
            generalize (v_X2_digestNext t42 t44.toInt64) = t45
            refine lv_lstore (lv' := [(4, .long t45), (6, .int ua), (0, .ref (ad 0)), (1, .long b1), (3, .ref (ad (4 + i2)))]) hx hb dX2_digestCard_111 hl (by decide) rfl (fun ls hl => ?_)
            refine lv_lload hx hb dX2_digestCard_113 (lv_at hl 0 rfl) ?_
            refine lv_aload_n hx hb dX2_digestCard_115 rfl (lv_at hl 2 rfl) ?_
            refine lv_aload_n hx hb dX2_digestCard_116 rfl (lv_at hl 2 rfl) ?_
            refine g_get (q := 0) (k := 6) X hK B rfl in_X2 (pl_c hN 0 (by decide)) cf_0 (by decide) lk_X2_25 rfl rfl dX2_digestCard_117 ?_
            refine lv_aload_n hx hb dX2_digestCard_120 rfl (lv_at hl 4 rfl) ?_
            refine k_i (k := 0) (n := 0) hA B (u_VN (rest := [.ref (ad 0), .long t45]) X (c_X1_putOpposite l g N ad x t43.2 dy9 la kn re hN 12 (by decide) i2 hi2 H.size) mw_X1_putOpposite md_X1_putOpposite rfl lk_X2_84 ⟨Nat.le_of_ble_eq_true rfl, Nat.le_of_ble_eq_true rfl⟩ hA hK hT B (pl_sp hN (by decide)) (cf_sp (by decide)) rfl rfl hl.1 rfl (Nat.le_of_ble_eq_true rfl) dX2_digestCard_121 ⟨Nat.le_of_ble_eq_true rfl, Nat.le_of_ble_eq_true rfl⟩) (Nat.le_of_ble_eq_true rfl) (Nat.le_of_ble_eq_true rfl) (fun r ad' f' H locs hw B => ?_)
            obtain ⟨rfl, rfl, rfl⟩ := hw
            have k46 : ∀ j, j < 12 → (v_X1_putOpposite t43.2 12 i2).2 j = sp j := fun j hj => (kp_X1_putOpposite_sp (by omega)).trans (k43 j hj)
            generalize (v_X1_putOpposite t43.2 12 i2) = t46 at k46 B ⊢
            refine k_i (k := 0) (n := 0) hA B (u_V (rest := [.long t45]) X (c_X2_resultSigns l g N ad x t46.2 dy9 la kn re hN t46.1 H.size) mw_X2_resultSigns md_X2_resultSigns rfl lk_X2_253 ⟨Nat.le_of_ble_eq_true rfl, Nat.le_of_ble_eq_true rfl⟩ hA hK hT B (pl_c hN 0 (by decide)) cf_0 rfl rfl hl.1 rfl (Nat.le_of_ble_eq_true rfl) dX2_digestCard_124 ⟨Nat.le_of_ble_eq_true rfl, Nat.le_of_ble_eq_true rfl⟩) (Nat.le_of_ble_eq_true rfl) (Nat.le_of_ble_eq_true rfl) (fun r ad' f' H locs hw B => ?_)
            obtain ⟨rfl, rfl, rfl⟩ := hw
            generalize (v_X2_resultSigns t46.2 t46.1) = t47
            refine lv_i2l (v := t47.toInt64) hx hb dX2_digestCard_127 rfl ?_
            refine k_l (k := 0) (n := 0) hA B (u_S (rest := []) X (c_X2_digestNext l g N ad x t46.2 dy9 la kn re hN t45 t47.toInt64 H.size) mw_X2_digestNext md_X2_digestNext rfl lk_X2_213 ⟨Nat.le_of_ble_eq_true rfl, Nat.le_of_ble_eq_true rfl⟩ hA hK hT B hl.1 rfl (Nat.le_of_ble_eq_true rfl) dX2_digestCard_128 ⟨Nat.le_of_ble_eq_true rfl, Nat.le_of_ble_eq_true rfl⟩) (Nat.le_of_ble_eq_true rfl) (Nat.le_of_ble_eq_true rfl) (fun r ad' f' H locs hw B => ?_)
            obtain ⟨rfl, rfl, rfl⟩ := hw
            generalize (v_X2_digestNext t45 t47.toInt64) = t48
            exact rt_l X hr (ad, (cf g ad x t46.2 dy9 la kn re)) B (PO_of B) ⟨rfl, _, _, k46, hkdy1, rfl⟩ (Nat.le_of_ble_eq_true rfl) (Nat.le_of_ble_eq_true rfl) dX2_digestCard_131
      · refine lv_lload hx hb dX2_digestCard_12 (lv_at hl 1 rfl) ?_
        refine lv_aload_n hx hb dX2_digestCard_14 rfl (lv_at hl 4 rfl) ?_
        refine lv_iload hx hb dX2_digestCard_15 (lv_at hl 0 rfl) ?_
        refine k_i (k := 0) (n := 0) hA B (u_VN (rest := [.long da]) X (c_X1_number l g N ad x sp9 dy9 la kn re hN i2 hi2 ua H.size) mw_X1_number md_X1_number rfl lk_X2_104 ⟨Nat.le_of_ble_eq_true rfl, Nat.le_of_ble_eq_true rfl⟩ hA hK hT B (pl_sp hN hi2) (cf_sp hi2) rfl rfl hl.1 rfl (Nat.le_of_ble_eq_true rfl) dX2_digestCard_17 ⟨Nat.le_of_ble_eq_true rfl, Nat.le_of_ble_eq_true rfl⟩) (Nat.le_of_ble_eq_true rfl) (Nat.le_of_ble_eq_true rfl) (fun r ad' f' H locs hw B => ?_)
        obtain ⟨rfl, rfl, rfl⟩ := hw
        generalize (v_X1_number sp9 i2 ua) = t49
        refine lv_i2l (v := t49.toInt64) hx hb dX2_digestCard_20 rfl ?_
        refine k_l (k := 0) (n := 0) hA B (u_S (rest := []) X (c_X2_digestNext l g N ad x sp9 dy9 la kn re hN da t49.toInt64 H.size) mw_X2_digestNext md_X2_digestNext rfl lk_X2_213 ⟨Nat.le_of_ble_eq_true rfl, Nat.le_of_ble_eq_true rfl⟩ hA hK hT B hl.1 rfl (Nat.le_of_ble_eq_true rfl) dX2_digestCard_21 ⟨Nat.le_of_ble_eq_true rfl, Nat.le_of_ble_eq_true rfl⟩) (Nat.le_of_ble_eq_true rfl) (Nat.le_of_ble_eq_true rfl) (fun r ad' f' H locs hw B => ?_)
        obtain ⟨rfl, rfl, rfl⟩ := hw
        generalize (v_X2_digestNext da t49.toInt64) = t50
        refine lv_lstore (lv' := [(4, .long t50), (6, .int ua), (0, .ref (ad 0)), (1, .long b1), (3, .ref (ad (4 + i2)))]) hx hb dX2_digestCard_24 hl (by decide) rfl (fun ls hl => ?_)
        refine lv_iinc (v := ua + 1) (lv' := [(6, .int (ua + 1)), (4, .long t50), (0, .ref (ad 0)), (1, .long b1), (3, .ref (ad (4 + i2)))]) hx hb dX2_digestCard_26 hl (k := 1) rfl rfl (by decide) rfl (fun ls hl => ?_)
        refine lv_goto (tgt := 6) hx hb dX2_digestCard_29 (by decide) ?_
        exact ih1 (ua + 1) t50 sp9 dy9 H locs (fu_le c2 hn1) (inc_nn hzua c2) (hksp1) (hkdy1) B ls (lv_sub hl [0, 1, 2, 3, 4] rfl)
  exact loop1 (((3 : Int32).toInt - (0 : Int32).toInt).toNat + 1) 0 b1 sp dy H locs (Nat.lt_succ_self _) (by decide) (fun _ _ => rfl) (fun _ _ => rfl) B ls hl
set_option maxHeartbeats 4000000 in
set_option maxRecDepth 100000 in
theorem c_X2_digestPairsOfCards (l : Launch) (g : GG) (N : Nat) (ad : Nat → Nat) (x : Nat → va_E) (sp dy : Nat → TR) (la kn re : Int32) (hN : 23 ≤ N) (b1 : Int64) : KL l yX2_digestPairsOfCards cX2_digestPairsOfCards 7 (rm 2 0 0) g [.ref (ad 0), .long b1] N ad (cf g ad x sp dy la kn re) N (fun r ad' f' => ad = ad' ∧ ∃ sp' dy' : Nat → TR, (∀ j, j < 12 → sp' j = sp j) ∧ (∀ j, j < 4 → dy' j = dy j) ∧ cf g ad x sp' dy' la kn re = f') := by
  intro sz
  refine mt_start (by decide) (Nat.le_of_ble_eq_true rfl) ?_
  intro p e s m args below meth c hsz X hr hnam hA hK hT H locs B ls hl
  obtain ⟨hx, hb, hml, hown, hts, hlocks⟩ := id X
  have hl : lv_has ls 7 [(0, .ref (ad 0)), (1, .long b1)] := hl
  refine lv_lload_n hx hb dX2_digestPairsOfCards_0 rfl (lv_at hl 1 rfl) ?_
  refine lv_lstore_n (lv' := [(3, .long b1), (0, .ref (ad 0)), (1, .long b1)]) hx hb dX2_digestPairsOfCards_1 rfl hl (by decide) rfl (fun ls hl => ?_)
  refine lv_iconst (v := 0) hx hb dX2_digestPairsOfCards_2 (by decide) ?_
  refine lv_istore (lv' := [(5, .int 0), (3, .long b1), (0, .ref (ad 0)), (1, .long b1)]) hx hb dX2_digestPairsOfCards_3 hl (by decide) rfl (fun ls hl => ?_)
  have loop1 : ∀ (n1 : Nat) (ua : Int32) (da : Int64) (sp9 : Nat → TR) (dy9 : Nat → TR) (H : Heap) (locs : List Loc), ((4 : Int32).toInt - ua.toInt).toNat < n1 → ¬ ua < 0 → (∀ j, j < 12 → sp9 j = sp j) → (∀ j, j < 4 → dy9 j = dy j) → WB g (aw N ad sz) s.heap N ad (cf g ad x sp9 dy9 la kn re) H locs → ∀ ls : Array Slot, lv_has ls 7 [(5, .int ua), (3, .long da), (0, .ref (ad 0)), (1, .long b1)] → W p l e (rm 2 0 0) s m args below meth c H locs 0 0 (MQ below (va_Ql (fun r (u : WS) => (fun r ad' f' => ad = ad' ∧ ∃ sp' dy' : Nat → TR, (∀ j, j < 12 → sp' j = sp j) ∧ (∀ j, j < 4 → dy' j = dy j) ∧ cf g ad x sp' dy' la kn re = f') r u.1 u.2) (fun u t => PO g N u.1 u.2 (aw N ad sz) t) (aw N ad sz)) args s (rm 2 0 0).cells (rm 2 0 0).slots (aw N ad sz)) (F0 m 5 ls []) := by
    intro n1
    induction n1 with
    | zero => intro ua da sp9 dy9 H locs hn; exact absurd hn (Nat.not_lt_zero _)
    | succ n1 ih1 =>
      intro ua da sp9 dy9 H locs hn1 hzua hksp1 hkdy1 B ls hl
      refine lv_iload hx hb dX2_digestPairsOfCards_5 (lv_at hl 0 rfl) ?_
      refine lv_iconst (v := 4) hx hb dX2_digestPairsOfCards_7 (by decide) ?_
      refine lv_icmp_ge (tgt := 92) hx hb dX2_digestPairsOfCards_8 (by decide) (fun c2 => ?_) (fun c2 => ?_)
      · refine lv_lload_n hx hb dX2_digestPairsOfCards_92 rfl (lv_at hl 1 rfl) ?_
        exact rt_l X hr (ad, (cf g ad x sp9 dy9 la kn re)) B (PO_of B) ⟨rfl, _, _, hksp1, hkdy1, rfl⟩ (Nat.le_of_ble_eq_true rfl) (Nat.le_of_ble_eq_true rfl) dX2_digestPairsOfCards_93
      · refine lv_iconst (v := 0) hx hb dX2_digestPairsOfCards_11 (by decide) ?_
        refine lv_istore (lv' := [(6, .int 0), (5, .int ua), (3, .long da), (0, .ref (ad 0)), (1, .long b1)]) hx hb dX2_digestPairsOfCards_12 hl (by decide) rfl (fun ls hl => ?_)
        have loop3 : ∀ (n3 : Nat) (ub : Int32) (db : Int64) (sp9 : Nat → TR) (dy9 : Nat → TR) (H : Heap) (locs : List Loc), ((4 : Int32).toInt - ub.toInt).toNat < n3 → ¬ ub < 0 → (∀ j, j < 12 → sp9 j = sp j) → (∀ j, j < 4 → dy9 j = dy j) → WB g (aw N ad sz) s.heap N ad (cf g ad x sp9 dy9 la kn re) H locs → ∀ ls : Array Slot, lv_has ls 7 [(6, .int ub), (5, .int ua), (3, .long db), (0, .ref (ad 0)), (1, .long b1)] → W p l e (rm 2 0 0) s m args below meth c H locs 0 0 (MQ below (va_Ql (fun r (u : WS) => (fun r ad' f' => ad = ad' ∧ ∃ sp' dy' : Nat → TR, (∀ j, j < 12 → sp' j = sp j) ∧ (∀ j, j < 4 → dy' j = dy j) ∧ cf g ad x sp' dy' la kn re = f') r u.1 u.2) (fun u t => PO g N u.1 u.2 (aw N ad sz) t) (aw N ad sz)) args s (rm 2 0 0).cells (rm 2 0 0).slots (aw N ad sz)) (F0 m 14 ls []) := by
          intro n3
          induction n3 with
          | zero => intro ub db sp9 dy9 H locs hn; exact absurd hn (Nat.not_lt_zero _)
          | succ n3 ih3 =>
            intro ub db sp9 dy9 H locs hn3 hzub hksp3 hkdy3 B ls hl
            refine lv_iload hx hb dX2_digestPairsOfCards_14 (lv_at hl 0 rfl) ?_
            refine lv_iconst (v := 4) hx hb dX2_digestPairsOfCards_16 (by decide) ?_
            refine lv_icmp_ge (tgt := 86) hx hb dX2_digestPairsOfCards_17 (by decide) (fun c4 => ?_) (fun c4 => ?_)
            · refine lv_iinc (v := ua + 1) (lv' := [(5, .int (ua + 1)), (6, .int ub), (3, .long db), (0, .ref (ad 0)), (1, .long b1)]) hx hb dX2_digestPairsOfCards_86 hl (k := 1) rfl rfl (by decide) rfl (fun ls hl => ?_)
              refine lv_goto (tgt := 5) hx hb dX2_digestPairsOfCards_89 (by decide) ?_
              exact ih1 (ua + 1) db sp9 dy9 H locs (fu_le c2 hn1) (inc_nn hzua c2) (hksp3) (hkdy3) B ls (lv_sub hl [0, 2, 3, 4] rfl)
            · refine lv_lload_n hx hb dX2_digestPairsOfCards_20 rfl (lv_at hl 2 rfl) ?_
              refine lv_aload_n hx hb dX2_digestPairsOfCards_21 rfl (lv_at hl 3 rfl) ?_
              refine g_get (q := 0) (k := 0) X hK B rfl in_X2 (pl_c hN 0 (by decide)) cf_0 (by decide) lk_X2_11 rfl rfl dX2_digestPairsOfCards_22 ?_
              refine lv_iload hx hb dX2_digestPairsOfCards_25 (lv_at hl 1 rfl) ?_
              refine g_aald (q := 1) (t0 := 3) X hK B (pl_c hN 1 (by decide)) cf_1 rfl rfl (ix_in (n := 4) hzua c2 rfl) dX2_digestPairsOfCards_27 ?_
              have h5 : ua.toNatClampNeg < 14 := by have := (ix_lt (n := 4) hzua c2 rfl); omega
              refine lv_aload_n hx hb dX2_digestPairsOfCards_28 rfl (lv_at hl 3 rfl) ?_
              refine g_get (q := 0) (k := 0) X hK B rfl in_X2 (pl_c hN 0 (by decide)) cf_0 (by decide) lk_X2_11 rfl rfl dX2_digestPairsOfCards_29 ?_
              refine lv_iload hx hb dX2_digestPairsOfCards_32 (lv_at hl 0 rfl) ?_
              refine g_aald (q := 1) (t0 := 3) X hK B (pl_c hN 1 (by decide)) cf_1 rfl rfl (ix_in (n := 4) hzub c4 rfl) dX2_digestPairsOfCards_34 ?_
              have h6 : ub.toNatClampNeg < 14 := by have := (ix_lt (n := 4) hzub c4 rfl); omega
              refine k_i (k := 0) (n := 0) hA B (u_VN (rest := [.long db]) X (c_X1_isSameAs l g N ad x sp9 dy9 la kn re hN ua.toNatClampNeg h5 ub.toNatClampNeg h6 H.size) mw_X1_isSameAs md_X1_isSameAs rfl lk_X2_123 ⟨Nat.le_of_ble_eq_true rfl, Nat.le_of_ble_eq_true rfl⟩ hA hK hT B (pl_sp hN h5) (cf_sp h5) rfl rfl hl.1 rfl (Nat.le_of_ble_eq_true rfl) dX2_digestPairsOfCards_35 ⟨Nat.le_of_ble_eq_true rfl, Nat.le_of_ble_eq_true rfl⟩) (Nat.le_of_ble_eq_true rfl) (Nat.le_of_ble_eq_true rfl) (fun r ad' f' H locs hw B => ?_)
              obtain ⟨rfl, rfl, rfl⟩ := hw
              generalize (v_X1_isSameAs sp9 ua.toNatClampNeg ub.toNatClampNeg) = t7
              refine lv_if_eq (tgt := 45) hx hb dX2_digestPairsOfCards_38 (by decide) (fun c8 => ?_) (fun c8 => ?_)
              · refine lv_lconst (v := 0) hx hb dX2_digestPairsOfCards_45 (by decide) ?_
                refine k_l (k := 0) (n := 0) hA B (u_S (rest := []) X (c_X2_digestNext l g N ad x sp9 dy9 la kn re hN db 0 H.size) mw_X2_digestNext md_X2_digestNext rfl lk_X2_213 ⟨Nat.le_of_ble_eq_true rfl, Nat.le_of_ble_eq_true rfl⟩ hA hK hT B hl.1 rfl (Nat.le_of_ble_eq_true rfl) dX2_digestPairsOfCards_46 ⟨Nat.le_of_ble_eq_true rfl, Nat.le_of_ble_eq_true rfl⟩) (Nat.le_of_ble_eq_true rfl) (Nat.le_of_ble_eq_true rfl) (fun r ad' f' H locs hw B => ?_)
                obtain ⟨rfl, rfl, rfl⟩ := hw
                generalize (v_X2_digestNext db 0) = t9
                refine lv_lstore_n (lv' := [(3, .long t9), (6, .int ub), (5, .int ua), (0, .ref (ad 0)), (1, .long b1)]) hx hb dX2_digestPairsOfCards_49 rfl hl (by decide) rfl (fun ls hl => ?_)
                refine lv_lload_n hx hb dX2_digestPairsOfCards_50 rfl (lv_at hl 0 rfl) ?_
                refine lv_aload_n hx hb dX2_digestPairsOfCards_51 rfl (lv_at hl 3 rfl) ?_
                refine g_get (q := 0) (k := 0) X hK B rfl in_X2 (pl_c hN 0 (by decide)) cf_0 (by decide) lk_X2_11 rfl rfl dX2_digestPairsOfCards_52 ?_
                refine lv_iload hx hb dX2_digestPairsOfCards_55 (lv_at hl 2 rfl) ?_
                refine g_aald (q := 1) (t0 := 3) X hK B (pl_c hN 1 (by decide)) cf_1 rfl rfl (ix_in (n := 4) hzua c2 rfl) dX2_digestPairsOfCards_57 ?_
                have h10 : ua.toNatClampNeg < 14 := by have := (ix_lt (n := 4) hzua c2 rfl); omega
                refine lv_aload_n hx hb dX2_digestPairsOfCards_58 rfl (lv_at hl 3 rfl) ?_
                refine g_get (q := 0) (k := 0) X hK B rfl in_X2 (pl_c hN 0 (by decide)) cf_0 (by decide) lk_X2_11 rfl rfl dX2_digestPairsOfCards_59 ?_
                refine lv_iload hx hb dX2_digestPairsOfCards_62 (lv_at hl 1 rfl) ?_
                refine g_aald (q := 1) (t0 := 3) X hK B (pl_c hN 1 (by decide)) cf_1 rfl rfl (ix_in (n := 4) hzub c4 rfl) dX2_digestPairsOfCards_64 ?_
                have h11 : ub.toNatClampNeg < 14 := by have := (ix_lt (n := 4) hzub c4 rfl); omega
                refine k_i (k := 0) (n := 0) hA B (u_VN (rest := [.long t9]) X (c_X1_isAlikeTo l g N ad x sp9 dy9 la kn re hN ua.toNatClampNeg h10 ub.toNatClampNeg h11 H.size) mw_X1_isAlikeTo md_X1_isAlikeTo rfl lk_X2_126 ⟨Nat.le_of_ble_eq_true rfl, Nat.le_of_ble_eq_true rfl⟩ hA hK hT B (pl_sp hN h10) (cf_sp h10) rfl rfl hl.1 rfl (Nat.le_of_ble_eq_true rfl) dX2_digestPairsOfCards_65 ⟨Nat.le_of_ble_eq_true rfl, Nat.le_of_ble_eq_true rfl⟩) (Nat.le_of_ble_eq_true rfl) (Nat.le_of_ble_eq_true rfl) (fun r ad' f' H locs hw B => ?_)
                obtain ⟨rfl, rfl, rfl⟩ := hw
                generalize (v_X1_isAlikeTo sp9 ua.toNatClampNeg ub.toNatClampNeg) = t12
                refine lv_if_eq (tgt := 75) hx hb dX2_digestPairsOfCards_68 (by decide) (fun c13 => ?_) (fun c13 => ?_)
                · refine lv_lconst (v := 0) hx hb dX2_digestPairsOfCards_75 (by decide) ?_
                  refine k_l (k := 0) (n := 0) hA B (u_S (rest := []) X (c_X2_digestNext l g N ad x sp9 dy9 la kn re hN t9 0 H.size) mw_X2_digestNext md_X2_digestNext rfl lk_X2_213 ⟨Nat.le_of_ble_eq_true rfl, Nat.le_of_ble_eq_true rfl⟩ hA hK hT B hl.1 rfl (Nat.le_of_ble_eq_true rfl) dX2_digestPairsOfCards_76 ⟨Nat.le_of_ble_eq_true rfl, Nat.le_of_ble_eq_true rfl⟩) (Nat.le_of_ble_eq_true rfl) (Nat.le_of_ble_eq_true rfl) (fun r ad' f' H locs hw B => ?_)
                  obtain ⟨rfl, rfl, rfl⟩ := hw
                  generalize (v_X2_digestNext t9 0) = t14
                  refine lv_lstore_n (lv' := [(3, .long t14), (6, .int ub), (5, .int ua), (0, .ref (ad 0)), (1, .long b1)]) hx hb dX2_digestPairsOfCards_79 rfl hl (by decide) rfl (fun ls hl => ?_)
                  refine lv_iinc (v := ub + 1) (lv' := [(6, .int (ub + 1)), (3, .long t14), (5, .int ua), (0, .ref (ad 0)), (1, .long b1)]) hx hb dX2_digestPairsOfCards_80 hl (k := 1) rfl rfl (by decide) rfl (fun ls hl => ?_)
                  refine lv_goto (tgt := 14) hx hb dX2_digestPairsOfCards_83 (by decide) ?_
                  exact ih3 (ub + 1) t14 sp9 dy9 H locs (fu_le c4 hn3) (inc_nn hzub c4) (hksp3) (hkdy3) B ls (lv_sub hl [0, 2, 1, 3, 4] rfl)
                · refine lv_lconst (v := 1) hx hb dX2_digestPairsOfCards_71 (by decide) ?_
                  refine lv_goto (tgt := 76) hx hb dX2_digestPairsOfCards_72 (by decide) ?_
                  refine k_l (k := 0) (n := 0) hA B (u_S (rest := []) X (c_X2_digestNext l g N ad x sp9 dy9 la kn re hN t9 1 H.size) mw_X2_digestNext md_X2_digestNext rfl lk_X2_213 ⟨Nat.le_of_ble_eq_true rfl, Nat.le_of_ble_eq_true rfl⟩ hA hK hT B hl.1 rfl (Nat.le_of_ble_eq_true rfl) dX2_digestPairsOfCards_76 ⟨Nat.le_of_ble_eq_true rfl, Nat.le_of_ble_eq_true rfl⟩) (Nat.le_of_ble_eq_true rfl) (Nat.le_of_ble_eq_true rfl) (fun r ad' f' H locs hw B => ?_)
                  obtain ⟨rfl, rfl, rfl⟩ := hw
                  generalize (v_X2_digestNext t9 1) = t15
                  refine lv_lstore_n (lv' := [(3, .long t15), (6, .int ub), (5, .int ua), (0, .ref (ad 0)), (1, .long b1)]) hx hb dX2_digestPairsOfCards_79 rfl hl (by decide) rfl (fun ls hl => ?_)
                  refine lv_iinc (v := ub + 1) (lv' := [(6, .int (ub + 1)), (3, .long t15), (5, .int ua), (0, .ref (ad 0)), (1, .long b1)]) hx hb dX2_digestPairsOfCards_80 hl (k := 1) rfl rfl (by decide) rfl (fun ls hl => ?_)
                  refine lv_goto (tgt := 14) hx hb dX2_digestPairsOfCards_83 (by decide) ?_
                  exact ih3 (ub + 1) t15 sp9 dy9 H locs (fu_le c4 hn3) (inc_nn hzub c4) (hksp3) (hkdy3) B ls (lv_sub hl [0, 2, 1, 3, 4] rfl)
              · refine lv_lconst (v := 1) hx hb dX2_digestPairsOfCards_41 (by decide) ?_
                refine lv_goto (tgt := 46) hx hb dX2_digestPairsOfCards_42 (by decide) ?_
                refine k_l (k := 0) (n := 0) hA B (u_S (rest := []) X (c_X2_digestNext l g N ad x sp9 dy9 la kn re hN db 1 H.size) mw_X2_digestNext md_X2_digestNext rfl lk_X2_213 ⟨Nat.le_of_ble_eq_true rfl, Nat.le_of_ble_eq_true rfl⟩ hA hK hT B hl.1 rfl (Nat.le_of_ble_eq_true rfl) dX2_digestPairsOfCards_46 ⟨Nat.le_of_ble_eq_true rfl, Nat.le_of_ble_eq_true rfl⟩) (Nat.le_of_ble_eq_true rfl) (Nat.le_of_ble_eq_true rfl) (fun r ad' f' H locs hw B => ?_)
                obtain ⟨rfl, rfl, rfl⟩ := hw
                generalize (v_X2_digestNext db 1) = t16
                refine lv_lstore_n (lv' := [(3, .long t16), (6, .int ub), (5, .int ua), (0, .ref (ad 0)), (1, .long b1)]) hx hb dX2_digestPairsOfCards_49 rfl hl (by decide) rfl (fun ls hl => ?_)
                refine lv_lload_n hx hb dX2_digestPairsOfCards_50 rfl (lv_at hl 0 rfl) ?_
                refine lv_aload_n hx hb dX2_digestPairsOfCards_51 rfl (lv_at hl 3 rfl) ?_
                refine g_get (q := 0) (k := 0) X hK B rfl in_X2 (pl_c hN 0 (by decide)) cf_0 (by decide) lk_X2_11 rfl rfl dX2_digestPairsOfCards_52 ?_
                refine lv_iload hx hb dX2_digestPairsOfCards_55 (lv_at hl 2 rfl) ?_
                refine g_aald (q := 1) (t0 := 3) X hK B (pl_c hN 1 (by decide)) cf_1 rfl rfl (ix_in (n := 4) hzua c2 rfl) dX2_digestPairsOfCards_57 ?_
                have h17 : ua.toNatClampNeg < 14 := by have := (ix_lt (n := 4) hzua c2 rfl); omega
                refine lv_aload_n hx hb dX2_digestPairsOfCards_58 rfl (lv_at hl 3 rfl) ?_
                refine g_get (q := 0) (k := 0) X hK B rfl in_X2 (pl_c hN 0 (by decide)) cf_0 (by decide) lk_X2_11 rfl rfl dX2_digestPairsOfCards_59 ?_
                refine lv_iload hx hb dX2_digestPairsOfCards_62 (lv_at hl 1 rfl) ?_
                refine g_aald (q := 1) (t0 := 3) X hK B (pl_c hN 1 (by decide)) cf_1 rfl rfl (ix_in (n := 4) hzub c4 rfl) dX2_digestPairsOfCards_64 ?_
                have h18 : ub.toNatClampNeg < 14 := by have := (ix_lt (n := 4) hzub c4 rfl); omega
                refine k_i (k := 0) (n := 0) hA B (u_VN (rest := [.long t16]) X (c_X1_isAlikeTo l g N ad x sp9 dy9 la kn re hN ua.toNatClampNeg h17 ub.toNatClampNeg h18 H.size) mw_X1_isAlikeTo md_X1_isAlikeTo rfl lk_X2_126 ⟨Nat.le_of_ble_eq_true rfl, Nat.le_of_ble_eq_true rfl⟩ hA hK hT B (pl_sp hN h17) (cf_sp h17) rfl rfl hl.1 rfl (Nat.le_of_ble_eq_true rfl) dX2_digestPairsOfCards_65 ⟨Nat.le_of_ble_eq_true rfl, Nat.le_of_ble_eq_true rfl⟩) (Nat.le_of_ble_eq_true rfl) (Nat.le_of_ble_eq_true rfl) (fun r ad' f' H locs hw B => ?_)
                obtain ⟨rfl, rfl, rfl⟩ := hw
                generalize (v_X1_isAlikeTo sp9 ua.toNatClampNeg ub.toNatClampNeg) = t19
                refine lv_if_eq (tgt := 75) hx hb dX2_digestPairsOfCards_68 (by decide) (fun c20 => ?_) (fun c20 => ?_)
                · refine lv_lconst (v := 0) hx hb dX2_digestPairsOfCards_75 (by decide) ?_
                  refine k_l (k := 0) (n := 0) hA B (u_S (rest := []) X (c_X2_digestNext l g N ad x sp9 dy9 la kn re hN t16 0 H.size) mw_X2_digestNext md_X2_digestNext rfl lk_X2_213 ⟨Nat.le_of_ble_eq_true rfl, Nat.le_of_ble_eq_true rfl⟩ hA hK hT B hl.1 rfl (Nat.le_of_ble_eq_true rfl) dX2_digestPairsOfCards_76 ⟨Nat.le_of_ble_eq_true rfl, Nat.le_of_ble_eq_true rfl⟩) (Nat.le_of_ble_eq_true rfl) (Nat.le_of_ble_eq_true rfl) (fun r ad' f' H locs hw B => ?_)
                  obtain ⟨rfl, rfl, rfl⟩ := hw
                  generalize (v_X2_digestNext t16 0) = t21
                  refine lv_lstore_n (lv' := [(3, .long t21), (6, .int ub), (5, .int ua), (0, .ref (ad 0)), (1, .long b1)]) hx hb dX2_digestPairsOfCards_79 rfl hl (by decide) rfl (fun ls hl => ?_)
                  refine lv_iinc (v := ub + 1) (lv' := [(6, .int (ub + 1)), (3, .long t21), (5, .int ua), (0, .ref (ad 0)), (1, .long b1)]) hx hb dX2_digestPairsOfCards_80 hl (k := 1) rfl rfl (by decide) rfl (fun ls hl => ?_)
                  refine lv_goto (tgt := 14) hx hb dX2_digestPairsOfCards_83 (by decide) ?_
                  exact ih3 (ub + 1) t21 sp9 dy9 H locs (fu_le c4 hn3) (inc_nn hzub c4) (hksp3) (hkdy3) B ls (lv_sub hl [0, 2, 1, 3, 4] rfl)
                · refine lv_lconst (v := 1) hx hb dX2_digestPairsOfCards_71 (by decide) ?_
                  refine lv_goto (tgt := 76) hx hb dX2_digestPairsOfCards_72 (by decide) ?_
                  refine k_l (k := 0) (n := 0) hA B (u_S (rest := []) X (c_X2_digestNext l g N ad x sp9 dy9 la kn re hN t16 1 H.size) mw_X2_digestNext md_X2_digestNext rfl lk_X2_213 ⟨Nat.le_of_ble_eq_true rfl, Nat.le_of_ble_eq_true rfl⟩ hA hK hT B hl.1 rfl (Nat.le_of_ble_eq_true rfl) dX2_digestPairsOfCards_76 ⟨Nat.le_of_ble_eq_true rfl, Nat.le_of_ble_eq_true rfl⟩) (Nat.le_of_ble_eq_true rfl) (Nat.le_of_ble_eq_true rfl) (fun r ad' f' H locs hw B => ?_)
                  obtain ⟨rfl, rfl, rfl⟩ := hw
                  generalize (v_X2_digestNext t16 1) = t22
                  refine lv_lstore_n (lv' := [(3, .long t22), (6, .int ub), (5, .int ua), (0, .ref (ad 0)), (1, .long b1)]) hx hb dX2_digestPairsOfCards_79 rfl hl (by decide) rfl (fun ls hl => ?_)
                  refine lv_iinc (v := ub + 1) (lv' := [(6, .int (ub + 1)), (3, .long t22), (5, .int ua), (0, .ref (ad 0)), (1, .long b1)]) hx hb dX2_digestPairsOfCards_80 hl (k := 1) rfl rfl (by decide) rfl (fun ls hl => ?_)
                  refine lv_goto (tgt := 14) hx hb dX2_digestPairsOfCards_83 (by decide) ?_
                  exact ih3 (ub + 1) t22 sp9 dy9 H locs (fu_le c4 hn3) (inc_nn hzub c4) (hksp3) (hkdy3) B ls (lv_sub hl [0, 2, 1, 3, 4] rfl)
        exact loop3 (((4 : Int32).toInt - (0 : Int32).toInt).toNat + 1) 0 da sp9 dy9 H locs (Nat.lt_succ_self _) (by decide) (hksp1) (hkdy1) B ls hl
  exact loop1 (((4 : Int32).toInt - (0 : Int32).toInt).toNat + 1) 0 b1 sp dy H locs (Nat.lt_succ_self _) (by decide) (fun _ _ => rfl) (fun _ _ => rfl) B ls hl
set_option maxHeartbeats 4000000 in
set_option maxRecDepth 100000 in
theorem c_X2_digestDate (l : Launch) (g : GG) (N : Nat) (ad : Nat → Nat) (x : Nat → va_E) (sp dy : Nat → TR) (la kn re : Int32) (hN : 23 ≤ N) (b1 : Int64) (j2 : Nat) (hj2 : j2 < 5) : KL l yX2_digestDate cX2_digestDate 7 (rm 5 0 0) g [.ref (ad 0), .long b1, .ref (ad (18 + j2))] N ad (cf g ad x sp dy la kn re) N (fun r ad' f' => ad = ad' ∧ ∃ sp' dy' : Nat → TR, (∀ j, j < 12 → sp' j = sp j) ∧ (∀ j, j < 4 → dy' j = dy j) ∧ cf g ad x sp' dy' la kn re = f') := by
  intro sz
  refine mt_start (by decide) (Nat.le_of_ble_eq_true rfl) ?_
  intro p e s m args below meth c hsz X hr hnam hA hK hT H locs B ls hl
  obtain ⟨hx, hb, hml, hown, hts, hlocks⟩ := id X
  have hl : lv_has ls 7 [(0, .ref (ad 0)), (1, .long b1), (3, .ref (ad (18 + j2)))] := hl
  refine lv_lload_n hx hb dX2_digestDate_0 rfl (lv_at hl 1 rfl) ?_
  refine lv_lstore (lv' := [(4, .long b1), (0, .ref (ad 0)), (1, .long b1), (3, .ref (ad (18 + j2)))]) hx hb dX2_digestDate_1 hl (by decide) rfl (fun ls hl => ?_)
  refine lv_iconst (v := 0) hx hb dX2_digestDate_3 (by decide) ?_
  refine lv_istore (lv' := [(6, .int 0), (4, .long b1), (0, .ref (ad 0)), (1, .long b1), (3, .ref (ad (18 + j2)))]) hx hb dX2_digestDate_4 hl (by decide) rfl (fun ls hl => ?_)
  have loop1 : ∀ (n1 : Nat) (ua : Int32) (da : Int64) (sp9 : Nat → TR) (dy9 : Nat → TR) (H : Heap) (locs : List Loc), ((4 : Int32).toInt - ua.toInt).toNat < n1 → ¬ ua < 0 → (∀ j, j < 12 → sp9 j = sp j) → (∀ j, j < 4 → dy9 j = dy j) → WB g (aw N ad sz) s.heap N ad (cf g ad x sp9 dy9 la kn re) H locs → ∀ ls : Array Slot, lv_has ls 7 [(6, .int ua), (4, .long da), (0, .ref (ad 0)), (1, .long b1), (3, .ref (ad (18 + j2)))] → W p l e (rm 5 0 0) s m args below meth c H locs 0 0 (MQ below (va_Ql (fun r (u : WS) => (fun r ad' f' => ad = ad' ∧ ∃ sp' dy' : Nat → TR, (∀ j, j < 12 → sp' j = sp j) ∧ (∀ j, j < 4 → dy' j = dy j) ∧ cf g ad x sp' dy' la kn re = f') r u.1 u.2) (fun u t => PO g N u.1 u.2 (aw N ad sz) t) (aw N ad sz)) args s (rm 5 0 0).cells (rm 5 0 0).slots (aw N ad sz)) (F0 m 6 ls []) := by
    intro n1
    induction n1 with
    | zero => intro ua da sp9 dy9 H locs hn; exact absurd hn (Nat.not_lt_zero _)
    | succ n1 ih1 =>
      intro ua da sp9 dy9 H locs hn1 hzua hksp1 hkdy1 B ls hl
      refine lv_iload hx hb dX2_digestDate_6 (lv_at hl 0 rfl) ?_
      refine lv_iconst (v := 4) hx hb dX2_digestDate_8 (by decide) ?_
      refine lv_icmp_ge (tgt := 32) hx hb dX2_digestDate_9 (by decide) (fun c2 => ?_) (fun c2 => ?_)
      · refine lv_iconst (v := 0) hx hb dX2_digestDate_32 (by decide) ?_
        refine lv_istore (lv' := [(6, .int 0), (4, .long da), (0, .ref (ad 0)), (1, .long b1), (3, .ref (ad (18 + j2)))]) hx hb dX2_digestDate_33 hl (by decide) rfl (fun ls hl => ?_)
        have loop3 : ∀ (n3 : Nat) (ub : Int32) (db : Int64) (sp9 : Nat → TR) (dy9 : Nat → TR) (H : Heap) (locs : List Loc), ((4 : Int32).toInt - ub.toInt).toNat < n3 → ¬ ub < 0 → (∀ j, j < 12 → sp9 j = sp j) → (∀ j, j < 4 → dy9 j = dy j) → WB g (aw N ad sz) s.heap N ad (cf g ad x sp9 dy9 la kn re) H locs → ∀ ls : Array Slot, lv_has ls 7 [(6, .int ub), (4, .long db), (0, .ref (ad 0)), (1, .long b1), (3, .ref (ad (18 + j2)))] → W p l e (rm 5 0 0) s m args below meth c H locs 0 0 (MQ below (va_Ql (fun r (u : WS) => (fun r ad' f' => ad = ad' ∧ ∃ sp' dy' : Nat → TR, (∀ j, j < 12 → sp' j = sp j) ∧ (∀ j, j < 4 → dy' j = dy j) ∧ cf g ad x sp' dy' la kn re = f') r u.1 u.2) (fun u t => PO g N u.1 u.2 (aw N ad sz) t) (aw N ad sz)) args s (rm 5 0 0).cells (rm 5 0 0).slots (aw N ad sz)) (F0 m 35 ls []) := by
          intro n3
          induction n3 with
          | zero => intro ub db sp9 dy9 H locs hn; exact absurd hn (Nat.not_lt_zero _)
          | succ n3 ih3 =>
            intro ub db sp9 dy9 H locs hn3 hzub hksp3 hkdy3 B ls hl
            refine lv_iload hx hb dX2_digestDate_35 (lv_at hl 0 rfl) ?_
            refine lv_iconst (v := 4) hx hb dX2_digestDate_37 (by decide) ?_
            refine lv_icmp_ge (tgt := 117) hx hb dX2_digestDate_38 (by decide) (fun c4 => ?_) (fun c4 => ?_)
            · refine lv_lload hx hb dX2_digestDate_117 (lv_at hl 1 rfl) ?_
              exact rt_l X hr (ad, (cf g ad x sp9 dy9 la kn re)) B (PO_of B) ⟨rfl, _, _, hksp3, hkdy3, rfl⟩ (Nat.le_of_ble_eq_true rfl) (Nat.le_of_ble_eq_true rfl) dX2_digestDate_119
            · refine lv_lload hx hb dX2_digestDate_41 (lv_at hl 1 rfl) ?_
              refine lv_aload_n hx hb dX2_digestDate_43 rfl (lv_at hl 2 rfl) ?_
              refine lv_aload_n hx hb dX2_digestDate_44 rfl (lv_at hl 4 rfl) ?_
              refine lv_aload_n hx hb dX2_digestDate_45 rfl (lv_at hl 2 rfl) ?_
              refine g_get (q := 0) (k := 0) X hK B rfl in_X2 (pl_c hN 0 (by decide)) cf_0 (by decide) lk_X2_11 rfl rfl dX2_digestDate_46 ?_
              refine lv_iload hx hb dX2_digestDate_49 (lv_at hl 0 rfl) ?_
              refine g_aald (q := 1) (t0 := 3) X hK B (pl_c hN 1 (by decide)) cf_1 rfl rfl (ix_in (n := 4) hzub c4 rfl) dX2_digestDate_51 ?_
              have h5 : ub.toNatClampNeg < 14 := by have := (ix_lt (n := 4) hzub c4 rfl); omega
              refine lv_iconst (v := 0) hx hb dX2_digestDate_52 (by decide) ?_
              refine k_i (k := 0) (n := 0) hA B (u_V (rest := [.long db]) X (c_X2_reach l g N ad x sp9 dy9 la kn re hN j2 hj2 ub.toNatClampNeg h5 0 H.size) mw_X2_reach md_X2_reach rfl lk_X2_161 ⟨Nat.le_of_ble_eq_true rfl, Nat.le_of_ble_eq_true rfl⟩ hA hK hT B (pl_c hN 0 (by decide)) cf_0 rfl rfl hl.1 rfl (Nat.le_of_ble_eq_true rfl) dX2_digestDate_53 ⟨Nat.le_of_ble_eq_true rfl, Nat.le_of_ble_eq_true rfl⟩) (Nat.le_of_ble_eq_true rfl) (Nat.le_of_ble_eq_true rfl) (fun r ad' f' H locs hw B => ?_)
              obtain ⟨rfl, rfl, rfl⟩ := hw
              have e6 : ∀ j, j < 4 → (v_X2_reach sp9 dy9 j2 ub.toNatClampNeg 0).2 j = dy j := fun j hj => (kp_X2_reach_dy (by omega)).trans (hkdy3 j hj)
              generalize (v_X2_reach sp9 dy9 j2 ub.toNatClampNeg 0) = t6 at e6 B ⊢
              refine lv_if_eq (tgt := 70) hx hb dX2_digestDate_56 (by decide) (fun c7 => ?_) (fun c7 => ?_)
              · refine lv_lconst (v := 0) hx hb dX2_digestDate_70 (by decide) ?_
                refine k_l (k := 0) (n := 0) hA B (u_S (rest := []) X (c_X2_digestNext l g N ad x sp9 t6.2 la kn re hN db 0 H.size) mw_X2_digestNext md_X2_digestNext rfl lk_X2_213 ⟨Nat.le_of_ble_eq_true rfl, Nat.le_of_ble_eq_true rfl⟩ hA hK hT B hl.1 rfl (Nat.le_of_ble_eq_true rfl) dX2_digestDate_71 ⟨Nat.le_of_ble_eq_true rfl, Nat.le_of_ble_eq_true rfl⟩) (Nat.le_of_ble_eq_true rfl) (Nat.le_of_ble_eq_true rfl) (fun r ad' f' H locs hw B => ?_)
                obtain ⟨rfl, rfl, rfl⟩ := hw
                generalize (v_X2_digestNext db 0) = t8
                refine lv_lstore (lv' := [(4, .long t8), (6, .int ub), (0, .ref (ad 0)), (1, .long b1), (3, .ref (ad (18 + j2)))]) hx hb dX2_digestDate_74 hl (by decide) rfl (fun ls hl => ?_)
                refine lv_lload hx hb dX2_digestDate_76 (lv_at hl 0 rfl) ?_
                refine lv_aload_n hx hb dX2_digestDate_78 rfl (lv_at hl 2 rfl) ?_
                refine lv_aload_n hx hb dX2_digestDate_79 rfl (lv_at hl 4 rfl) ?_
                refine lv_aload_n hx hb dX2_digestDate_80 rfl (lv_at hl 2 rfl) ?_
                refine g_get (q := 0) (k := 0) X hK B rfl in_X2 (pl_c hN 0 (by decide)) cf_0 (by decide) lk_X2_11 rfl rfl dX2_digestDate_81 ?_
                refine lv_iload hx hb dX2_digestDate_84 (lv_at hl 1 rfl) ?_
                refine g_aald (q := 1) (t0 := 3) X hK B (pl_c hN 1 (by decide)) cf_1 rfl rfl (ix_in (n := 4) hzub c4 rfl) dX2_digestDate_86 ?_
                have h9 : ub.toNatClampNeg < 14 := by have := (ix_lt (n := 4) hzub c4 rfl); omega
                refine lv_iconst (v := 1) hx hb dX2_digestDate_87 (by decide) ?_
                refine k_i (k := 0) (n := 0) hA B (u_V (rest := [.long t8]) X (c_X2_reach l g N ad x sp9 t6.2 la kn re hN j2 hj2 ub.toNatClampNeg h9 1 H.size) mw_X2_reach md_X2_reach rfl lk_X2_161 ⟨Nat.le_of_ble_eq_true rfl, Nat.le_of_ble_eq_true rfl⟩ hA hK hT B (pl_c hN 0 (by decide)) cf_0 rfl rfl hl.1 rfl (Nat.le_of_ble_eq_true rfl) dX2_digestDate_88 ⟨Nat.le_of_ble_eq_true rfl, Nat.le_of_ble_eq_true rfl⟩) (Nat.le_of_ble_eq_true rfl) (Nat.le_of_ble_eq_true rfl) (fun r ad' f' H locs hw B => ?_)
                obtain ⟨rfl, rfl, rfl⟩ := hw
                have e10 : ∀ j, j < 4 → (v_X2_reach sp9 t6.2 j2 ub.toNatClampNeg 1).2 j = dy j := fun j hj => (kp_X2_reach_dy (by omega)).trans (e6 j hj)
                generalize (v_X2_reach sp9 t6.2 j2 ub.toNatClampNeg 1) = t10 at e10 B ⊢
                refine lv_if_eq (tgt := 105) hx hb dX2_digestDate_91 (by decide) (fun c11 => ?_) (fun c11 => ?_)
                · refine lv_lconst (v := 0) hx hb dX2_digestDate_105 (by decide) ?_
                  refine k_l (k := 0) (n := 0) hA B (u_S (rest := []) X (c_X2_digestNext l g N ad x sp9 t10.2 la kn re hN t8 0 H.size) mw_X2_digestNext md_X2_digestNext rfl lk_X2_213 ⟨Nat.le_of_ble_eq_true rfl, Nat.le_of_ble_eq_true rfl⟩ hA hK hT B hl.1 rfl (Nat.le_of_ble_eq_true rfl) dX2_digestDate_106 ⟨Nat.le_of_ble_eq_true rfl, Nat.le_of_ble_eq_true rfl⟩) (Nat.le_of_ble_eq_true rfl) (Nat.le_of_ble_eq_true rfl) (fun r ad' f' H locs hw B => ?_)
                  obtain ⟨rfl, rfl, rfl⟩ := hw
                  generalize (v_X2_digestNext t8 0) = t12
                  refine lv_lstore (lv' := [(4, .long t12), (6, .int ub), (0, .ref (ad 0)), (1, .long b1), (3, .ref (ad (18 + j2)))]) hx hb dX2_digestDate_109 hl (by decide) rfl (fun ls hl => ?_)
                  refine lv_iinc (v := ub + 1) (lv' := [(6, .int (ub + 1)), (4, .long t12), (0, .ref (ad 0)), (1, .long b1), (3, .ref (ad (18 + j2)))]) hx hb dX2_digestDate_111 hl (k := 1) rfl rfl (by decide) rfl (fun ls hl => ?_)
                  refine lv_goto (tgt := 35) hx hb dX2_digestDate_114 (by decide) ?_
                  exact ih3 (ub + 1) t12 sp9 t10.2 H locs (fu_le c4 hn3) (inc_nn hzub c4) (hksp3) (e10) B ls (lv_sub hl [0, 1, 2, 3, 4] rfl)
                · refine lv_aload_n hx hb dX2_digestDate_94 rfl (lv_at hl 2 rfl) ?_
                  refine g_get (q := 0) (k := 8) X hK B rfl in_X2 (pl_c hN 0 (by decide)) cf_0 (by decide) lk_X2_33 rfl rfl dX2_digestDate_95 ?_
                  refine k_i (k := 0) (n := 0) hA B (u_VN (rest := [.long t8]) X (c_X0_signs l g N ad x sp9 t10.2 la kn re hN 4 (by decide) H.size) mw_X0_signs md_X0_signs rfl lk_X2_257 ⟨Nat.le_of_ble_eq_true rfl, Nat.le_of_ble_eq_true rfl⟩ hA hK hT B (pl_dy hN (by decide)) (cf_dy (by decide)) rfl rfl hl.1 rfl (Nat.le_of_ble_eq_true rfl) dX2_digestDate_98 ⟨Nat.le_of_ble_eq_true rfl, Nat.le_of_ble_eq_true rfl⟩) (Nat.le_of_ble_eq_true rfl) (Nat.le_of_ble_eq_true rfl) (fun r ad' f' H locs hw B => ?_)
                  obtain ⟨rfl, rfl, rfl⟩ := hw
                  generalize (v_X0_signs t10.2 4) = t13
                  refine lv_i2l (v := t13.toInt64) hx hb dX2_digestDate_101 rfl ?_
                  refine lv_goto (tgt := 106) hx hb dX2_digestDate_102 (by decide) ?_
                  refine k_l (k := 0) (n := 0) hA B (u_S (rest := []) X (c_X2_digestNext l g N ad x sp9 t10.2 la kn re hN t8 t13.toInt64 H.size) mw_X2_digestNext md_X2_digestNext rfl lk_X2_213 ⟨Nat.le_of_ble_eq_true rfl, Nat.le_of_ble_eq_true rfl⟩ hA hK hT B hl.1 rfl (Nat.le_of_ble_eq_true rfl) dX2_digestDate_106 ⟨Nat.le_of_ble_eq_true rfl, Nat.le_of_ble_eq_true rfl⟩) (Nat.le_of_ble_eq_true rfl) (Nat.le_of_ble_eq_true rfl) (fun r ad' f' H locs hw B => ?_)
                  obtain ⟨rfl, rfl, rfl⟩ := hw
                  generalize (v_X2_digestNext t8 t13.toInt64) = t14
                  refine lv_lstore (lv' := [(4, .long t14), (6, .int ub), (0, .ref (ad 0)), (1, .long b1), (3, .ref (ad (18 + j2)))]) hx hb dX2_digestDate_109 hl (by decide) rfl (fun ls hl => ?_)
                  refine lv_iinc (v := ub + 1) (lv' := [(6, .int (ub + 1)), (4, .long t14), (0, .ref (ad 0)), (1, .long b1), (3, .ref (ad (18 + j2)))]) hx hb dX2_digestDate_111 hl (k := 1) rfl rfl (by decide) rfl (fun ls hl => ?_)
                  refine lv_goto (tgt := 35) hx hb dX2_digestDate_114 (by decide) ?_
                  exact ih3 (ub + 1) t14 sp9 t10.2 H locs (fu_le c4 hn3) (inc_nn hzub c4) (hksp3) (e10) B ls (lv_sub hl [0, 1, 2, 3, 4] rfl)
              · refine lv_aload_n hx hb dX2_digestDate_59 rfl (lv_at hl 2 rfl) ?_
                refine g_get (q := 0) (k := 8) X hK B rfl in_X2 (pl_c hN 0 (by decide)) cf_0 (by decide) lk_X2_33 rfl rfl dX2_digestDate_60 ?_
                refine k_i (k := 0) (n := 0) hA B (u_VN (rest := [.long db]) X (c_X0_signs l g N ad x sp9 t6.2 la kn re hN 4 (by decide) H.size) mw_X0_signs md_X0_signs rfl lk_X2_257 ⟨Nat.le_of_ble_eq_true rfl, Nat.le_of_ble_eq_true rfl⟩ hA hK hT B (pl_dy hN (by decide)) (cf_dy (by decide)) rfl rfl hl.1 rfl (Nat.le_of_ble_eq_true rfl) dX2_digestDate_63 ⟨Nat.le_of_ble_eq_true rfl, Nat.le_of_ble_eq_true rfl⟩) (Nat.le_of_ble_eq_true rfl) (Nat.le_of_ble_eq_true rfl) (fun r ad' f' H locs hw B => ?_)
                obtain ⟨rfl, rfl, rfl⟩ := hw
                generalize (v_X0_signs t6.2 4) = t15
                refine lv_i2l (v := t15.toInt64) hx hb dX2_digestDate_66 rfl ?_
                refine lv_goto (tgt := 71) hx hb dX2_digestDate_67 (by decide) ?_
                refine k_l (k := 0) (n := 0) hA B (u_S (rest := []) X (c_X2_digestNext l g N ad x sp9 t6.2 la kn re hN db t15.toInt64 H.size) mw_X2_digestNext md_X2_digestNext rfl lk_X2_213 ⟨Nat.le_of_ble_eq_true rfl, Nat.le_of_ble_eq_true rfl⟩ hA hK hT B hl.1 rfl (Nat.le_of_ble_eq_true rfl) dX2_digestDate_71 ⟨Nat.le_of_ble_eq_true rfl, Nat.le_of_ble_eq_true rfl⟩) (Nat.le_of_ble_eq_true rfl) (Nat.le_of_ble_eq_true rfl) (fun r ad' f' H locs hw B => ?_)
                obtain ⟨rfl, rfl, rfl⟩ := hw
                generalize (v_X2_digestNext db t15.toInt64) = t16
                refine lv_lstore (lv' := [(4, .long t16), (6, .int ub), (0, .ref (ad 0)), (1, .long b1), (3, .ref (ad (18 + j2)))]) hx hb dX2_digestDate_74 hl (by decide) rfl (fun ls hl => ?_)
                refine lv_lload hx hb dX2_digestDate_76 (lv_at hl 0 rfl) ?_
                refine lv_aload_n hx hb dX2_digestDate_78 rfl (lv_at hl 2 rfl) ?_
                refine lv_aload_n hx hb dX2_digestDate_79 rfl (lv_at hl 4 rfl) ?_
                refine lv_aload_n hx hb dX2_digestDate_80 rfl (lv_at hl 2 rfl) ?_
                refine g_get (q := 0) (k := 0) X hK B rfl in_X2 (pl_c hN 0 (by decide)) cf_0 (by decide) lk_X2_11 rfl rfl dX2_digestDate_81 ?_
                refine lv_iload hx hb dX2_digestDate_84 (lv_at hl 1 rfl) ?_
                refine g_aald (q := 1) (t0 := 3) X hK B (pl_c hN 1 (by decide)) cf_1 rfl rfl (ix_in (n := 4) hzub c4 rfl) dX2_digestDate_86 ?_
                have h17 : ub.toNatClampNeg < 14 := by have := (ix_lt (n := 4) hzub c4 rfl); omega
                refine lv_iconst (v := 1) hx hb dX2_digestDate_87 (by decide) ?_
                refine k_i (k := 0) (n := 0) hA B (u_V (rest := [.long t16]) X (c_X2_reach l g N ad x sp9 t6.2 la kn re hN j2 hj2 ub.toNatClampNeg h17 1 H.size) mw_X2_reach md_X2_reach rfl lk_X2_161 ⟨Nat.le_of_ble_eq_true rfl, Nat.le_of_ble_eq_true rfl⟩ hA hK hT B (pl_c hN 0 (by decide)) cf_0 rfl rfl hl.1 rfl (Nat.le_of_ble_eq_true rfl) dX2_digestDate_88 ⟨Nat.le_of_ble_eq_true rfl, Nat.le_of_ble_eq_true rfl⟩) (Nat.le_of_ble_eq_true rfl) (Nat.le_of_ble_eq_true rfl) (fun r ad' f' H locs hw B => ?_)
                obtain ⟨rfl, rfl, rfl⟩ := hw
                have e18 : ∀ j, j < 4 → (v_X2_reach sp9 t6.2 j2 ub.toNatClampNeg 1).2 j = dy j := fun j hj => (kp_X2_reach_dy (by omega)).trans (e6 j hj)
                generalize (v_X2_reach sp9 t6.2 j2 ub.toNatClampNeg 1) = t18 at e18 B ⊢
                refine lv_if_eq (tgt := 105) hx hb dX2_digestDate_91 (by decide) (fun c19 => ?_) (fun c19 => ?_)
                · refine lv_lconst (v := 0) hx hb dX2_digestDate_105 (by decide) ?_
                  refine k_l (k := 0) (n := 0) hA B (u_S (rest := []) X (c_X2_digestNext l g N ad x sp9 t18.2 la kn re hN t16 0 H.size) mw_X2_digestNext md_X2_digestNext rfl lk_X2_213 ⟨Nat.le_of_ble_eq_true rfl, Nat.le_of_ble_eq_true rfl⟩ hA hK hT B hl.1 rfl (Nat.le_of_ble_eq_true rfl) dX2_digestDate_106 ⟨Nat.le_of_ble_eq_true rfl, Nat.le_of_ble_eq_true rfl⟩) (Nat.le_of_ble_eq_true rfl) (Nat.le_of_ble_eq_true rfl) (fun r ad' f' H locs hw B => ?_)
                  obtain ⟨rfl, rfl, rfl⟩ := hw
                  generalize (v_X2_digestNext t16 0) = t20
                  refine lv_lstore (lv' := [(4, .long t20), (6, .int ub), (0, .ref (ad 0)), (1, .long b1), (3, .ref (ad (18 + j2)))]) hx hb dX2_digestDate_109 hl (by decide) rfl (fun ls hl => ?_)
                  refine lv_iinc (v := ub + 1) (lv' := [(6, .int (ub + 1)), (4, .long t20), (0, .ref (ad 0)), (1, .long b1), (3, .ref (ad (18 + j2)))]) hx hb dX2_digestDate_111 hl (k := 1) rfl rfl (by decide) rfl (fun ls hl => ?_)
                  refine lv_goto (tgt := 35) hx hb dX2_digestDate_114 (by decide) ?_
                  exact ih3 (ub + 1) t20 sp9 t18.2 H locs (fu_le c4 hn3) (inc_nn hzub c4) (hksp3) (e18) B ls (lv_sub hl [0, 1, 2, 3, 4] rfl)
                · refine lv_aload_n hx hb dX2_digestDate_94 rfl (lv_at hl 2 rfl) ?_
                  refine g_get (q := 0) (k := 8) X hK B rfl in_X2 (pl_c hN 0 (by decide)) cf_0 (by decide) lk_X2_33 rfl rfl dX2_digestDate_95 ?_
                  refine k_i (k := 0) (n := 0) hA B (u_VN (rest := [.long t16]) X (c_X0_signs l g N ad x sp9 t18.2 la kn re hN 4 (by decide) H.size) mw_X0_signs md_X0_signs rfl lk_X2_257 ⟨Nat.le_of_ble_eq_true rfl, Nat.le_of_ble_eq_true rfl⟩ hA hK hT B (pl_dy hN (by decide)) (cf_dy (by decide)) rfl rfl hl.1 rfl (Nat.le_of_ble_eq_true rfl) dX2_digestDate_98 ⟨Nat.le_of_ble_eq_true rfl, Nat.le_of_ble_eq_true rfl⟩) (Nat.le_of_ble_eq_true rfl) (Nat.le_of_ble_eq_true rfl) (fun r ad' f' H locs hw B => ?_)
                  obtain ⟨rfl, rfl, rfl⟩ := hw
                  generalize (v_X0_signs t18.2 4) = t21
                  refine lv_i2l (v := t21.toInt64) hx hb dX2_digestDate_101 rfl ?_
                  refine lv_goto (tgt := 106) hx hb dX2_digestDate_102 (by decide) ?_
                  refine k_l (k := 0) (n := 0) hA B (u_S (rest := []) X (c_X2_digestNext l g N ad x sp9 t18.2 la kn re hN t16 t21.toInt64 H.size) mw_X2_digestNext md_X2_digestNext rfl lk_X2_213 ⟨Nat.le_of_ble_eq_true rfl, Nat.le_of_ble_eq_true rfl⟩ hA hK hT B hl.1 rfl (Nat.le_of_ble_eq_true rfl) dX2_digestDate_106 ⟨Nat.le_of_ble_eq_true rfl, Nat.le_of_ble_eq_true rfl⟩) (Nat.le_of_ble_eq_true rfl) (Nat.le_of_ble_eq_true rfl) (fun r ad' f' H locs hw B => ?_)
                  obtain ⟨rfl, rfl, rfl⟩ := hw
                  generalize (v_X2_digestNext t16 t21.toInt64) = t22
                  refine lv_lstore (lv' := [(4, .long t22), (6, .int ub), (0, .ref (ad 0)), (1, .long b1), (3, .ref (ad (18 + j2)))]) hx hb dX2_digestDate_109 hl (by decide) rfl (fun ls hl => ?_)
                  refine lv_iinc (v := ub + 1) (lv' := [(6, .int (ub + 1)), (4, .long t22), (0, .ref (ad 0)), (1, .long b1), (3, .ref (ad (18 + j2)))]) hx hb dX2_digestDate_111 hl (k := 1) rfl rfl (by decide) rfl (fun ls hl => ?_)
                  refine lv_goto (tgt := 35) hx hb dX2_digestDate_114 (by decide) ?_
                  exact ih3 (ub + 1) t22 sp9 t18.2 H locs (fu_le c4 hn3) (inc_nn hzub c4) (hksp3) (e18) B ls (lv_sub hl [0, 1, 2, 3, 4] rfl)
        exact loop3 (((4 : Int32).toInt - (0 : Int32).toInt).toNat + 1) 0 da sp9 dy9 H locs (Nat.lt_succ_self _) (by decide) (hksp1) (hkdy1) B ls hl
      · refine lv_lload hx hb dX2_digestDate_12 (lv_at hl 1 rfl) ?_
        refine lv_aload_n hx hb dX2_digestDate_14 rfl (lv_at hl 4 rfl) ?_
        refine lv_iload hx hb dX2_digestDate_15 (lv_at hl 0 rfl) ?_
        refine k_i (k := 0) (n := 0) hA B (u_VN (rest := [.long da]) X (c_X0_number l g N ad x sp9 dy9 la kn re hN j2 hj2 ua H.size) mw_X0_number md_X0_number rfl lk_X2_171 ⟨Nat.le_of_ble_eq_true rfl, Nat.le_of_ble_eq_true rfl⟩ hA hK hT B (pl_dy hN hj2) (cf_dy hj2) rfl rfl hl.1 rfl (Nat.le_of_ble_eq_true rfl) dX2_digestDate_17 ⟨Nat.le_of_ble_eq_true rfl, Nat.le_of_ble_eq_true rfl⟩) (Nat.le_of_ble_eq_true rfl) (Nat.le_of_ble_eq_true rfl) (fun r ad' f' H locs hw B => ?_)
        obtain ⟨rfl, rfl, rfl⟩ := hw
        generalize (v_X0_number dy9 j2 ua) = t23
        refine lv_i2l (v := t23.toInt64) hx hb dX2_digestDate_20 rfl ?_
        refine k_l (k := 0) (n := 0) hA B (u_S (rest := []) X (c_X2_digestNext l g N ad x sp9 dy9 la kn re hN da t23.toInt64 H.size) mw_X2_digestNext md_X2_digestNext rfl lk_X2_213 ⟨Nat.le_of_ble_eq_true rfl, Nat.le_of_ble_eq_true rfl⟩ hA hK hT B hl.1 rfl (Nat.le_of_ble_eq_true rfl) dX2_digestDate_21 ⟨Nat.le_of_ble_eq_true rfl, Nat.le_of_ble_eq_true rfl⟩) (Nat.le_of_ble_eq_true rfl) (Nat.le_of_ble_eq_true rfl) (fun r ad' f' H locs hw B => ?_)
        obtain ⟨rfl, rfl, rfl⟩ := hw
        generalize (v_X2_digestNext da t23.toInt64) = t24
        refine lv_lstore (lv' := [(4, .long t24), (6, .int ua), (0, .ref (ad 0)), (1, .long b1), (3, .ref (ad (18 + j2)))]) hx hb dX2_digestDate_24 hl (by decide) rfl (fun ls hl => ?_)
        refine lv_iinc (v := ua + 1) (lv' := [(6, .int (ua + 1)), (4, .long t24), (0, .ref (ad 0)), (1, .long b1), (3, .ref (ad (18 + j2)))]) hx hb dX2_digestDate_26 hl (k := 1) rfl rfl (by decide) rfl (fun ls hl => ?_)
        refine lv_goto (tgt := 6) hx hb dX2_digestDate_29 (by decide) ?_
        exact ih1 (ua + 1) t24 sp9 dy9 H locs (fu_le c2 hn1) (inc_nn hzua c2) (hksp1) (hkdy1) B ls (lv_sub hl [0, 1, 2, 3, 4] rfl)
  exact loop1 (((4 : Int32).toInt - (0 : Int32).toInt).toNat + 1) 0 b1 sp dy H locs (Nat.lt_succ_self _) (by decide) (fun _ _ => rfl) (fun _ _ => rfl) B ls hl
set_option maxHeartbeats 4000000 in
set_option maxRecDepth 100000 in
theorem c_X2_digestPairsOfDates (l : Launch) (g : GG) (N : Nat) (ad : Nat → Nat) (x : Nat → va_E) (sp dy : Nat → TR) (la kn re : Int32) (hN : 23 ≤ N) (b1 : Int64) : KL l yX2_digestPairsOfDates cX2_digestPairsOfDates 7 (rm 5 0 0) g [.ref (ad 0), .long b1] N ad (cf g ad x sp dy la kn re) N (fun r ad' f' => ad = ad' ∧ ∃ sp' dy' : Nat → TR, (∀ j, j < 12 → sp' j = sp j) ∧ (∀ j, j < 4 → dy' j = dy j) ∧ cf g ad x sp' dy' la kn re = f') := by
  intro sz
  refine mt_start (by decide) (Nat.le_of_ble_eq_true rfl) ?_
  intro p e s m args below meth c hsz X hr hnam hA hK hT H locs B ls hl
  obtain ⟨hx, hb, hml, hown, hts, hlocks⟩ := id X
  have hl : lv_has ls 7 [(0, .ref (ad 0)), (1, .long b1)] := hl
  refine lv_lload_n hx hb dX2_digestPairsOfDates_0 rfl (lv_at hl 1 rfl) ?_
  refine lv_lstore_n (lv' := [(3, .long b1), (0, .ref (ad 0)), (1, .long b1)]) hx hb dX2_digestPairsOfDates_1 rfl hl (by decide) rfl (fun ls hl => ?_)
  refine lv_iconst (v := 0) hx hb dX2_digestPairsOfDates_2 (by decide) ?_
  refine lv_istore (lv' := [(5, .int 0), (3, .long b1), (0, .ref (ad 0)), (1, .long b1)]) hx hb dX2_digestPairsOfDates_3 hl (by decide) rfl (fun ls hl => ?_)
  have loop1 : ∀ (n1 : Nat) (ua : Int32) (da : Int64) (sp9 : Nat → TR) (dy9 : Nat → TR) (H : Heap) (locs : List Loc), ((4 : Int32).toInt - ua.toInt).toNat < n1 → ¬ ua < 0 → (∀ j, j < 12 → sp9 j = sp j) → (∀ j, j < 4 → dy9 j = dy j) → WB g (aw N ad sz) s.heap N ad (cf g ad x sp9 dy9 la kn re) H locs → ∀ ls : Array Slot, lv_has ls 7 [(5, .int ua), (3, .long da), (0, .ref (ad 0)), (1, .long b1)] → W p l e (rm 5 0 0) s m args below meth c H locs 0 0 (MQ below (va_Ql (fun r (u : WS) => (fun r ad' f' => ad = ad' ∧ ∃ sp' dy' : Nat → TR, (∀ j, j < 12 → sp' j = sp j) ∧ (∀ j, j < 4 → dy' j = dy j) ∧ cf g ad x sp' dy' la kn re = f') r u.1 u.2) (fun u t => PO g N u.1 u.2 (aw N ad sz) t) (aw N ad sz)) args s (rm 5 0 0).cells (rm 5 0 0).slots (aw N ad sz)) (F0 m 5 ls []) := by
    intro n1
    induction n1 with
    | zero => intro ua da sp9 dy9 H locs hn; exact absurd hn (Nat.not_lt_zero _)
    | succ n1 ih1 =>
      intro ua da sp9 dy9 H locs hn1 hzua hksp1 hkdy1 B ls hl
      refine lv_iload hx hb dX2_digestPairsOfDates_5 (lv_at hl 0 rfl) ?_
      refine lv_iconst (v := 4) hx hb dX2_digestPairsOfDates_7 (by decide) ?_
      refine lv_icmp_ge (tgt := 86) hx hb dX2_digestPairsOfDates_8 (by decide) (fun c2 => ?_) (fun c2 => ?_)
      · refine lv_lload_n hx hb dX2_digestPairsOfDates_86 rfl (lv_at hl 1 rfl) ?_
        exact rt_l X hr (ad, (cf g ad x sp9 dy9 la kn re)) B (PO_of B) ⟨rfl, _, _, hksp1, hkdy1, rfl⟩ (Nat.le_of_ble_eq_true rfl) (Nat.le_of_ble_eq_true rfl) dX2_digestPairsOfDates_87
      · refine lv_iconst (v := 0) hx hb dX2_digestPairsOfDates_11 (by decide) ?_
        refine lv_istore (lv' := [(6, .int 0), (5, .int ua), (3, .long da), (0, .ref (ad 0)), (1, .long b1)]) hx hb dX2_digestPairsOfDates_12 hl (by decide) rfl (fun ls hl => ?_)
        have loop3 : ∀ (n3 : Nat) (ub : Int32) (db : Int64) (sp9 : Nat → TR) (dy9 : Nat → TR) (H : Heap) (locs : List Loc), ((4 : Int32).toInt - ub.toInt).toNat < n3 → ¬ ub < 0 → (∀ j, j < 12 → sp9 j = sp j) → (∀ j, j < 4 → dy9 j = dy j) → WB g (aw N ad sz) s.heap N ad (cf g ad x sp9 dy9 la kn re) H locs → ∀ ls : Array Slot, lv_has ls 7 [(6, .int ub), (5, .int ua), (3, .long db), (0, .ref (ad 0)), (1, .long b1)] → W p l e (rm 5 0 0) s m args below meth c H locs 0 0 (MQ below (va_Ql (fun r (u : WS) => (fun r ad' f' => ad = ad' ∧ ∃ sp' dy' : Nat → TR, (∀ j, j < 12 → sp' j = sp j) ∧ (∀ j, j < 4 → dy' j = dy j) ∧ cf g ad x sp' dy' la kn re = f') r u.1 u.2) (fun u t => PO g N u.1 u.2 (aw N ad sz) t) (aw N ad sz)) args s (rm 5 0 0).cells (rm 5 0 0).slots (aw N ad sz)) (F0 m 14 ls []) := by
          intro n3
          induction n3 with
          | zero => intro ub db sp9 dy9 H locs hn; exact absurd hn (Nat.not_lt_zero _)
          | succ n3 ih3 =>
            intro ub db sp9 dy9 H locs hn3 hzub hksp3 hkdy3 B ls hl
            refine lv_iload hx hb dX2_digestPairsOfDates_14 (lv_at hl 0 rfl) ?_
            refine lv_iconst (v := 4) hx hb dX2_digestPairsOfDates_16 (by decide) ?_
            refine lv_icmp_ge (tgt := 80) hx hb dX2_digestPairsOfDates_17 (by decide) (fun c4 => ?_) (fun c4 => ?_)
            · refine lv_iinc (v := ua + 1) (lv' := [(5, .int (ua + 1)), (6, .int ub), (3, .long db), (0, .ref (ad 0)), (1, .long b1)]) hx hb dX2_digestPairsOfDates_80 hl (k := 1) rfl rfl (by decide) rfl (fun ls hl => ?_)
              refine lv_goto (tgt := 5) hx hb dX2_digestPairsOfDates_83 (by decide) ?_
              exact ih1 (ua + 1) db sp9 dy9 H locs (fu_le c2 hn1) (inc_nn hzua c2) (hksp3) (hkdy3) B ls (lv_sub hl [0, 2, 3, 4] rfl)
            · refine lv_lload_n hx hb dX2_digestPairsOfDates_20 rfl (lv_at hl 2 rfl) ?_
              refine lv_aload_n hx hb dX2_digestPairsOfDates_21 rfl (lv_at hl 3 rfl) ?_
              refine g_get (q := 0) (k := 2) X hK B rfl in_X2 (pl_c hN 0 (by decide)) cf_0 (by decide) lk_X2_20 rfl rfl dX2_digestPairsOfDates_22 ?_
              refine lv_iload hx hb dX2_digestPairsOfDates_25 (lv_at hl 1 rfl) ?_
              refine g_aald (q := 3) (t0 := 4) X hK B (pl_c hN 3 (by decide)) cf_3 rfl rfl (ix_in (n := 4) hzua c2 rfl) dX2_digestPairsOfDates_27 ?_
              have h5 : ua.toNatClampNeg < 5 := by have := (ix_lt (n := 4) hzua c2 rfl); omega
              refine lv_aload_n hx hb dX2_digestPairsOfDates_28 rfl (lv_at hl 3 rfl) ?_
              refine g_get (q := 0) (k := 2) X hK B rfl in_X2 (pl_c hN 0 (by decide)) cf_0 (by decide) lk_X2_20 rfl rfl dX2_digestPairsOfDates_29 ?_
              refine lv_iload hx hb dX2_digestPairsOfDates_32 (lv_at hl 0 rfl) ?_
              refine g_aald (q := 3) (t0 := 4) X hK B (pl_c hN 3 (by decide)) cf_3 rfl rfl (ix_in (n := 4) hzub c4 rfl) dX2_digestPairsOfDates_34 ?_
              have h6 : ub.toNatClampNeg < 5 := by have := (ix_lt (n := 4) hzub c4 rfl); omega
              refine k_i (k := 0) (n := 0) hA B (u_VN (rest := [.long db]) X (c_X0_orderTo l g N ad x sp9 dy9 la kn re hN ua.toNatClampNeg h5 ub.toNatClampNeg h6 H.size) mw_X0_orderTo md_X0_orderTo rfl lk_X2_181 ⟨Nat.le_of_ble_eq_true rfl, Nat.le_of_ble_eq_true rfl⟩ hA hK hT B (pl_dy hN h5) (cf_dy h5) rfl rfl hl.1 rfl (Nat.le_of_ble_eq_true rfl) dX2_digestPairsOfDates_35 ⟨Nat.le_of_ble_eq_true rfl, Nat.le_of_ble_eq_true rfl⟩) (Nat.le_of_ble_eq_true rfl) (Nat.le_of_ble_eq_true rfl) (fun r ad' f' H locs hw B => ?_)
              obtain ⟨rfl, rfl, rfl⟩ := hw
              generalize (v_X0_orderTo dy9 ua.toNatClampNeg ub.toNatClampNeg) = t7
              refine lv_i2l (v := t7.toInt64) hx hb dX2_digestPairsOfDates_38 rfl ?_
              refine k_l (k := 0) (n := 0) hA B (u_S (rest := []) X (c_X2_digestNext l g N ad x sp9 dy9 la kn re hN db t7.toInt64 H.size) mw_X2_digestNext md_X2_digestNext rfl lk_X2_213 ⟨Nat.le_of_ble_eq_true rfl, Nat.le_of_ble_eq_true rfl⟩ hA hK hT B hl.1 rfl (Nat.le_of_ble_eq_true rfl) dX2_digestPairsOfDates_39 ⟨Nat.le_of_ble_eq_true rfl, Nat.le_of_ble_eq_true rfl⟩) (Nat.le_of_ble_eq_true rfl) (Nat.le_of_ble_eq_true rfl) (fun r ad' f' H locs hw B => ?_)
              obtain ⟨rfl, rfl, rfl⟩ := hw
              generalize (v_X2_digestNext db t7.toInt64) = t8
              refine lv_lstore_n (lv' := [(3, .long t8), (6, .int ub), (5, .int ua), (0, .ref (ad 0)), (1, .long b1)]) hx hb dX2_digestPairsOfDates_42 rfl hl (by decide) rfl (fun ls hl => ?_)
              refine lv_lload_n hx hb dX2_digestPairsOfDates_43 rfl (lv_at hl 0 rfl) ?_
              refine lv_aload_n hx hb dX2_digestPairsOfDates_44 rfl (lv_at hl 3 rfl) ?_
              refine lv_aload_n hx hb dX2_digestPairsOfDates_45 rfl (lv_at hl 3 rfl) ?_
              refine g_get (q := 0) (k := 6) X hK B rfl in_X2 (pl_c hN 0 (by decide)) cf_0 (by decide) lk_X2_25 rfl rfl dX2_digestPairsOfDates_46 ?_
              refine lv_aload_n hx hb dX2_digestPairsOfDates_49 rfl (lv_at hl 3 rfl) ?_
              refine g_get (q := 0) (k := 2) X hK B rfl in_X2 (pl_c hN 0 (by decide)) cf_0 (by decide) lk_X2_20 rfl rfl dX2_digestPairsOfDates_50 ?_
              refine lv_iload hx hb dX2_digestPairsOfDates_53 (lv_at hl 2 rfl) ?_
              refine g_aald (q := 3) (t0 := 4) X hK B (pl_c hN 3 (by decide)) cf_3 rfl rfl (ix_in (n := 4) hzua c2 rfl) dX2_digestPairsOfDates_55 ?_
              have h9 : ua.toNatClampNeg < 5 := by have := (ix_lt (n := 4) hzua c2 rfl); omega
              refine lv_aload_n hx hb dX2_digestPairsOfDates_56 rfl (lv_at hl 3 rfl) ?_
              refine g_get (q := 0) (k := 2) X hK B rfl in_X2 (pl_c hN 0 (by decide)) cf_0 (by decide) lk_X2_20 rfl rfl dX2_digestPairsOfDates_57 ?_
              refine lv_iload hx hb dX2_digestPairsOfDates_60 (lv_at hl 1 rfl) ?_
              refine g_aald (q := 3) (t0 := 4) X hK B (pl_c hN 3 (by decide)) cf_3 rfl rfl (ix_in (n := 4) hzub c4 rfl) dX2_digestPairsOfDates_62 ?_
              have h10 : ub.toNatClampNeg < 5 := by have := (ix_lt (n := 4) hzub c4 rfl); omega
              refine k_i (k := 0) (n := 0) hA B (u_VN (rest := [.ref (ad 0), .long t8]) X (c_X1_putBetween l g N ad x sp9 dy9 la kn re hN 12 (by decide) ua.toNatClampNeg h9 ub.toNatClampNeg h10 H.size) mw_X1_putBetween md_X1_putBetween rfl lk_X2_173 ⟨Nat.le_of_ble_eq_true rfl, Nat.le_of_ble_eq_true rfl⟩ hA hK hT B (pl_sp hN (by decide)) (cf_sp (by decide)) rfl rfl hl.1 rfl (Nat.le_of_ble_eq_true rfl) dX2_digestPairsOfDates_63 ⟨Nat.le_of_ble_eq_true rfl, Nat.le_of_ble_eq_true rfl⟩) (Nat.le_of_ble_eq_true rfl) (Nat.le_of_ble_eq_true rfl) (fun r ad' f' H locs hw B => ?_)
              obtain ⟨rfl, rfl, rfl⟩ := hw
              have k11 : ∀ j, j < 12 → (v_X1_putBetween sp9 dy9 12 ua.toNatClampNeg ub.toNatClampNeg).2 j = sp j := fun j hj => (kp_X1_putBetween_sp (by omega)).trans (hksp3 j hj)
              generalize (v_X1_putBetween sp9 dy9 12 ua.toNatClampNeg ub.toNatClampNeg) = t11 at k11 B ⊢
              refine k_i (k := 0) (n := 0) hA B (u_V (rest := [.long t8]) X (c_X2_resultSigns l g N ad x t11.2 dy9 la kn re hN t11.1 H.size) mw_X2_resultSigns md_X2_resultSigns rfl lk_X2_253 ⟨Nat.le_of_ble_eq_true rfl, Nat.le_of_ble_eq_true rfl⟩ hA hK hT B (pl_c hN 0 (by decide)) cf_0 rfl rfl hl.1 rfl (Nat.le_of_ble_eq_true rfl) dX2_digestPairsOfDates_66 ⟨Nat.le_of_ble_eq_true rfl, Nat.le_of_ble_eq_true rfl⟩) (Nat.le_of_ble_eq_true rfl) (Nat.le_of_ble_eq_true rfl) (fun r ad' f' H locs hw B => ?_)
              obtain ⟨rfl, rfl, rfl⟩ := hw
              generalize (v_X2_resultSigns t11.2 t11.1) = t12
              refine lv_i2l (v := t12.toInt64) hx hb dX2_digestPairsOfDates_69 rfl ?_
              refine k_l (k := 0) (n := 0) hA B (u_S (rest := []) X (c_X2_digestNext l g N ad x t11.2 dy9 la kn re hN t8 t12.toInt64 H.size) mw_X2_digestNext md_X2_digestNext rfl lk_X2_213 ⟨Nat.le_of_ble_eq_true rfl, Nat.le_of_ble_eq_true rfl⟩ hA hK hT B hl.1 rfl (Nat.le_of_ble_eq_true rfl) dX2_digestPairsOfDates_70 ⟨Nat.le_of_ble_eq_true rfl, Nat.le_of_ble_eq_true rfl⟩) (Nat.le_of_ble_eq_true rfl) (Nat.le_of_ble_eq_true rfl) (fun r ad' f' H locs hw B => ?_)
              obtain ⟨rfl, rfl, rfl⟩ := hw
              generalize (v_X2_digestNext t8 t12.toInt64) = t13
              refine lv_lstore_n (lv' := [(3, .long t13), (6, .int ub), (5, .int ua), (0, .ref (ad 0)), (1, .long b1)]) hx hb dX2_digestPairsOfDates_73 rfl hl (by decide) rfl (fun ls hl => ?_)
              refine lv_iinc (v := ub + 1) (lv' := [(6, .int (ub + 1)), (3, .long t13), (5, .int ua), (0, .ref (ad 0)), (1, .long b1)]) hx hb dX2_digestPairsOfDates_74 hl (k := 1) rfl rfl (by decide) rfl (fun ls hl => ?_)
              refine lv_goto (tgt := 14) hx hb dX2_digestPairsOfDates_77 (by decide) ?_
              exact ih3 (ub + 1) t13 t11.2 dy9 H locs (fu_le c4 hn3) (inc_nn hzub c4) (k11) (hkdy3) B ls (lv_sub hl [0, 2, 1, 3, 4] rfl)
        exact loop3 (((4 : Int32).toInt - (0 : Int32).toInt).toNat + 1) 0 da sp9 dy9 H locs (Nat.lt_succ_self _) (by decide) (hksp1) (hkdy1) B ls hl
  exact loop1 (((4 : Int32).toInt - (0 : Int32).toInt).toNat + 1) 0 b1 sp dy H locs (Nat.lt_succ_self _) (by decide) (fun _ _ => rfl) (fun _ _ => rfl) B ls hl
set_option maxHeartbeats 4000000 in
set_option maxRecDepth 100000 in
theorem c_X2_digest (l : Launch) (g : GG) (N : Nat) (ad : Nat → Nat) (x : Nat → va_E) (sp dy : Nat → TR) (la kn re : Int32) (hN : 23 ≤ N) (hla : ¬ la < 0) (hlb : ¬ 8 < la) : KL l yX2_digest cX2_digest 4 (rm 6 0 0) g [.ref (ad 0)] N ad (cf g ad x sp dy la kn re) N (fun r ad' f' => ad = ad' ∧ ∃ sp' dy' : Nat → TR, (∀ j, j < 12 → sp' j = sp j) ∧ (∀ j, j < 4 → dy' j = dy j) ∧ cf g ad x sp' dy' la kn re = f') := by
  intro sz
  refine mt_start (by decide) (Nat.le_of_ble_eq_true rfl) ?_
  intro p e s m args below meth c hsz X hr hnam hA hK hT H locs B ls hl
  obtain ⟨hx, hb, hml, hown, hts, hlocks⟩ := id X
  have hl : lv_has ls 4 [(0, .ref (ad 0))] := hl
  refine lv_ldc2 hx hb hown (hts _ (List.mem_cons_of_mem _ lk_X2_200)) dX2_digest_0 ?_
  refine lv_lstore_n (lv' := [(1, .long 6217), (0, .ref (ad 0))]) hx hb dX2_digest_3 rfl hl (by decide) rfl (fun ls hl => ?_)
  refine lv_iconst (v := 0) hx hb dX2_digest_4 (by decide) ?_
  refine lv_istore_n (lv' := [(3, .int 0), (1, .long 6217), (0, .ref (ad 0))]) hx hb dX2_digest_5 rfl hl (by decide) rfl (fun ls hl => ?_)
  have loop1 : ∀ (n1 : Nat) (ua : Int32) (da : Int64) (sp9 : Nat → TR) (dy9 : Nat → TR) (H : Heap) (locs : List Loc), ((4 : Int32).toInt - ua.toInt).toNat < n1 → ¬ ua < 0 → (∀ j, j < 12 → sp9 j = sp j) → (∀ j, j < 4 → dy9 j = dy j) → WB g (aw N ad sz) s.heap N ad (cf g ad x sp9 dy9 la kn re) H locs → ∀ ls : Array Slot, lv_has ls 4 [(3, .int ua), (1, .long da), (0, .ref (ad 0))] → W p l e (rm 6 0 0) s m args below meth c H locs 0 0 (MQ below (va_Ql (fun r (u : WS) => (fun r ad' f' => ad = ad' ∧ ∃ sp' dy' : Nat → TR, (∀ j, j < 12 → sp' j = sp j) ∧ (∀ j, j < 4 → dy' j = dy j) ∧ cf g ad x sp' dy' la kn re = f') r u.1 u.2) (fun u t => PO g N u.1 u.2 (aw N ad sz) t) (aw N ad sz)) args s (rm 6 0 0).cells (rm 6 0 0).slots (aw N ad sz)) (F0 m 6 ls []) := by
    intro n1
    induction n1 with
    | zero => intro ua da sp9 dy9 H locs hn; exact absurd hn (Nat.not_lt_zero _)
    | succ n1 ih1 =>
      intro ua da sp9 dy9 H locs hn1 hzua hksp1 hkdy1 B ls hl
      refine lv_iload_n hx hb dX2_digest_6 rfl (lv_at hl 0 rfl) ?_
      refine lv_iconst (v := 4) hx hb dX2_digest_7 (by decide) ?_
      refine lv_icmp_ge (tgt := 29) hx hb dX2_digest_8 (by decide) (fun c2 => ?_) (fun c2 => ?_)
      · refine lv_aload_n hx hb dX2_digest_29 rfl (lv_at hl 2 rfl) ?_
        refine lv_lload_n hx hb dX2_digest_30 rfl (lv_at hl 1 rfl) ?_
        refine k_l (k := 0) (n := 0) hA B (u_V (rest := []) X (c_X2_digestPairsOfCards l g N ad x sp9 dy9 la kn re hN da H.size) mw_X2_digestPairsOfCards md_X2_digestPairsOfCards rfl lk_X2_206 ⟨Nat.le_of_ble_eq_true rfl, Nat.le_of_ble_eq_true rfl⟩ hA hK hT B (pl_c hN 0 (by decide)) cf_0 rfl rfl hl.1 rfl (Nat.le_of_ble_eq_true rfl) dX2_digest_31 ⟨Nat.le_of_ble_eq_true rfl, Nat.le_of_ble_eq_true rfl⟩) (Nat.le_of_ble_eq_true rfl) (Nat.le_of_ble_eq_true rfl) (fun r3 ad' f' H locs hw B => ?_)
        obtain ⟨rfl, sp3, dy3, k3, e3, rfl⟩ := hw
        have k3 : ∀ j, j < 12 → sp3 j = sp j := fun j hj => (k3 j hj).trans (hksp1 j hj)
        have e3 : ∀ j, j < 4 → dy3 j = dy j := fun j hj => (e3 j hj).trans (hkdy1 j hj)
        refine lv_lstore_n (lv' := [(1, .long r3), (3, .int ua), (0, .ref (ad 0))]) hx hb dX2_digest_34 rfl hl (by decide) rfl (fun ls hl => ?_)
        refine lv_iconst (v := 0) hx hb dX2_digest_35 (by decide) ?_
        refine lv_istore_n (lv' := [(3, .int 0), (1, .long r3), (0, .ref (ad 0))]) hx hb dX2_digest_36 rfl hl (by decide) rfl (fun ls hl => ?_)
        have loop4 : ∀ (n4 : Nat) (uc : Int32) (dc : Int64) (sp9 : Nat → TR) (dy9 : Nat → TR) (H : Heap) (locs : List Loc), ((8 : Int32).toInt - uc.toInt).toNat < n4 → ¬ uc < 0 → (∀ j, j < 12 → sp9 j = sp j) → (∀ j, j < 4 → dy9 j = dy j) → WB g (aw N ad sz) s.heap N ad (cf g ad x sp9 dy9 la kn re) H locs → ∀ ls : Array Slot, lv_has ls 4 [(3, .int uc), (1, .long dc), (0, .ref (ad 0))] → W p l e (rm 6 0 0) s m args below meth c H locs 0 0 (MQ below (va_Ql (fun r (u : WS) => (fun r ad' f' => ad = ad' ∧ ∃ sp' dy' : Nat → TR, (∀ j, j < 12 → sp' j = sp j) ∧ (∀ j, j < 4 → dy' j = dy j) ∧ cf g ad x sp' dy' la kn re = f') r u.1 u.2) (fun u t => PO g N u.1 u.2 (aw N ad sz) t) (aw N ad sz)) args s (rm 6 0 0).cells (rm 6 0 0).slots (aw N ad sz)) (F0 m 37 ls []) := by
          intro n4
          induction n4 with
          | zero => intro uc dc sp9 dy9 H locs hn; exact absurd hn (Nat.not_lt_zero _)
          | succ n4 ih4 =>
            intro uc dc sp9 dy9 H locs hn4 hzuc hksp4 hkdy4 B ls hl
            refine lv_iload_n hx hb dX2_digest_37 rfl (lv_at hl 0 rfl) ?_
            refine lv_bipush (v := 8) hx hb dX2_digest_38 (by decide) ?_
            refine lv_icmp_ge (tgt := 76) hx hb dX2_digest_40 (by decide) (fun c5 => ?_) (fun c5 => ?_)
            · refine lv_iconst (v := 0) hx hb dX2_digest_76 (by decide) ?_
              refine lv_istore_n (lv' := [(3, .int 0), (1, .long dc), (0, .ref (ad 0))]) hx hb dX2_digest_77 rfl hl (by decide) rfl (fun ls hl => ?_)
              have loop6 : ∀ (n6 : Nat) (ud : Int32) (dd : Int64) (sp9 : Nat → TR) (dy9 : Nat → TR) (H : Heap) (locs : List Loc), ((4 : Int32).toInt - ud.toInt).toNat < n6 → ¬ ud < 0 → (∀ j, j < 12 → sp9 j = sp j) → (∀ j, j < 4 → dy9 j = dy j) → WB g (aw N ad sz) s.heap N ad (cf g ad x sp9 dy9 la kn re) H locs → ∀ ls : Array Slot, lv_has ls 4 [(3, .int ud), (1, .long dd), (0, .ref (ad 0))] → W p l e (rm 6 0 0) s m args below meth c H locs 0 0 (MQ below (va_Ql (fun r (u : WS) => (fun r ad' f' => ad = ad' ∧ ∃ sp' dy' : Nat → TR, (∀ j, j < 12 → sp' j = sp j) ∧ (∀ j, j < 4 → dy' j = dy j) ∧ cf g ad x sp' dy' la kn re = f') r u.1 u.2) (fun u t => PO g N u.1 u.2 (aw N ad sz) t) (aw N ad sz)) args s (rm 6 0 0).cells (rm 6 0 0).slots (aw N ad sz)) (F0 m 78 ls []) := by
                intro n6
                induction n6 with
                | zero => intro ud dd sp9 dy9 H locs hn; exact absurd hn (Nat.not_lt_zero _)
                | succ n6 ih6 =>
                  intro ud dd sp9 dy9 H locs hn6 hzud hksp6 hkdy6 B ls hl
                  refine lv_iload_n hx hb dX2_digest_78 rfl (lv_at hl 0 rfl) ?_
                  refine lv_iconst (v := 4) hx hb dX2_digest_79 (by decide) ?_
                  refine lv_icmp_ge (tgt := 101) hx hb dX2_digest_80 (by decide) (fun c7 => ?_) (fun c7 => ?_)
                  · refine lv_aload_n hx hb dX2_digest_101 rfl (lv_at hl 2 rfl) ?_
                    refine lv_lload_n hx hb dX2_digest_102 rfl (lv_at hl 1 rfl) ?_
                    refine k_l (k := 0) (n := 0) hA B (u_V (rest := []) X (c_X2_digestPairsOfDates l g N ad x sp9 dy9 la kn re hN dd H.size) mw_X2_digestPairsOfDates md_X2_digestPairsOfDates rfl lk_X2_221 ⟨Nat.le_of_ble_eq_true rfl, Nat.le_of_ble_eq_true rfl⟩ hA hK hT B (pl_c hN 0 (by decide)) cf_0 rfl rfl hl.1 rfl (Nat.le_of_ble_eq_true rfl) dX2_digest_103 ⟨Nat.le_of_ble_eq_true rfl, Nat.le_of_ble_eq_true rfl⟩) (Nat.le_of_ble_eq_true rfl) (Nat.le_of_ble_eq_true rfl) (fun r8 ad' f' H locs hw B => ?_)
                    obtain ⟨rfl, sp8, dy8, k8, e8, rfl⟩ := hw
                    have k8 : ∀ j, j < 12 → sp8 j = sp j := fun j hj => (k8 j hj).trans (hksp6 j hj)
                    have e8 : ∀ j, j < 4 → dy8 j = dy j := fun j hj => (e8 j hj).trans (hkdy6 j hj)
                    refine lv_lstore_n (lv' := [(1, .long r8), (3, .int ud), (0, .ref (ad 0))]) hx hb dX2_digest_106 rfl hl (by decide) rfl (fun ls hl => ?_)
                    refine lv_iconst (v := 0) hx hb dX2_digest_107 (by decide) ?_
                    refine lv_istore_n (lv' := [(3, .int 0), (1, .long r8), (0, .ref (ad 0))]) hx hb dX2_digest_108 rfl hl (by decide) rfl (fun ls hl => ?_)
                    have loop9 : ∀ (n9 : Nat) (ue : Int32) (de : Int64) (sp9 : Nat → TR) (dy9 : Nat → TR) (H : Heap) (locs : List Loc), ((5 : Int32).toInt - ue.toInt).toNat < n9 → ¬ ue < 0 → (∀ j, j < 12 → sp9 j = sp j) → (∀ j, j < 4 → dy9 j = dy j) → WB g (aw N ad sz) s.heap N ad (cf g ad x sp9 dy9 la kn re) H locs → ∀ ls : Array Slot, lv_has ls 4 [(3, .int ue), (1, .long de), (0, .ref (ad 0))] → W p l e (rm 6 0 0) s m args below meth c H locs 0 0 (MQ below (va_Ql (fun r (u : WS) => (fun r ad' f' => ad = ad' ∧ ∃ sp' dy' : Nat → TR, (∀ j, j < 12 → sp' j = sp j) ∧ (∀ j, j < 4 → dy' j = dy j) ∧ cf g ad x sp' dy' la kn re = f') r u.1 u.2) (fun u t => PO g N u.1 u.2 (aw N ad sz) t) (aw N ad sz)) args s (rm 6 0 0).cells (rm 6 0 0).slots (aw N ad sz)) (F0 m 109 ls []) := by
                      intro n9
                      induction n9 with
                      | zero => intro ue de sp9 dy9 H locs hn; exact absurd hn (Nat.not_lt_zero _)
                      | succ n9 ih9 =>
                        intro ue de sp9 dy9 H locs hn9 hzue hksp9 hkdy9 B ls hl
                        refine lv_iload_n hx hb dX2_digest_109 rfl (lv_at hl 0 rfl) ?_
                        refine lv_iconst (v := 5) hx hb dX2_digest_110 (by decide) ?_
                        refine lv_icmp_ge (tgt := 131) hx hb dX2_digest_111 (by decide) (fun c10 => ?_) (fun c10 => ?_)
                        · refine lv_lload_n hx hb dX2_digest_131 rfl (lv_at hl 1 rfl) ?_
                          refine lv_aload_n hx hb dX2_digest_132 rfl (lv_at hl 2 rfl) ?_
                          refine k_i (k := 0) (n := 0) hA B (u_V (rest := [.long de]) X (c_X2_isSound l g N ad x sp9 dy9 la kn re hN H.size) mw_X2_isSound md_X2_isSound rfl lk_X2_224 ⟨Nat.le_of_ble_eq_true rfl, Nat.le_of_ble_eq_true rfl⟩ hA hK hT B (pl_c hN 0 (by decide)) cf_0 rfl rfl hl.1 rfl (Nat.le_of_ble_eq_true rfl) dX2_digest_133 ⟨Nat.le_of_ble_eq_true rfl, Nat.le_of_ble_eq_true rfl⟩) (Nat.le_of_ble_eq_true rfl) (Nat.le_of_ble_eq_true rfl) (fun r11 ad' f' H locs hw B => ?_)
                          obtain ⟨rfl, sp11, dy11, k11, e11, rfl⟩ := hw
                          have k11 : ∀ j, j < 12 → sp11 j = sp j := fun j hj => (k11 j hj).trans (hksp9 j hj)
                          have e11 : ∀ j, j < 4 → dy11 j = dy j := fun j hj => (e11 j hj).trans (hkdy9 j hj)
                          refine lv_if_eq (tgt := 143) hx hb dX2_digest_136 (by decide) (fun c12 => ?_) (fun c12 => ?_)
                          · refine lv_lconst (v := 0) hx hb dX2_digest_143 (by decide) ?_
                            refine k_l (k := 0) (n := 0) hA B (u_S (rest := []) X (c_X2_digestNext l g N ad x sp11 dy11 la kn re hN de 0 H.size) mw_X2_digestNext md_X2_digestNext rfl lk_X2_213 ⟨Nat.le_of_ble_eq_true rfl, Nat.le_of_ble_eq_true rfl⟩ hA hK hT B hl.1 rfl (Nat.le_of_ble_eq_true rfl) dX2_digest_144 ⟨Nat.le_of_ble_eq_true rfl, Nat.le_of_ble_eq_true rfl⟩) (Nat.le_of_ble_eq_true rfl) (Nat.le_of_ble_eq_true rfl) (fun r ad' f' H locs hw B => ?_)
                            obtain ⟨rfl, rfl, rfl⟩ := hw
                            generalize (v_X2_digestNext de 0) = t13
                            exact rt_l X hr (ad, (cf g ad x sp11 dy11 la kn re)) B (PO_of B) ⟨rfl, _, _, k11, e11, rfl⟩ (Nat.le_of_ble_eq_true rfl) (Nat.le_of_ble_eq_true rfl) dX2_digest_147
                          · refine lv_lconst (v := 1) hx hb dX2_digest_139 (by decide) ?_
                            refine lv_goto (tgt := 144) hx hb dX2_digest_140 (by decide) ?_
                            refine k_l (k := 0) (n := 0) hA B (u_S (rest := []) X (c_X2_digestNext l g N ad x sp11 dy11 la kn re hN de 1 H.size) mw_X2_digestNext md_X2_digestNext rfl lk_X2_213 ⟨Nat.le_of_ble_eq_true rfl, Nat.le_of_ble_eq_true rfl⟩ hA hK hT B hl.1 rfl (Nat.le_of_ble_eq_true rfl) dX2_digest_144 ⟨Nat.le_of_ble_eq_true rfl, Nat.le_of_ble_eq_true rfl⟩) (Nat.le_of_ble_eq_true rfl) (Nat.le_of_ble_eq_true rfl) (fun r ad' f' H locs hw B => ?_)
                            obtain ⟨rfl, rfl, rfl⟩ := hw
                            generalize (v_X2_digestNext de 1) = t14
                            exact rt_l X hr (ad, (cf g ad x sp11 dy11 la kn re)) B (PO_of B) ⟨rfl, _, _, k11, e11, rfl⟩ (Nat.le_of_ble_eq_true rfl) (Nat.le_of_ble_eq_true rfl) dX2_digest_147
                        · refine lv_lload_n hx hb dX2_digest_114 rfl (lv_at hl 1 rfl) ?_
                          refine lv_aload_n hx hb dX2_digest_115 rfl (lv_at hl 2 rfl) ?_
                          refine lv_iload_n hx hb dX2_digest_116 rfl (lv_at hl 0 rfl) ?_
                          refine k_i (k := 0) (n := 0) hA B (u_V (rest := [.long de]) X (c_X2_ofHouse l g N ad x sp9 dy9 la kn re hN ue H.size) mw_X2_ofHouse md_X2_ofHouse rfl lk_X2_188 ⟨Nat.le_of_ble_eq_true rfl, Nat.le_of_ble_eq_true rfl⟩ hA hK hT B (pl_c hN 0 (by decide)) cf_0 rfl rfl hl.1 rfl (Nat.le_of_ble_eq_true rfl) dX2_digest_117 ⟨Nat.le_of_ble_eq_true rfl, Nat.le_of_ble_eq_true rfl⟩) (Nat.le_of_ble_eq_true rfl) (Nat.le_of_ble_eq_true rfl) (fun r ad' f' H locs hw B => ?_)
                          obtain ⟨rfl, rfl, rfl⟩ := hw
                          generalize (v_X2_ofHouse sp9 la kn re ue) = t15
                          refine lv_i2l (v := t15.toInt64) hx hb dX2_digest_120 rfl ?_
                          refine k_l (k := 0) (n := 0) hA B (u_S (rest := []) X (c_X2_digestNext l g N ad x sp9 dy9 la kn re hN de t15.toInt64 H.size) mw_X2_digestNext md_X2_digestNext rfl lk_X2_213 ⟨Nat.le_of_ble_eq_true rfl, Nat.le_of_ble_eq_true rfl⟩ hA hK hT B hl.1 rfl (Nat.le_of_ble_eq_true rfl) dX2_digest_121 ⟨Nat.le_of_ble_eq_true rfl, Nat.le_of_ble_eq_true rfl⟩) (Nat.le_of_ble_eq_true rfl) (Nat.le_of_ble_eq_true rfl) (fun r ad' f' H locs hw B => ?_)
                          obtain ⟨rfl, rfl, rfl⟩ := hw
                          generalize (v_X2_digestNext de t15.toInt64) = t16
                          refine lv_lstore_n (lv' := [(1, .long t16), (3, .int ue), (0, .ref (ad 0))]) hx hb dX2_digest_124 rfl hl (by decide) rfl (fun ls hl => ?_)
                          refine lv_iinc (v := ue + 1) (lv' := [(3, .int (ue + 1)), (1, .long t16), (0, .ref (ad 0))]) hx hb dX2_digest_125 hl (k := 1) rfl rfl (by decide) rfl (fun ls hl => ?_)
                          refine lv_goto (tgt := 109) hx hb dX2_digest_128 (by decide) ?_
                          exact ih9 (ue + 1) t16 sp9 dy9 H locs (fu_le c10 hn9) (inc_nn hzue c10) (hksp9) (hkdy9) B ls (lv_sub hl [0, 1, 2] rfl)
                    exact loop9 (((5 : Int32).toInt - (0 : Int32).toInt).toNat + 1) 0 r8 sp8 dy8 H locs (Nat.lt_succ_self _) (by decide) (k8) (e8) B ls hl
                  · refine lv_aload_n hx hb dX2_digest_83 rfl (lv_at hl 2 rfl) ?_
                    refine lv_lload_n hx hb dX2_digest_84 rfl (lv_at hl 1 rfl) ?_
                    refine lv_aload_n hx hb dX2_digest_85 rfl (lv_at hl 2 rfl) ?_
                    refine g_get (q := 0) (k := 2) X hK B rfl in_X2 (pl_c hN 0 (by decide)) cf_0 (by decide) lk_X2_20 rfl rfl dX2_digest_86 ?_
                    refine lv_iload_n hx hb dX2_digest_89 rfl (lv_at hl 0 rfl) ?_
                    refine g_aald (q := 3) (t0 := 4) X hK B (pl_c hN 3 (by decide)) cf_3 rfl rfl (ix_in (n := 4) hzud c7 rfl) dX2_digest_90 ?_
                    have h17 : ud.toNatClampNeg < 5 := by have := (ix_lt (n := 4) hzud c7 rfl); omega
                    refine k_l (k := 0) (n := 0) hA B (u_V (rest := []) X (c_X2_digestDate l g N ad x sp9 dy9 la kn re hN dd ud.toNatClampNeg h17 H.size) mw_X2_digestDate md_X2_digestDate rfl lk_X2_217 ⟨Nat.le_of_ble_eq_true rfl, Nat.le_of_ble_eq_true rfl⟩ hA hK hT B (pl_c hN 0 (by decide)) cf_0 rfl rfl hl.1 rfl (Nat.le_of_ble_eq_true rfl) dX2_digest_91 ⟨Nat.le_of_ble_eq_true rfl, Nat.le_of_ble_eq_true rfl⟩) (Nat.le_of_ble_eq_true rfl) (Nat.le_of_ble_eq_true rfl) (fun r18 ad' f' H locs hw B => ?_)
                    obtain ⟨rfl, sp18, dy18, k18, e18, rfl⟩ := hw
                    have k18 : ∀ j, j < 12 → sp18 j = sp j := fun j hj => (k18 j hj).trans (hksp6 j hj)
                    have e18 : ∀ j, j < 4 → dy18 j = dy j := fun j hj => (e18 j hj).trans (hkdy6 j hj)
                    refine lv_lstore_n (lv' := [(1, .long r18), (3, .int ud), (0, .ref (ad 0))]) hx hb dX2_digest_94 rfl hl (by decide) rfl (fun ls hl => ?_)
                    refine lv_iinc (v := ud + 1) (lv' := [(3, .int (ud + 1)), (1, .long r18), (0, .ref (ad 0))]) hx hb dX2_digest_95 hl (k := 1) rfl rfl (by decide) rfl (fun ls hl => ?_)
                    refine lv_goto (tgt := 78) hx hb dX2_digest_98 (by decide) ?_
                    exact ih6 (ud + 1) r18 sp18 dy18 H locs (fu_le c7 hn6) (inc_nn hzud c7) (k18) (e18) B ls (lv_sub hl [0, 1, 2] rfl)
              exact loop6 (((4 : Int32).toInt - (0 : Int32).toInt).toNat + 1) 0 dc sp9 dy9 H locs (Nat.lt_succ_self _) (by decide) (hksp4) (hkdy4) B ls hl
            · refine lv_lload_n hx hb dX2_digest_43 rfl (lv_at hl 1 rfl) ?_
              refine lv_iload_n hx hb dX2_digest_44 rfl (lv_at hl 0 rfl) ?_
              refine lv_aload_n hx hb dX2_digest_45 rfl (lv_at hl 2 rfl) ?_
              refine g_get (q := 0) (k := 3) X hK B rfl in_X2 (pl_c hN 0 (by decide)) cf_0 (by decide) lk_X2_91 rfl rfl dX2_digest_46 ?_
              refine lv_icmp_ge (tgt := 65) hx hb dX2_digest_49 (by decide) (fun c19 => ?_) (fun c19 => ?_)
              · refine lv_lconst (v := 0) hx hb dX2_digest_65 (by decide) ?_
                refine k_l (k := 0) (n := 0) hA B (u_S (rest := []) X (c_X2_digestNext l g N ad x sp9 dy9 la kn re hN dc 0 H.size) mw_X2_digestNext md_X2_digestNext rfl lk_X2_213 ⟨Nat.le_of_ble_eq_true rfl, Nat.le_of_ble_eq_true rfl⟩ hA hK hT B hl.1 rfl (Nat.le_of_ble_eq_true rfl) dX2_digest_66 ⟨Nat.le_of_ble_eq_true rfl, Nat.le_of_ble_eq_true rfl⟩) (Nat.le_of_ble_eq_true rfl) (Nat.le_of_ble_eq_true rfl) (fun r ad' f' H locs hw B => ?_)
                obtain ⟨rfl, rfl, rfl⟩ := hw
                generalize (v_X2_digestNext dc 0) = t20
                refine lv_lstore_n (lv' := [(1, .long t20), (3, .int uc), (0, .ref (ad 0))]) hx hb dX2_digest_69 rfl hl (by decide) rfl (fun ls hl => ?_)
                refine lv_iinc (v := uc + 1) (lv' := [(3, .int (uc + 1)), (1, .long t20), (0, .ref (ad 0))]) hx hb dX2_digest_70 hl (k := 1) rfl rfl (by decide) rfl (fun ls hl => ?_)
                refine lv_goto (tgt := 37) hx hb dX2_digest_73 (by decide) ?_
                exact ih4 (uc + 1) t20 sp9 dy9 H locs (fu_le c5 hn4) (inc_nn hzuc c5) (hksp4) (hkdy4) B ls (lv_sub hl [0, 1, 2] rfl)
              · refine lv_aload_n hx hb dX2_digest_52 rfl (lv_at hl 2 rfl) ?_
                refine g_get (q := 0) (k := 1) X hK B rfl in_X2 (pl_c hN 0 (by decide)) cf_0 (by decide) lk_X2_15 rfl rfl dX2_digest_53 ?_
                refine lv_iload_n hx hb dX2_digest_56 rfl (lv_at hl 0 rfl) ?_
                refine g_aald (q := 2) (t0 := 3) X hK B (pl_c hN 2 (by decide)) cf_2 rfl rfl (ix_in (n := 8) hzuc c5 rfl) dX2_digest_57 ?_
                have h21 : 4 + uc.toNatClampNeg < 14 := by have := (ix_lt (n := 8) hzuc c5 rfl); omega
                rw [show va_rf (some (ad (8 + uc.toNatClampNeg))) = Value.ref (ad (4 + (4 + uc.toNatClampNeg))) from by rw [← Nat.add_assoc]; rfl]
                refine k_i (k := 0) (n := 0) hA B (u_VN (rest := [.long dc]) X (c_X1_signs l g N ad x sp9 dy9 la kn re hN (4 + uc.toNatClampNeg) h21 H.size) mw_X1_signs md_X1_signs rfl lk_X2_210 ⟨Nat.le_of_ble_eq_true rfl, Nat.le_of_ble_eq_true rfl⟩ hA hK hT B (pl_sp hN h21) (cf_sp h21) rfl rfl hl.1 rfl (Nat.le_of_ble_eq_true rfl) dX2_digest_58 ⟨Nat.le_of_ble_eq_true rfl, Nat.le_of_ble_eq_true rfl⟩) (Nat.le_of_ble_eq_true rfl) (Nat.le_of_ble_eq_true rfl) (fun r ad' f' H locs hw B => ?_)
                obtain ⟨rfl, rfl, rfl⟩ := hw
                generalize (v_X1_signs sp9 (4 + uc.toNatClampNeg)) = t22
                refine lv_i2l (v := t22.toInt64) hx hb dX2_digest_61 rfl ?_
                refine lv_goto (tgt := 66) hx hb dX2_digest_62 (by decide) ?_
                refine k_l (k := 0) (n := 0) hA B (u_S (rest := []) X (c_X2_digestNext l g N ad x sp9 dy9 la kn re hN dc t22.toInt64 H.size) mw_X2_digestNext md_X2_digestNext rfl lk_X2_213 ⟨Nat.le_of_ble_eq_true rfl, Nat.le_of_ble_eq_true rfl⟩ hA hK hT B hl.1 rfl (Nat.le_of_ble_eq_true rfl) dX2_digest_66 ⟨Nat.le_of_ble_eq_true rfl, Nat.le_of_ble_eq_true rfl⟩) (Nat.le_of_ble_eq_true rfl) (Nat.le_of_ble_eq_true rfl) (fun r ad' f' H locs hw B => ?_)
                obtain ⟨rfl, rfl, rfl⟩ := hw
                generalize (v_X2_digestNext dc t22.toInt64) = t23
                refine lv_lstore_n (lv' := [(1, .long t23), (3, .int uc), (0, .ref (ad 0))]) hx hb dX2_digest_69 rfl hl (by decide) rfl (fun ls hl => ?_)
                refine lv_iinc (v := uc + 1) (lv' := [(3, .int (uc + 1)), (1, .long t23), (0, .ref (ad 0))]) hx hb dX2_digest_70 hl (k := 1) rfl rfl (by decide) rfl (fun ls hl => ?_)
                refine lv_goto (tgt := 37) hx hb dX2_digest_73 (by decide) ?_
                exact ih4 (uc + 1) t23 sp9 dy9 H locs (fu_le c5 hn4) (inc_nn hzuc c5) (hksp4) (hkdy4) B ls (lv_sub hl [0, 1, 2] rfl)
        exact loop4 (((8 : Int32).toInt - (0 : Int32).toInt).toNat + 1) 0 r3 sp3 dy3 H locs (Nat.lt_succ_self _) (by decide) (k3) (e3) B ls hl
      · refine lv_aload_n hx hb dX2_digest_11 rfl (lv_at hl 2 rfl) ?_
        refine lv_lload_n hx hb dX2_digest_12 rfl (lv_at hl 1 rfl) ?_
        refine lv_aload_n hx hb dX2_digest_13 rfl (lv_at hl 2 rfl) ?_
        refine g_get (q := 0) (k := 0) X hK B rfl in_X2 (pl_c hN 0 (by decide)) cf_0 (by decide) lk_X2_11 rfl rfl dX2_digest_14 ?_
        refine lv_iload_n hx hb dX2_digest_17 rfl (lv_at hl 0 rfl) ?_
        refine g_aald (q := 1) (t0 := 3) X hK B (pl_c hN 1 (by decide)) cf_1 rfl rfl (ix_in (n := 4) hzua c2 rfl) dX2_digest_18 ?_
        have h24 : ua.toNatClampNeg < 14 := by have := (ix_lt (n := 4) hzua c2 rfl); omega
        refine k_l (k := 0) (n := 0) hA B (u_V (rest := []) X (c_X2_digestCard l g N ad x sp9 dy9 la kn re hN da ua.toNatClampNeg h24 H.size) mw_X2_digestCard md_X2_digestCard rfl lk_X2_202 ⟨Nat.le_of_ble_eq_true rfl, Nat.le_of_ble_eq_true rfl⟩ hA hK hT B (pl_c hN 0 (by decide)) cf_0 rfl rfl hl.1 rfl (Nat.le_of_ble_eq_true rfl) dX2_digest_19 ⟨Nat.le_of_ble_eq_true rfl, Nat.le_of_ble_eq_true rfl⟩) (Nat.le_of_ble_eq_true rfl) (Nat.le_of_ble_eq_true rfl) (fun r25 ad' f' H locs hw B => ?_)
        obtain ⟨rfl, sp25, dy25, k25, e25, rfl⟩ := hw
        have k25 : ∀ j, j < 12 → sp25 j = sp j := fun j hj => (k25 j hj).trans (hksp1 j hj)
        have e25 : ∀ j, j < 4 → dy25 j = dy j := fun j hj => (e25 j hj).trans (hkdy1 j hj)
        refine lv_lstore_n (lv' := [(1, .long r25), (3, .int ua), (0, .ref (ad 0))]) hx hb dX2_digest_22 rfl hl (by decide) rfl (fun ls hl => ?_)
        refine lv_iinc (v := ua + 1) (lv' := [(3, .int (ua + 1)), (1, .long r25), (0, .ref (ad 0))]) hx hb dX2_digest_23 hl (k := 1) rfl rfl (by decide) rfl (fun ls hl => ?_)
        refine lv_goto (tgt := 6) hx hb dX2_digest_26 (by decide) ?_
        exact ih1 (ua + 1) r25 sp25 dy25 H locs (fu_le c2 hn1) (inc_nn hzua c2) (k25) (e25) B ls (lv_sub hl [0, 1, 2] rfl)
  exact loop1 (((4 : Int32).toInt - (0 : Int32).toInt).toNat + 1) 0 6217 sp dy H locs (Nat.lt_succ_self _) (by decide) (fun _ _ => rfl) (fun _ _ => rfl) B ls hl
end
section
/-! the reference's rows: an int[3] at a place -/
def rw3 (t : TR) : Nat → Int32 := fun k => if k = 0 then t.1 else if k = 1 then t.2.1 else if k = 2 then t.2.2 else 0
abbrev c_row (g : GG) (t : TR) : va_E := .inl (g.2.1 0, 3, .inl (rw3 t))
theorem rw3_0 : (fun _ => 0 : Nat → Int32) = rw3 (0, 0, 0) := by
  funext k
  simp [rw3]
theorem rw3_s0 (t : TR) (x : Int32) : upd (rw3 t) 0 x = rw3 (x, t.2.1, t.2.2) := by
  funext k
  by_cases h : k = 0
  · subst h; simp [upd, rw3]
  · simp [upd, rw3, h]
theorem rw3_s1 (t : TR) (x : Int32) : upd (rw3 t) 1 x = rw3 (t.1, x, t.2.2) := by
  funext k
  by_cases h : k = 1
  · subst h; simp [upd, rw3]
  · simp [upd, rw3, h]
theorem rw3_s2 (t : TR) (x : Int32) : upd (rw3 t) 2 x = rw3 (t.1, t.2.1, x) := by
  funext k
  by_cases h : k = 2
  · subst h; simp [upd, rw3]
  · simp [upd, rw3, h]
theorem up_lt {α : Type} {f : Nat → α} {n k : Nat} {e : α} (h : k < n) : va_up f n e k = f k := va_up_ne _ _ (Nat.ne_of_lt h)
theorem up_eq {α : Type} {f : Nat → α} {n : Nat} {e : α} : va_up f n e n = e := va_up_self _ _ _
/-- one more place, if there is a row -/
def nz (v : Option TR) : Nat := match v with | none => 0 | some _ => 1
def om {α : Type} (v : Option TR) (a : α) (k : TR → α) : α := match v with | none => a | some t => k t
theorem om_none {α : Type} {v : Option TR} {a : α} {k : TR → α} (h : v = none) : om v a k = a := by rw [h]; rfl
theorem om_some {α : Type} {v : Option TR} {a : α} {k : TR → α} {t : TR} (h : v = some t) : om v a k = k t := by rw [h]; rfl
/-- what comes back: nothing, or a new row in the next place -/
def pw (g : GG) (v : Option TR) (N : Nat) (ad : Nat → Nat) (f : Nat → va_E) (r : Option Nat) (ad' : Nat → Nat) (f' : Nat → va_E) : Prop :=
  (v = none ∧ none = r ∧ ad = ad' ∧ f = f') ∨ ∃ (t : TR) (a : Nat), v = some t ∧ some a = r ∧ va_up ad N a = ad' ∧ va_up f N (c_row g t) = f'
theorem pw_n {g : GG} {N : Nat} {ad : Nat → Nat} {f : Nat → va_E} {r : Option Nat} {ad' : Nat → Nat} {f' : Nat → va_E} (h : pw g none N ad f r ad' f') : none = r ∧ ad = ad' ∧ f = f' := by
  rcases h with h | ⟨t, a, h, -⟩
  · exact h.2
  · exact (nomatch h)
theorem pw_s {g : GG} {t : TR} {N : Nat} {ad : Nat → Nat} {f : Nat → va_E} {r : Option Nat} {ad' : Nat → Nat} {f' : Nat → va_E} (h : pw g (some t) N ad f r ad' f') : ∃ a : Nat, some a = r ∧ va_up ad N a = ad' ∧ va_up f N (c_row g t) = f' := by
  rcases h with h | ⟨t2, a, h, h2⟩
  · exact (nomatch h.1)
  · cases h
    exact ⟨a, h2⟩
theorem pw_in {g : GG} {N : Nat} {ad : Nat → Nat} {f : Nat → va_E} : pw g none N ad f none ad f := Or.inl ⟨rfl, rfl, rfl, rfl⟩
theorem pw_is {g : GG} {t : TR} {N a : Nat} {ad : Nat → Nat} {f : Nat → va_E} : pw g (some t) N ad f (some a) (va_up ad N a) (va_up f N (c_row g t)) := Or.inr ⟨t, a, rfl, rfl, rfl, rfl⟩
theorem WB_pick {g : GG} {A : Nat → Prop} {H0 H : Heap} {N M q b : Nat} {ad ad' : Nat → Nat} {f f' : Nat → va_E} {e : va_E} {locs : List Loc} (B : WB g A H0 M ad' f' H locs) (hNq : N ≤ q) (hq : q < M) (h1 : ∀ k, k < N → ad' k = ad k) (h2 : ∀ k, k < N → f' k = f k) (hb : ad' q = b) (hf : f' q = e) : WB g A H0 (N + 1) (va_up ad N b) (va_up f N e) H locs := by
  obtain ⟨hP, hD, hS⟩ := B
  subst hb hf
  have hP := wd_P.mp hP
  obtain ⟨hi, hA⟩ := wd_D.mp hD
  refine ⟨wd_P.mpr fun k hk => ?_, wd_D.mpr ⟨fun i j hi1 hj1 e => ?_, fun k hk => ?_⟩, hS⟩
  · by_cases h : k = N
    · subst h
      rw [up_eq, up_eq]
      exact hP q hq
    · have hk' : k < N := by omega
      rw [up_lt hk', up_lt hk', ← h1 k hk', ← h2 k hk']
      exact hP k (by omega)
  · by_cases h : i = N <;> by_cases h' : j = N
    · omega
    · have hj' : j < N := by omega
      rw [h, up_eq, up_lt hj', ← h1 j hj'] at e
      have := hi q j hq (by omega) e
      omega
    · have hi' : i < N := by omega
      rw [h', up_eq, up_lt hi', ← h1 i hi'] at e
      have := hi i q (by omega) hq e
      omega
    · have hi' : i < N := by omega
      have hj' : j < N := by omega
      rw [up_lt hi', up_lt hj', ← h1 i hi', ← h1 j hj'] at e
      exact hi i j (by omega) (by omega) e
  · by_cases h : k = N
    · rw [h, up_eq]
      exact hA q hq
    · have hk' : k < N := by omega
      rw [up_lt hk', ← h1 k hk']
      exact hA k (by omega)
section RR
variable {p : Program} {l : Launch} {e : Env} {R : Room} {s : State} {m : MethodId} {args : Array Value} {below : List Frame} {meth : Method} {c : Code} {H : Heap} {locs : List Loc} {cells slots : Nat} {Q : State → Prop}
variable {cc : ByteArray} {nL : Nat} {own : String} {cw : Cond} {pc : Nat} {ls : Array Slot} {rest st0 : List Value} {g : GG} {A : Nat → Prop} {H0 : Heap} {N : Nat} {ad : Nat → Nat} {f : Nat → va_E}
theorem h_ld {q b : Nat} {t : TR} {i : Int32} (X : CX p s m args meth c cc nL own cw) (hK : KK g s) (B : WB g A s.heap N ad f H locs) (hq : q < N) (hb : ad q = b) (hf : f q = c_row g t) (hi : vp_in i 3) (hdg : decode cc pc = .ok (.iaload, 1))
    (kk : W p l e R s m args below meth c H locs cells slots Q (F0 m (pc + 1) ls (.int (rw3 t i.toNatClampNeg) :: rest))) : W p l e R s m args below meth c H locs cells slots Q (F0 m pc ls (.int i :: .ref b :: rest)) := by
  subst hb
  exact g_iald (t0 := 0) X hK B hq hf rfl hi hdg kk
theorem h_ld0 {q b : Nat} {t : TR} (X : CX p s m args meth c cc nL own cw) (hK : KK g s) (B : WB g A s.heap N ad f H locs) (hq : q < N) (hb : ad q = b) (hf : f q = c_row g t) (hdg : decode cc pc = .ok (.iaload, 1))
    (kk : W p l e R s m args below meth c H locs cells slots Q (F0 m (pc + 1) ls (.int t.1 :: rest))) : W p l e R s m args below meth c H locs cells slots Q (F0 m pc ls (.int 0 :: .ref b :: rest)) := h_ld X hK B hq hb hf (by unfold vp_in; decide) hdg kk
theorem h_ld1 {q b : Nat} {t : TR} (X : CX p s m args meth c cc nL own cw) (hK : KK g s) (B : WB g A s.heap N ad f H locs) (hq : q < N) (hb : ad q = b) (hf : f q = c_row g t) (hdg : decode cc pc = .ok (.iaload, 1))
    (kk : W p l e R s m args below meth c H locs cells slots Q (F0 m (pc + 1) ls (.int t.2.1 :: rest))) : W p l e R s m args below meth c H locs cells slots Q (F0 m pc ls (.int 1 :: .ref b :: rest)) := h_ld X hK B hq hb hf (by unfold vp_in; decide) hdg kk
theorem h_ld2 {q b : Nat} {t : TR} (X : CX p s m args meth c cc nL own cw) (hK : KK g s) (B : WB g A s.heap N ad f H locs) (hq : q < N) (hb : ad q = b) (hf : f q = c_row g t) (hdg : decode cc pc = .ok (.iaload, 1))
    (kk : W p l e R s m args below meth c H locs cells slots Q (F0 m (pc + 1) ls (.int t.2.2 :: rest))) : W p l e R s m args below meth c H locs cells slots Q (F0 m pc ls (.int 2 :: .ref b :: rest)) := h_ld X hK B hq hb hf (by unfold vp_in; decide) hdg kk
theorem h_st {q b : Nat} {t t' : TR} {i x : Int32} (X : CX p s m args meth c cc nL own cw) (hK : KK g s) (B : WB g A s.heap N ad f H locs) (hq : q < N) (hb : ad q = b) (hf : f q = c_row g t) (hi : vp_in i 3) (hu : upd (rw3 t) i.toNatClampNeg x = rw3 t') (hdg : decode cc pc = .ok (.iastore, 1))
    (kk : ∀ (H1 : Heap) (locs1 : List Loc), WB g A s.heap N ad (va_up f q (c_row g t')) H1 locs1 → W p l e R s m args below meth c H1 locs1 cells slots Q (F0 m (pc + 1) ls rest)) : W p l e R s m args below meth c H locs cells slots Q (F0 m pc ls (.int x :: .int i :: .ref b :: rest)) := by
  subst hb
  refine g_iast X hK B hq hf rfl hi hdg fun H1 locs1 B1 => kk H1 locs1 ?_
  rwa [hu] at B1
theorem h_newi {n : Int32} {k cz sz : Nat} (X : CX p s m args meth c cc nL own cw) (hA : ∀ q, s.heap.size ≤ q → A q) (hK : KK g s) (B : WB g A s.heap N ad f H locs) (hn : ¬ n < 0) (hk : n.toNatClampNeg = k) (hk2 : k * 4 ≤ 536870912) (hc : cells + 1 ≤ R.cells) (hs : slots + k ≤ R.slots) (h1 : cells + 1 ≤ cz) (h2 : slots + k ≤ sz) (hdg : decode cc pc = .ok (.newarray .int, 2))
    (kk : ∀ (a : Nat) (H1 : Heap), WB g A s.heap (N + 1) (va_up ad N a) (va_up f N (.inl (g.2.1 0, k, .inl (fun _ => 0)))) H1 locs → W p l e R s m args below meth c H1 locs cz sz Q (F0 m (pc + 2) ls (.ref a :: rest))) : W p l e R s m args below meth c H locs cells slots Q (F0 m pc ls (.int n :: rest)) := by
  have hx := X
  obtain ⟨hx, hb, hml, hown, hts, -⟩ := X
  refine va_newa (atype := .int) (ty := .int) (a0 := (k, .inl (fun _ => 0))) hx hb (hts _ (List.mem_cons_of_mem _ ac_int)) rfl hK B.1 B.2.1 B.2.2 hA (fun _ => rfl) hn hk hk2 hc hs hdg fun a cA H1 hK1 hP hD hS => W.widen h1 h2 ?_
  have e1 := (hK1.2 6 (cA, .int) rfl).2
  have e2 := (hK.2 0 (g.2.1 0, .int) rfl).2
  have e3 : cA = g.2.1 0 := Option.some.inj (e1.symm.trans e2)
  subst e3
  rw [wd_push] at hP hD
  exact kk a H1 ⟨hP, hD, hS⟩
theorem h_new3 {cz sz : Nat} (X : CX p s m args meth c cc nL own cw) (hA : ∀ q, s.heap.size ≤ q → A q) (hK : KK g s) (B : WB g A s.heap N ad f H locs) (hc : cells + 1 ≤ R.cells) (hs : slots + 3 ≤ R.slots) (h1 : cells + 1 ≤ cz) (h2 : slots + 3 ≤ sz) (hdg : decode cc pc = .ok (.newarray .int, 2))
    (kk : ∀ (a : Nat) (H1 : Heap), WB g A s.heap (N + 1) (va_up ad N a) (va_up f N (c_row g (0, 0, 0))) H1 locs → W p l e R s m args below meth c H1 locs cz sz Q (F0 m (pc + 2) ls (.ref a :: rest))) : W p l e R s m args below meth c H locs cells slots Q (F0 m pc ls (.int 3 :: rest)) := by
  refine h_newi (k := 3) X hA hK B (by decide) (by decide) (by decide) hc hs h1 h2 hdg fun a H1 B1 => kk a H1 ?_
  rwa [rw3_0] at B1
end RR
end
section
def v_X4_one (a0 : Int32) : Int32 := if a0 = 0 then 0 else 1
set_option maxHeartbeats 4000000 in
set_option maxRecDepth 100000 in
theorem c_X4_one (l : Launch) (g : GG) (N : Nat) (ad : Nat → Nat) (f : Nat → va_E) (a0 : Int32) : KI l yX4_one cX4_one 1 (some .int) (rm 0 0 0) g [.int a0] N ad f N (fun r ad' f' => ad = ad' ∧ (v_X4_one a0) = r ∧ f = f') := by
  intro sz
  refine mt_start (by decide) (Nat.le_of_ble_eq_true rfl) ?_
  intro p e s m args below meth c hsz X hr hnam hA hK hT H locs B ls hl
  obtain ⟨hx, hb, hml, hown, hts, hlocks⟩ := id X
  have hl : lv_has ls 1 [(0, .int a0)] := hl
  refine lv_iload_n hx hb dX4_one_0 rfl (lv_at hl 0 rfl) ?_
  refine lv_if_eq (tgt := 8) hx hb dX4_one_1 (by decide) (fun c1 => ?_) (fun c1 => ?_)
  · refine lv_iconst (v := 0) hx hb dX4_one_8 (by decide) ?_
    have ev := (show v_X4_one a0 = 0 from by unfold v_X4_one; rw [if_pos c1])
    exact rt_i X hr (ad, f) B (PO_of B) ⟨rfl, ev, rfl⟩ rfl (Nat.le_of_ble_eq_true rfl) (Nat.le_of_ble_eq_true rfl) dX4_one_9
  · refine lv_iconst (v := 1) hx hb dX4_one_4 (by decide) ?_
    refine lv_goto (tgt := 9) hx hb dX4_one_5 (by decide) ?_
    have ev := (show v_X4_one a0 = 1 from by unfold v_X4_one; rw [if_neg c1])
    exact rt_i X hr (ad, f) B (PO_of B) ⟨rfl, ev, rfl⟩ rfl (Nat.le_of_ble_eq_true rfl) (Nat.le_of_ble_eq_true rfl) dX4_one_9
def v_X4_isIn (b0 : Int64) (b1 : Int64) (b2 : Int64) : Int32 := if (lg_cmp b0 b1) < 0 then 0 else (if 0 < (lg_cmp b0 b2) then 0 else 1)
theorem b01_X4_isIn {b0 : Int64} {b1 : Int64} {b2 : Int64} : (v_X4_isIn b0 b1 b2) = 0 ∨ (v_X4_isIn b0 b1 b2) = 1 := by
  unfold v_X4_isIn
  by_cases q1 : (lg_cmp b0 b1) < 0
  · rw [if_pos q1]
    exact Or.inl rfl
  · rw [if_neg q1]
    by_cases q2 : 0 < (lg_cmp b0 b2)
    · rw [if_pos q2]
      exact Or.inl rfl
    · rw [if_neg q2]
      exact Or.inr rfl
set_option maxHeartbeats 4000000 in
set_option maxRecDepth 100000 in
theorem c_X4_isIn (l : Launch) (g : GG) (N : Nat) (ad : Nat → Nat) (f : Nat → va_E) (b0 : Int64) (b1 : Int64) (b2 : Int64) : KI l yX4_isIn cX4_isIn 6 (some .boolean) (rm 0 0 0) g [.long b0, .long b1, .long b2] N ad f N (fun r ad' f' => ad = ad' ∧ (v_X4_isIn b0 b1 b2) = r ∧ f = f') := by
  intro sz
  refine mt_start (by decide) (Nat.le_of_ble_eq_true rfl) ?_
  intro p e s m args below meth c hsz X hr hnam hA hK hT H locs B ls hl
  obtain ⟨hx, hb, hml, hown, hts, hlocks⟩ := id X
  have hl : lv_has ls 6 [(0, .long b0), (2, .long b1), (4, .long b2)] := hl
  refine lv_lload_n hx hb dX4_isIn_0 rfl (lv_at hl 0 rfl) ?_
  refine lv_lload_n hx hb dX4_isIn_1 rfl (lv_at hl 1 rfl) ?_
  refine W.lcmp hx hb dX4_isIn_2 ?_
  refine lv_if_lt (tgt := 17) hx hb dX4_isIn_3 (by decide) (fun c1 => ?_) (fun c1 => ?_)
  · refine lv_iconst (v := 0) hx hb dX4_isIn_17 (by decide) ?_
    have ev := (show v_X4_isIn b0 b1 b2 = 0 from by unfold v_X4_isIn; rw [if_pos c1])
    exact rt_i X hr (ad, f) B (PO_of B) ⟨rfl, ev, rfl⟩ rfl (Nat.le_of_ble_eq_true rfl) (Nat.le_of_ble_eq_true rfl) dX4_isIn_18
  · refine lv_lload_n hx hb dX4_isIn_6 rfl (lv_at hl 0 rfl) ?_
    refine lv_lload hx hb dX4_isIn_7 (lv_at hl 2 rfl) ?_
    refine W.lcmp hx hb dX4_isIn_9 ?_
    refine lv_if_gt (tgt := 17) hx hb dX4_isIn_10 (by decide) (fun c2 => ?_) (fun c2 => ?_)
    · refine lv_iconst (v := 0) hx hb dX4_isIn_17 (by decide) ?_
      have ev := (show v_X4_isIn b0 b1 b2 = 0 from by unfold v_X4_isIn; rw [if_neg c1, if_pos c2])
      exact rt_i X hr (ad, f) B (PO_of B) ⟨rfl, ev, rfl⟩ rfl (Nat.le_of_ble_eq_true rfl) (Nat.le_of_ble_eq_true rfl) dX4_isIn_18
    · refine lv_iconst (v := 1) hx hb dX4_isIn_13 (by decide) ?_
      refine lv_goto (tgt := 18) hx hb dX4_isIn_14 (by decide) ?_
      have ev := (show v_X4_isIn b0 b1 b2 = 1 from by unfold v_X4_isIn; rw [if_neg c1, if_neg c2])
      exact rt_i X hr (ad, f) B (PO_of B) ⟨rfl, ev, rfl⟩ rfl (Nat.le_of_ble_eq_true rfl) (Nat.le_of_ble_eq_true rfl) dX4_isIn_18
def v_X4_isNone (a0 : Int32) : Int32 := if a0 < 0 then 1 else (if a0 < 4 then 0 else 1)
theorem b01_X4_isNone {a0 : Int32} : (v_X4_isNone a0) = 0 ∨ (v_X4_isNone a0) = 1 := by
  unfold v_X4_isNone
  by_cases q1 : a0 < 0
  · rw [if_pos q1]
    exact Or.inr rfl
  · rw [if_neg q1]
    by_cases q2 : a0 < 4
    · rw [if_pos q2]
      exact Or.inl rfl
    · rw [if_neg q2]
      exact Or.inr rfl
set_option maxHeartbeats 4000000 in
set_option maxRecDepth 100000 in
theorem c_X4_isNone (l : Launch) (g : GG) (N : Nat) (ad : Nat → Nat) (f : Nat → va_E) (a0 : Int32) : KI l yX4_isNone cX4_isNone 1 (some .boolean) (rm 0 0 0) g [.int a0] N ad f N (fun r ad' f' => ad = ad' ∧ (v_X4_isNone a0) = r ∧ f = f') := by
  intro sz
  refine mt_start (by decide) (Nat.le_of_ble_eq_true rfl) ?_
  intro p e s m args below meth c hsz X hr hnam hA hK hT H locs B ls hl
  obtain ⟨hx, hb, hml, hown, hts, hlocks⟩ := id X
  have hl : lv_has ls 1 [(0, .int a0)] := hl
  refine lv_iload_n hx hb dX4_isNone_0 rfl (lv_at hl 0 rfl) ?_
  refine lv_if_lt (tgt := 9) hx hb dX4_isNone_1 (by decide) (fun c1 => ?_) (fun c1 => ?_)
  · refine lv_iconst (v := 1) hx hb dX4_isNone_9 (by decide) ?_
    refine lv_goto (tgt := 14) hx hb dX4_isNone_10 (by decide) ?_
    have ev := (show v_X4_isNone a0 = 1 from by unfold v_X4_isNone; rw [if_pos c1])
    exact rt_i X hr (ad, f) B (PO_of B) ⟨rfl, ev, rfl⟩ rfl (Nat.le_of_ble_eq_true rfl) (Nat.le_of_ble_eq_true rfl) dX4_isNone_14
  · refine lv_iload_n hx hb dX4_isNone_4 rfl (lv_at hl 0 rfl) ?_
    refine lv_iconst (v := 4) hx hb dX4_isNone_5 (by decide) ?_
    refine lv_icmp_lt (tgt := 13) hx hb dX4_isNone_6 (by decide) (fun c2 => ?_) (fun c2 => ?_)
    · refine lv_iconst (v := 0) hx hb dX4_isNone_13 (by decide) ?_
      have ev := (show v_X4_isNone a0 = 0 from by unfold v_X4_isNone; rw [if_neg c1, if_pos c2])
      exact rt_i X hr (ad, f) B (PO_of B) ⟨rfl, ev, rfl⟩ rfl (Nat.le_of_ble_eq_true rfl) (Nat.le_of_ble_eq_true rfl) dX4_isNone_14
    · refine lv_iconst (v := 1) hx hb dX4_isNone_9 (by decide) ?_
      refine lv_goto (tgt := 14) hx hb dX4_isNone_10 (by decide) ?_
      have ev := (show v_X4_isNone a0 = 1 from by unfold v_X4_isNone; rw [if_neg c1, if_neg c2])
      exact rt_i X hr (ad, f) B (PO_of B) ⟨rfl, ev, rfl⟩ rfl (Nat.le_of_ble_eq_true rfl) (Nat.le_of_ble_eq_true rfl) dX4_isNone_14
def v_X4_isLong (a0 : Int32) : Int32 := if (a0 - a0 / 4 * 4) = 0 then (if (a0 - a0 / 100 * 100) = 0 then (if (a0 - a0 / 400 * 400) = 0 then 1 else 0) else 1) else 0
theorem b01_X4_isLong {a0 : Int32} : (v_X4_isLong a0) = 0 ∨ (v_X4_isLong a0) = 1 := by
  unfold v_X4_isLong
  by_cases q1 : (a0 - a0 / 4 * 4) = 0
  · rw [if_pos q1]
    by_cases q2 : (a0 - a0 / 100 * 100) = 0
    · rw [if_pos q2]
      by_cases q3 : (a0 - a0 / 400 * 400) = 0
      · rw [if_pos q3]
        exact Or.inr rfl
      · rw [if_neg q3]
        exact Or.inl rfl
    · rw [if_neg q2]
      exact Or.inr rfl
  · rw [if_neg q1]
    exact Or.inl rfl
set_option maxHeartbeats 4000000 in
set_option maxRecDepth 100000 in
theorem c_X4_isLong (l : Launch) (g : GG) (N : Nat) (ad : Nat → Nat) (f : Nat → va_E) (a0 : Int32) : KI l yX4_isLong cX4_isLong 1 (some .boolean) (rm 0 0 0) g [.int a0] N ad f N (fun r ad' f' => ad = ad' ∧ (v_X4_isLong a0) = r ∧ f = f') := by
  intro sz
  refine mt_start (by decide) (Nat.le_of_ble_eq_true rfl) ?_
  intro p e s m args below meth c hsz X hr hnam hA hK hT H locs B ls hl
  obtain ⟨hx, hb, hml, hown, hts, hlocks⟩ := id X
  have hl : lv_has ls 1 [(0, .int a0)] := hl
  refine lv_iload_n hx hb dX4_isLong_0 rfl (lv_at hl 0 rfl) ?_
  refine lv_iconst (v := 4) hx hb dX4_isLong_1 (by decide) ?_
  refine lv_irem hx hb dX4_isLong_2 (by decide) ?_
  refine lv_if_ne (tgt := 25) hx hb dX4_isLong_3 (by decide) (fun c1 => ?_) (fun c1 => ?_)
  · refine lv_iconst (v := 0) hx hb dX4_isLong_25 (by decide) ?_
    have ev := (show v_X4_isLong a0 = 0 from by unfold v_X4_isLong; rw [if_neg c1])
    exact rt_i X hr (ad, f) B (PO_of B) ⟨rfl, ev, rfl⟩ rfl (Nat.le_of_ble_eq_true rfl) (Nat.le_of_ble_eq_true rfl) dX4_isLong_26
  · refine lv_iload_n hx hb dX4_isLong_6 rfl (lv_at hl 0 rfl) ?_
    refine lv_bipush (v := 100) hx hb dX4_isLong_7 (by decide) ?_
    refine lv_irem hx hb dX4_isLong_9 (by decide) ?_
    refine lv_if_ne (tgt := 21) hx hb dX4_isLong_10 (by decide) (fun c2 => ?_) (fun c2 => ?_)
    · refine lv_iconst (v := 1) hx hb dX4_isLong_21 (by decide) ?_
      refine lv_goto (tgt := 26) hx hb dX4_isLong_22 (by decide) ?_
      have ev := (show v_X4_isLong a0 = 1 from by unfold v_X4_isLong; rw [if_pos c1, if_neg c2])
      exact rt_i X hr (ad, f) B (PO_of B) ⟨rfl, ev, rfl⟩ rfl (Nat.le_of_ble_eq_true rfl) (Nat.le_of_ble_eq_true rfl) dX4_isLong_26
    · refine lv_iload_n hx hb dX4_isLong_13 rfl (lv_at hl 0 rfl) ?_
      refine lv_sipush (v := 400) hx hb dX4_isLong_14 (by decide) ?_
      refine lv_irem hx hb dX4_isLong_17 (by decide) ?_
      refine lv_if_ne (tgt := 25) hx hb dX4_isLong_18 (by decide) (fun c3 => ?_) (fun c3 => ?_)
      · refine lv_iconst (v := 0) hx hb dX4_isLong_25 (by decide) ?_
        have ev := (show v_X4_isLong a0 = 0 from by unfold v_X4_isLong; rw [if_pos c1, if_pos c2, if_neg c3])
        exact rt_i X hr (ad, f) B (PO_of B) ⟨rfl, ev, rfl⟩ rfl (Nat.le_of_ble_eq_true rfl) (Nat.le_of_ble_eq_true rfl) dX4_isLong_26
      · refine lv_iconst (v := 1) hx hb dX4_isLong_21 (by decide) ?_
        refine lv_goto (tgt := 26) hx hb dX4_isLong_22 (by decide) ?_
        have ev := (show v_X4_isLong a0 = 1 from by unfold v_X4_isLong; rw [if_pos c1, if_pos c2, if_pos c3])
        exact rt_i X hr (ad, f) B (PO_of B) ⟨rfl, ev, rfl⟩ rfl (Nat.le_of_ble_eq_true rfl) (Nat.le_of_ble_eq_true rfl) dX4_isLong_26
def v_X4_add (b0 : Int64) (b1 : Int64) : Int64 := (b0 * 31) + b1
set_option maxHeartbeats 4000000 in
set_option maxRecDepth 100000 in
theorem c_X4_add (l : Launch) (g : GG) (N : Nat) (ad : Nat → Nat) (f : Nat → va_E) (b0 : Int64) (b1 : Int64) : KL l yX4_add cX4_add 4 (rm 0 0 0) g [.long b0, .long b1] N ad f N (fun r ad' f' => ad = ad' ∧ (v_X4_add b0 b1) = r ∧ f = f') := by
  intro sz
  refine mt_start (by decide) (Nat.le_of_ble_eq_true rfl) ?_
  intro p e s m args below meth c hsz X hr hnam hA hK hT H locs B ls hl
  obtain ⟨hx, hb, hml, hown, hts, hlocks⟩ := id X
  have hl : lv_has ls 4 [(0, .long b0), (2, .long b1)] := hl
  refine lv_lload_n hx hb dX4_add_0 rfl (lv_at hl 0 rfl) ?_
  refine lv_ldc2 hx hb hown (hts _ (List.mem_cons_of_mem _ lk_X4_264)) dX4_add_1 ?_
  refine lv_lmul hx hb dX4_add_4 ?_
  refine lv_lload_n hx hb dX4_add_5 rfl (lv_at hl 1 rfl) ?_
  refine lv_ladd hx hb dX4_add_6 ?_
  have ev := (show v_X4_add b0 b1 = (b0 * 31) + b1 from rfl)
  exact rt_l X hr (ad, f) B (PO_of B) ⟨rfl, ev, rfl⟩ (Nat.le_of_ble_eq_true rfl) (Nat.le_of_ble_eq_true rfl) dX4_add_7
def v_X4_span (b0 : Int64) (b1 : Int64) (b2 : Int64) : Option TR := if (v_X4_isIn b0 (-2147483648) 2147483647) = 0 then none else (if (v_X4_isIn b1 (-2147483648) 2147483647) = 0 then none else (if (v_X4_isIn b2 (-2147483648) 2147483647) = 0 then none else (some (b0.toInt32, b1.toInt32, b2.toInt32))))
set_option maxHeartbeats 4000000 in
set_option maxRecDepth 100000 in
theorem c_X4_span (l : Launch) (g : GG) (N : Nat) (ad : Nat → Nat) (f : Nat → va_E) (b0 : Int64) (b1 : Int64) (b2 : Int64) : KR l yX4_span cX4_span 7 (.array .int) (rm 1 1 3) g [.long b0, .long b1, .long b2] N ad f (N + nz (v_X4_span b0 b1 b2)) (fun r ad' f' => pw g (v_X4_span b0 b1 b2) N ad f r ad' f') := by
  intro sz
  refine mt_start (by decide) (Nat.le_of_ble_eq_true rfl) ?_
  intro p e s m args below meth c hsz X hr hnam hA hK hT H locs B ls hl
  obtain ⟨hx, hb, hml, hown, hts, hlocks⟩ := id X
  have hl : lv_has ls 7 [(0, .long b0), (2, .long b1), (4, .long b2)] := hl
  refine lv_lload_n hx hb dX4_span_0 rfl (lv_at hl 0 rfl) ?_
  refine lv_ldc2 hx hb hown (hts _ (List.mem_cons_of_mem _ lk_X4_33)) dX4_span_1 ?_
  refine lv_ldc2 hx hb hown (hts _ (List.mem_cons_of_mem _ lk_X4_35)) dX4_span_4 ?_
  refine k_i (k := 0) (n := 0) hA B (u_S (rest := []) X (c_X4_isIn l g N ad f b0 (-2147483648) 2147483647 H.size) mw_X4_isIn md_X4_isIn rfl lk_X4_37 ⟨Nat.le_of_ble_eq_true rfl, Nat.le_of_ble_eq_true rfl⟩ hA hK hT B hl.1 rfl (Nat.le_of_ble_eq_true rfl) dX4_span_7 ⟨Nat.le_of_ble_eq_true rfl, Nat.le_of_ble_eq_true rfl⟩) (Nat.le_of_ble_eq_true rfl) (Nat.le_of_ble_eq_true rfl) (fun r ad' f' H locs hw B => ?_)
  obtain ⟨rfl, rfl, rfl⟩ := hw
  refine lv_if_eq (tgt := 44) hx hb dX4_span_10 (by decide) (fun c1 => ?_) (fun c1 => ?_)
  · refine lv_iconst (v := 0) hx hb dX4_span_44 (by decide) ?_
    refine lv_istore (lv' := [(6, .int 0), (0, .long b0), (2, .long b1), (4, .long b2)]) hx hb dX4_span_45 hl (by decide) rfl (fun ls hl => ?_)
    refine lv_iload hx hb dX4_span_47 (lv_at hl 0 rfl) ?_
    refine lv_if_eq (tgt := 74) hx hb dX4_span_49 (by decide) (fun _ => ?_) (fun z => absurd z (by decide))
    refine lv_null hx hb dX4_span_74 ?_
    have ev := (show v_X4_span b0 b1 b2 = none from by unfold v_X4_span; rw [if_pos c1])
    exact rt_r (r := none) rfl X hr (Or.inr ⟨_, rfl⟩) (ad, f) B (by rw [ev]; exact PO_of B) (by rw [ev]; exact pw_in) (Nat.le_of_ble_eq_true rfl) (Nat.le_of_ble_eq_true rfl) dX4_span_75
  · refine lv_lload_n hx hb dX4_span_13 rfl (lv_at hl 1 rfl) ?_
    refine lv_ldc2 hx hb hown (hts _ (List.mem_cons_of_mem _ lk_X4_33)) dX4_span_14 ?_
    refine lv_ldc2 hx hb hown (hts _ (List.mem_cons_of_mem _ lk_X4_35)) dX4_span_17 ?_
    refine k_i (k := 0) (n := 0) hA B (u_S (rest := []) X (c_X4_isIn l g N ad f b1 (-2147483648) 2147483647 H.size) mw_X4_isIn md_X4_isIn rfl lk_X4_37 ⟨Nat.le_of_ble_eq_true rfl, Nat.le_of_ble_eq_true rfl⟩ hA hK hT B hl.1 rfl (Nat.le_of_ble_eq_true rfl) dX4_span_20 ⟨Nat.le_of_ble_eq_true rfl, Nat.le_of_ble_eq_true rfl⟩) (Nat.le_of_ble_eq_true rfl) (Nat.le_of_ble_eq_true rfl) (fun r ad' f' H locs hw B => ?_)
    obtain ⟨rfl, rfl, rfl⟩ := hw
    refine lv_if_eq (tgt := 44) hx hb dX4_span_23 (by decide) (fun c2 => ?_) (fun c2 => ?_)
    · refine lv_iconst (v := 0) hx hb dX4_span_44 (by decide) ?_
      refine lv_istore (lv' := [(6, .int 0), (0, .long b0), (2, .long b1), (4, .long b2)]) hx hb dX4_span_45 hl (by decide) rfl (fun ls hl => ?_)
      refine lv_iload hx hb dX4_span_47 (lv_at hl 0 rfl) ?_
      refine lv_if_eq (tgt := 74) hx hb dX4_span_49 (by decide) (fun _ => ?_) (fun z => absurd z (by decide))
      refine lv_null hx hb dX4_span_74 ?_
      have ev := (show v_X4_span b0 b1 b2 = none from by unfold v_X4_span; rw [if_neg c1, if_pos c2])
      exact rt_r (r := none) rfl X hr (Or.inr ⟨_, rfl⟩) (ad, f) B (by rw [ev]; exact PO_of B) (by rw [ev]; exact pw_in) (Nat.le_of_ble_eq_true rfl) (Nat.le_of_ble_eq_true rfl) dX4_span_75
    · refine lv_lload hx hb dX4_span_26 (lv_at hl 2 rfl) ?_
      refine lv_ldc2 hx hb hown (hts _ (List.mem_cons_of_mem _ lk_X4_33)) dX4_span_28 ?_
      refine lv_ldc2 hx hb hown (hts _ (List.mem_cons_of_mem _ lk_X4_35)) dX4_span_31 ?_
      refine k_i (k := 0) (n := 0) hA B (u_S (rest := []) X (c_X4_isIn l g N ad f b2 (-2147483648) 2147483647 H.size) mw_X4_isIn md_X4_isIn rfl lk_X4_37 ⟨Nat.le_of_ble_eq_true rfl, Nat.le_of_ble_eq_true rfl⟩ hA hK hT B hl.1 rfl (Nat.le_of_ble_eq_true rfl) dX4_span_34 ⟨Nat.le_of_ble_eq_true rfl, Nat.le_of_ble_eq_true rfl⟩) (Nat.le_of_ble_eq_true rfl) (Nat.le_of_ble_eq_true rfl) (fun r ad' f' H locs hw B => ?_)
      obtain ⟨rfl, rfl, rfl⟩ := hw
      refine lv_if_eq (tgt := 44) hx hb dX4_span_37 (by decide) (fun c3 => ?_) (fun c3 => ?_)
      · refine lv_iconst (v := 0) hx hb dX4_span_44 (by decide) ?_
        refine lv_istore (lv' := [(6, .int 0), (0, .long b0), (2, .long b1), (4, .long b2)]) hx hb dX4_span_45 hl (by decide) rfl (fun ls hl => ?_)
        refine lv_iload hx hb dX4_span_47 (lv_at hl 0 rfl) ?_
        refine lv_if_eq (tgt := 74) hx hb dX4_span_49 (by decide) (fun _ => ?_) (fun z => absurd z (by decide))
        refine lv_null hx hb dX4_span_74 ?_
        have ev := (show v_X4_span b0 b1 b2 = none from by unfold v_X4_span; rw [if_neg c1, if_neg c2, if_pos c3])
        exact rt_r (r := none) rfl X hr (Or.inr ⟨_, rfl⟩) (ad, f) B (by rw [ev]; exact PO_of B) (by rw [ev]; exact pw_in) (Nat.le_of_ble_eq_true rfl) (Nat.le_of_ble_eq_true rfl) dX4_span_75
      · refine lv_iconst (v := 1) hx hb dX4_span_40 (by decide) ?_
        refine lv_goto (tgt := 45) hx hb dX4_span_41 (by decide) ?_
        refine lv_istore (lv' := [(6, .int 1), (0, .long b0), (2, .long b1), (4, .long b2)]) hx hb dX4_span_45 hl (by decide) rfl (fun ls hl => ?_)
        refine lv_iload hx hb dX4_span_47 (lv_at hl 0 rfl) ?_
        refine lv_if_eq (tgt := 74) hx hb dX4_span_49 (by decide) (fun z => absurd z (by decide)) (fun _ => ?_)
        refine lv_iconst (v := 3) hx hb dX4_span_52 (by decide) ?_
        refine h_new3 (cz := 1) (sz := 3) X hA hK B (Nat.le_of_ble_eq_true rfl) (Nat.le_of_ble_eq_true rfl) (Nat.le_of_ble_eq_true rfl) (Nat.le_of_ble_eq_true rfl) dX4_span_53 (fun z4 H B => ?_)
        refine lv_dup hx hb dX4_span_55 rfl ?_
        refine lv_iconst (v := 0) hx hb dX4_span_56 (by decide) ?_
        refine lv_lload_n hx hb dX4_span_57 rfl (lv_at hl 1 rfl) ?_
        refine lv_l2i (v := b0.toInt32) hx hb dX4_span_58 rfl ?_
        refine h_st (t := (0, 0, 0)) (t' := (b0.toInt32, 0, 0)) X hK B (Nat.lt_succ_self _) up_eq up_eq (by unfold vp_in; decide) (rw3_s0 _ _) dX4_span_59 (fun H locs B => ?_)
        rw [bx_uu] at B
        refine lv_dup hx hb dX4_span_60 rfl ?_
        refine lv_iconst (v := 1) hx hb dX4_span_61 (by decide) ?_
        refine lv_lload_n hx hb dX4_span_62 rfl (lv_at hl 2 rfl) ?_
        refine lv_l2i (v := b1.toInt32) hx hb dX4_span_63 rfl ?_
        refine h_st (t := (b0.toInt32, 0, 0)) (t' := (b0.toInt32, b1.toInt32, 0)) X hK B (Nat.lt_succ_self _) up_eq up_eq (by unfold vp_in; decide) (rw3_s1 _ _) dX4_span_64 (fun H locs B => ?_)
        rw [bx_uu] at B
        refine lv_dup hx hb dX4_span_65 rfl ?_
        refine lv_iconst (v := 2) hx hb dX4_span_66 (by decide) ?_
        refine lv_lload hx hb dX4_span_67 (lv_at hl 3 rfl) ?_
        refine lv_l2i (v := b2.toInt32) hx hb dX4_span_69 rfl ?_
        refine h_st (t := (b0.toInt32, b1.toInt32, 0)) (t' := (b0.toInt32, b1.toInt32, b2.toInt32)) X hK B (Nat.lt_succ_self _) up_eq up_eq (by unfold vp_in; decide) (rw3_s2 _ _) dX4_span_70 (fun H locs B => ?_)
        rw [bx_uu] at B
        refine lv_goto (tgt := 75) hx hb dX4_span_71 (by decide) ?_
        have ev := (show v_X4_span b0 b1 b2 = some (b0.toInt32, b1.toInt32, b2.toInt32) from by unfold v_X4_span; rw [if_neg c1, if_neg c2, if_neg c3])
        have B : WB g (aw N ad sz) s.heap (N + 1) (va_up ad N z4) (va_up f N (c_row g (b0.toInt32, b1.toInt32, b2.toInt32))) H locs := WB_pick B (by omega) (Nat.lt_succ_self _) (fun _ hk => (up_lt hk)) (fun _ hk => (up_lt hk)) up_eq up_eq
        exact rt_r (r := some z4) rfl X hr (Or.inr ⟨_, rfl⟩) (va_up ad N z4, va_up f N (c_row g (b0.toInt32, b1.toInt32, b2.toInt32))) B (by rw [ev]; exact PO_of B) (by rw [ev]; exact pw_is) (Nat.le_of_ble_eq_true rfl) (Nat.le_of_ble_eq_true rfl) dX4_span_75
def v_X4_isSame (tj0 : TR) (tj1 : TR) : Int32 := if tj0.1 = tj1.1 then (if tj0.2.1 = tj1.2.1 then (if tj0.2.2 = tj1.2.2 then 1 else 0) else 0) else 0
theorem b01_X4_isSame {tj0 : TR} {tj1 : TR} : (v_X4_isSame tj0 tj1) = 0 ∨ (v_X4_isSame tj0 tj1) = 1 := by
  unfold v_X4_isSame
  by_cases q1 : tj0.1 = tj1.1
  · rw [if_pos q1]
    by_cases q2 : tj0.2.1 = tj1.2.1
    · rw [if_pos q2]
      by_cases q3 : tj0.2.2 = tj1.2.2
      · rw [if_pos q3]
        exact Or.inr rfl
      · rw [if_neg q3]
        exact Or.inl rfl
    · rw [if_neg q2]
      exact Or.inl rfl
  · rw [if_neg q1]
    exact Or.inl rfl
set_option maxHeartbeats 4000000 in
set_option maxRecDepth 100000 in
theorem c_X4_isSame (l : Launch) (g : GG) (N : Nat) (ad : Nat → Nat) (f : Nat → va_E) (j0 bj0 : Nat) (tj0 : TR) (hj0 : j0 < N) (hbj0 : ad j0 = bj0) (hfj0 : f j0 = c_row g tj0) (j1 bj1 : Nat) (tj1 : TR) (hj1 : j1 < N) (hbj1 : ad j1 = bj1) (hfj1 : f j1 = c_row g tj1) : KI l yX4_isSame cX4_isSame 2 (some .boolean) (rm 0 0 0) g [.ref bj0, .ref bj1] N ad f N (fun r ad' f' => ad = ad' ∧ (v_X4_isSame tj0 tj1) = r ∧ f = f') := by
  intro sz
  refine mt_start (by decide) (Nat.le_of_ble_eq_true rfl) ?_
  intro p e s m args below meth c hsz X hr hnam hA hK hT H locs B ls hl
  obtain ⟨hx, hb, hml, hown, hts, hlocks⟩ := id X
  have hl : lv_has ls 2 [(0, .ref bj0), (1, .ref bj1)] := hl
  refine lv_aload_n hx hb dX4_isSame_0 rfl (lv_at hl 0 rfl) ?_
  refine lv_iconst (v := 0) hx hb dX4_isSame_1 (by decide) ?_
  refine h_ld0 X hK B hj0 hbj0 hfj0 dX4_isSame_2 ?_
  refine lv_aload_n hx hb dX4_isSame_3 rfl (lv_at hl 1 rfl) ?_
  refine lv_iconst (v := 0) hx hb dX4_isSame_4 (by decide) ?_
  refine h_ld0 X hK B hj1 hbj1 hfj1 dX4_isSame_5 ?_
  refine lv_icmp_ne (tgt := 31) hx hb dX4_isSame_6 (by decide) (fun c1 => ?_) (fun c1 => ?_)
  · refine lv_iconst (v := 0) hx hb dX4_isSame_31 (by decide) ?_
    have ev := (show v_X4_isSame tj0 tj1 = 0 from by unfold v_X4_isSame; rw [if_neg c1])
    exact rt_i X hr (ad, f) B (PO_of B) ⟨rfl, ev, rfl⟩ rfl (Nat.le_of_ble_eq_true rfl) (Nat.le_of_ble_eq_true rfl) dX4_isSame_32
  · refine lv_aload_n hx hb dX4_isSame_9 rfl (lv_at hl 0 rfl) ?_
    refine lv_iconst (v := 1) hx hb dX4_isSame_10 (by decide) ?_
    refine h_ld1 X hK B hj0 hbj0 hfj0 dX4_isSame_11 ?_
    refine lv_aload_n hx hb dX4_isSame_12 rfl (lv_at hl 1 rfl) ?_
    refine lv_iconst (v := 1) hx hb dX4_isSame_13 (by decide) ?_
    refine h_ld1 X hK B hj1 hbj1 hfj1 dX4_isSame_14 ?_
    refine lv_icmp_ne (tgt := 31) hx hb dX4_isSame_15 (by decide) (fun c2 => ?_) (fun c2 => ?_)
    · refine lv_iconst (v := 0) hx hb dX4_isSame_31 (by decide) ?_
      have ev := (show v_X4_isSame tj0 tj1 = 0 from by unfold v_X4_isSame; rw [if_pos c1, if_neg c2])
      exact rt_i X hr (ad, f) B (PO_of B) ⟨rfl, ev, rfl⟩ rfl (Nat.le_of_ble_eq_true rfl) (Nat.le_of_ble_eq_true rfl) dX4_isSame_32
    · refine lv_aload_n hx hb dX4_isSame_18 rfl (lv_at hl 0 rfl) ?_
      refine lv_iconst (v := 2) hx hb dX4_isSame_19 (by decide) ?_
      refine h_ld2 X hK B hj0 hbj0 hfj0 dX4_isSame_20 ?_
      refine lv_aload_n hx hb dX4_isSame_21 rfl (lv_at hl 1 rfl) ?_
      refine lv_iconst (v := 2) hx hb dX4_isSame_22 (by decide) ?_
      refine h_ld2 X hK B hj1 hbj1 hfj1 dX4_isSame_23 ?_
      refine lv_icmp_ne (tgt := 31) hx hb dX4_isSame_24 (by decide) (fun c3 => ?_) (fun c3 => ?_)
      · refine lv_iconst (v := 0) hx hb dX4_isSame_31 (by decide) ?_
        have ev := (show v_X4_isSame tj0 tj1 = 0 from by unfold v_X4_isSame; rw [if_pos c1, if_pos c2, if_neg c3])
        exact rt_i X hr (ad, f) B (PO_of B) ⟨rfl, ev, rfl⟩ rfl (Nat.le_of_ble_eq_true rfl) (Nat.le_of_ble_eq_true rfl) dX4_isSame_32
      · refine lv_iconst (v := 1) hx hb dX4_isSame_27 (by decide) ?_
        refine lv_goto (tgt := 32) hx hb dX4_isSame_28 (by decide) ?_
        have ev := (show v_X4_isSame tj0 tj1 = 1 from by unfold v_X4_isSame; rw [if_pos c1, if_pos c2, if_pos c3])
        exact rt_i X hr (ad, f) B (PO_of B) ⟨rfl, ev, rfl⟩ rfl (Nat.le_of_ble_eq_true rfl) (Nat.le_of_ble_eq_true rfl) dX4_isSame_32
def v_X4_total (tj0 : TR) : Int64 := (12 * tj0.1.toInt64) + tj0.2.1.toInt64
set_option maxHeartbeats 4000000 in
set_option maxRecDepth 100000 in
theorem c_X4_total (l : Launch) (g : GG) (N : Nat) (ad : Nat → Nat) (f : Nat → va_E) (j0 bj0 : Nat) (tj0 : TR) (hj0 : j0 < N) (hbj0 : ad j0 = bj0) (hfj0 : f j0 = c_row g tj0) : KL l yX4_total cX4_total 1 (rm 0 0 0) g [.ref bj0] N ad f N (fun r ad' f' => ad = ad' ∧ (v_X4_total tj0) = r ∧ f = f') := by
  intro sz
  refine mt_start (by decide) (Nat.le_of_ble_eq_true rfl) ?_
  intro p e s m args below meth c hsz X hr hnam hA hK hT H locs B ls hl
  obtain ⟨hx, hb, hml, hown, hts, hlocks⟩ := id X
  have hl : lv_has ls 1 [(0, .ref bj0)] := hl
  refine lv_ldc2 hx hb hown (hts _ (List.mem_cons_of_mem _ lk_X4_41)) dX4_total_0 ?_
  refine lv_aload_n hx hb dX4_total_3 rfl (lv_at hl 0 rfl) ?_
  refine lv_iconst (v := 0) hx hb dX4_total_4 (by decide) ?_
  refine h_ld0 X hK B hj0 hbj0 hfj0 dX4_total_5 ?_
  refine lv_i2l (v := tj0.1.toInt64) hx hb dX4_total_6 rfl ?_
  refine lv_lmul hx hb dX4_total_7 ?_
  refine lv_aload_n hx hb dX4_total_8 rfl (lv_at hl 0 rfl) ?_
  refine lv_iconst (v := 1) hx hb dX4_total_9 (by decide) ?_
  refine h_ld1 X hK B hj0 hbj0 hfj0 dX4_total_10 ?_
  refine lv_i2l (v := tj0.2.1.toInt64) hx hb dX4_total_11 rfl ?_
  refine lv_ladd hx hb dX4_total_12 ?_
  have ev := (show v_X4_total tj0 = (12 * tj0.1.toInt64) + tj0.2.1.toInt64 from rfl)
  exact rt_l X hr (ad, f) B (PO_of B) ⟨rfl, ev, rfl⟩ (Nat.le_of_ble_eq_true rfl) (Nat.le_of_ble_eq_true rfl) dX4_total_13
def v_X4_isAlike (tj0 : TR) (tj1 : TR) : Int32 := if (lg_cmp (v_X4_total tj0) (v_X4_total tj1)) = 0 then (if tj0.2.2 = tj1.2.2 then 1 else 0) else 0
theorem b01_X4_isAlike {tj0 : TR} {tj1 : TR} : (v_X4_isAlike tj0 tj1) = 0 ∨ (v_X4_isAlike tj0 tj1) = 1 := by
  unfold v_X4_isAlike
  by_cases q1 : (lg_cmp (v_X4_total tj0) (v_X4_total tj1)) = 0
  · rw [if_pos q1]
    by_cases q2 : tj0.2.2 = tj1.2.2
    · rw [if_pos q2]
      exact Or.inr rfl
    · rw [if_neg q2]
      exact Or.inl rfl
  · rw [if_neg q1]
    exact Or.inl rfl
set_option maxHeartbeats 4000000 in
set_option maxRecDepth 100000 in
theorem c_X4_isAlike (l : Launch) (g : GG) (N : Nat) (ad : Nat → Nat) (f : Nat → va_E) (j0 bj0 : Nat) (tj0 : TR) (hj0 : j0 < N) (hbj0 : ad j0 = bj0) (hfj0 : f j0 = c_row g tj0) (j1 bj1 : Nat) (tj1 : TR) (hj1 : j1 < N) (hbj1 : ad j1 = bj1) (hfj1 : f j1 = c_row g tj1) : KI l yX4_isAlike cX4_isAlike 2 (some .boolean) (rm 1 0 0) g [.ref bj0, .ref bj1] N ad f N (fun r ad' f' => ad = ad' ∧ (v_X4_isAlike tj0 tj1) = r ∧ f = f') := by
  intro sz
  refine mt_start (by decide) (Nat.le_of_ble_eq_true rfl) ?_
  intro p e s m args below meth c hsz X hr hnam hA hK hT H locs B ls hl
  obtain ⟨hx, hb, hml, hown, hts, hlocks⟩ := id X
  have hl : lv_has ls 2 [(0, .ref bj0), (1, .ref bj1)] := hl
  refine lv_aload_n hx hb dX4_isAlike_0 rfl (lv_at hl 0 rfl) ?_
  refine k_l (k := 0) (n := 0) hA B (u_S (rest := []) X (c_X4_total l g N ad f j0 bj0 tj0 hj0 hbj0 hfj0 H.size) mw_X4_total md_X4_total rfl lk_X4_43 ⟨Nat.le_of_ble_eq_true rfl, Nat.le_of_ble_eq_true rfl⟩ hA hK hT B hl.1 rfl (Nat.le_of_ble_eq_true rfl) dX4_isAlike_1 ⟨Nat.le_of_ble_eq_true rfl, Nat.le_of_ble_eq_true rfl⟩) (Nat.le_of_ble_eq_true rfl) (Nat.le_of_ble_eq_true rfl) (fun r ad' f' H locs hw B => ?_)
  obtain ⟨rfl, rfl, rfl⟩ := hw
  refine lv_aload_n hx hb dX4_isAlike_4 rfl (lv_at hl 1 rfl) ?_
  refine k_l (k := 0) (n := 0) hA B (u_S (rest := [.long (v_X4_total tj0)]) X (c_X4_total l g N ad f j1 bj1 tj1 hj1 hbj1 hfj1 H.size) mw_X4_total md_X4_total rfl lk_X4_43 ⟨Nat.le_of_ble_eq_true rfl, Nat.le_of_ble_eq_true rfl⟩ hA hK hT B hl.1 rfl (Nat.le_of_ble_eq_true rfl) dX4_isAlike_5 ⟨Nat.le_of_ble_eq_true rfl, Nat.le_of_ble_eq_true rfl⟩) (Nat.le_of_ble_eq_true rfl) (Nat.le_of_ble_eq_true rfl) (fun r ad' f' H locs hw B => ?_)
  obtain ⟨rfl, rfl, rfl⟩ := hw
  refine W.lcmp hx hb dX4_isAlike_8 ?_
  refine lv_if_ne (tgt := 25) hx hb dX4_isAlike_9 (by decide) (fun c1 => ?_) (fun c1 => ?_)
  · refine lv_iconst (v := 0) hx hb dX4_isAlike_25 (by decide) ?_
    have ev := (show v_X4_isAlike tj0 tj1 = 0 from by unfold v_X4_isAlike; rw [if_neg c1])
    exact rt_i X hr (ad, f) B (PO_of B) ⟨rfl, ev, rfl⟩ rfl (Nat.le_of_ble_eq_true rfl) (Nat.le_of_ble_eq_true rfl) dX4_isAlike_26
  · refine lv_aload_n hx hb dX4_isAlike_12 rfl (lv_at hl 0 rfl) ?_
    refine lv_iconst (v := 2) hx hb dX4_isAlike_13 (by decide) ?_
    refine h_ld2 X hK B hj0 hbj0 hfj0 dX4_isAlike_14 ?_
    refine lv_aload_n hx hb dX4_isAlike_15 rfl (lv_at hl 1 rfl) ?_
    refine lv_iconst (v := 2) hx hb dX4_isAlike_16 (by decide) ?_
    refine h_ld2 X hK B hj1 hbj1 hfj1 dX4_isAlike_17 ?_
    refine lv_icmp_ne (tgt := 25) hx hb dX4_isAlike_18 (by decide) (fun c2 => ?_) (fun c2 => ?_)
    · refine lv_iconst (v := 0) hx hb dX4_isAlike_25 (by decide) ?_
      have ev := (show v_X4_isAlike tj0 tj1 = 0 from by unfold v_X4_isAlike; rw [if_pos c1, if_neg c2])
      exact rt_i X hr (ad, f) B (PO_of B) ⟨rfl, ev, rfl⟩ rfl (Nat.le_of_ble_eq_true rfl) (Nat.le_of_ble_eq_true rfl) dX4_isAlike_26
    · refine lv_iconst (v := 1) hx hb dX4_isAlike_21 (by decide) ?_
      refine lv_goto (tgt := 26) hx hb dX4_isAlike_22 (by decide) ?_
      have ev := (show v_X4_isAlike tj0 tj1 = 1 from by unfold v_X4_isAlike; rw [if_pos c1, if_pos c2])
      exact rt_i X hr (ad, f) B (PO_of B) ⟨rfl, ev, rfl⟩ rfl (Nat.le_of_ble_eq_true rfl) (Nat.le_of_ble_eq_true rfl) dX4_isAlike_26
def v_X4_sum (tj0 : TR) (b1 : Int64) (tj2 : TR) : Option TR := om (v_X4_span (tj0.1.toInt64 + (b1 * tj2.1.toInt64)) (tj0.2.1.toInt64 + (b1 * tj2.2.1.toInt64)) (tj0.2.2.toInt64 + (b1 * tj2.2.2.toInt64))) none (fun t1 => some t1)
set_option maxHeartbeats 4000000 in
set_option maxRecDepth 100000 in
theorem c_X4_sum (l : Launch) (g : GG) (N : Nat) (ad : Nat → Nat) (f : Nat → va_E) (j0 bj0 : Nat) (tj0 : TR) (hj0 : j0 < N) (hbj0 : ad j0 = bj0) (hfj0 : f j0 = c_row g tj0) (b1 : Int64) (j2 bj2 : Nat) (tj2 : TR) (hj2 : j2 < N) (hbj2 : ad j2 = bj2) (hfj2 : f j2 = c_row g tj2) : KR l yX4_sum cX4_sum 4 (.array .int) (rm 2 1 3) g [.ref bj0, .long b1, .ref bj2] N ad f (N + nz (v_X4_sum tj0 b1 tj2)) (fun r ad' f' => pw g (v_X4_sum tj0 b1 tj2) N ad f r ad' f') := by
  intro sz
  refine mt_start (by decide) (Nat.le_of_ble_eq_true rfl) ?_
  intro p e s m args below meth c hsz X hr hnam hA hK hT H locs B ls hl
  obtain ⟨hx, hb, hml, hown, hts, hlocks⟩ := id X
  have hl : lv_has ls 4 [(0, .ref bj0), (1, .long b1), (3, .ref bj2)] := hl
  refine lv_aload_n hx hb dX4_sum_0 rfl (lv_at hl 0 rfl) ?_
  refine lv_iconst (v := 0) hx hb dX4_sum_1 (by decide) ?_
  refine h_ld0 X hK B hj0 hbj0 hfj0 dX4_sum_2 ?_
  refine lv_i2l (v := tj0.1.toInt64) hx hb dX4_sum_3 rfl ?_
  refine lv_lload_n hx hb dX4_sum_4 rfl (lv_at hl 1 rfl) ?_
  refine lv_aload_n hx hb dX4_sum_5 rfl (lv_at hl 2 rfl) ?_
  refine lv_iconst (v := 0) hx hb dX4_sum_6 (by decide) ?_
  refine h_ld0 X hK B hj2 hbj2 hfj2 dX4_sum_7 ?_
  refine lv_i2l (v := tj2.1.toInt64) hx hb dX4_sum_8 rfl ?_
  refine lv_lmul hx hb dX4_sum_9 ?_
  refine lv_ladd hx hb dX4_sum_10 ?_
  refine lv_aload_n hx hb dX4_sum_11 rfl (lv_at hl 0 rfl) ?_
  refine lv_iconst (v := 1) hx hb dX4_sum_12 (by decide) ?_
  refine h_ld1 X hK B hj0 hbj0 hfj0 dX4_sum_13 ?_
  refine lv_i2l (v := tj0.2.1.toInt64) hx hb dX4_sum_14 rfl ?_
  refine lv_lload_n hx hb dX4_sum_15 rfl (lv_at hl 1 rfl) ?_
  refine lv_aload_n hx hb dX4_sum_16 rfl (lv_at hl 2 rfl) ?_
  refine lv_iconst (v := 1) hx hb dX4_sum_17 (by decide) ?_
  refine h_ld1 X hK B hj2 hbj2 hfj2 dX4_sum_18 ?_
  refine lv_i2l (v := tj2.2.1.toInt64) hx hb dX4_sum_19 rfl ?_
  refine lv_lmul hx hb dX4_sum_20 ?_
  refine lv_ladd hx hb dX4_sum_21 ?_
  refine lv_aload_n hx hb dX4_sum_22 rfl (lv_at hl 0 rfl) ?_
  refine lv_iconst (v := 2) hx hb dX4_sum_23 (by decide) ?_
  refine h_ld2 X hK B hj0 hbj0 hfj0 dX4_sum_24 ?_
  refine lv_i2l (v := tj0.2.2.toInt64) hx hb dX4_sum_25 rfl ?_
  refine lv_lload_n hx hb dX4_sum_26 rfl (lv_at hl 1 rfl) ?_
  refine lv_aload_n hx hb dX4_sum_27 rfl (lv_at hl 2 rfl) ?_
  refine lv_iconst (v := 2) hx hb dX4_sum_28 (by decide) ?_
  refine h_ld2 X hK B hj2 hbj2 hfj2 dX4_sum_29 ?_
  refine lv_i2l (v := tj2.2.2.toInt64) hx hb dX4_sum_30 rfl ?_
  refine lv_lmul hx hb dX4_sum_31 ?_
  refine lv_ladd hx hb dX4_sum_32 ?_
  refine k_r (k := 1) (n := 3) hA B (u_S (rest := []) X (c_X4_span l g N ad f (tj0.1.toInt64 + (b1 * tj2.1.toInt64)) (tj0.2.1.toInt64 + (b1 * tj2.2.1.toInt64)) (tj0.2.2.toInt64 + (b1 * tj2.2.2.toInt64)) H.size) mw_X4_span md_X4_span rfl lk_X4_47 ⟨Nat.le_of_ble_eq_true rfl, Nat.le_of_ble_eq_true rfl⟩ hA hK hT B hl.1 rfl (Nat.le_of_ble_eq_true rfl) dX4_sum_33 ⟨Nat.le_of_ble_eq_true rfl, Nat.le_of_ble_eq_true rfl⟩) (Nat.le_of_ble_eq_true rfl) (Nat.le_of_ble_eq_true rfl) (fun r ad' f' H locs hw B => ?_)
  generalize o1 : (v_X4_span (tj0.1.toInt64 + (b1 * tj2.1.toInt64)) (tj0.2.1.toInt64 + (b1 * tj2.2.1.toInt64)) (tj0.2.2.toInt64 + (b1 * tj2.2.2.toInt64))) = v9 at hw B
  cases v9 with
  | none =>
    obtain ⟨rfl, rfl, rfl⟩ := pw_n hw
    have ev := (show v_X4_sum tj0 b1 tj2 = none from by unfold v_X4_sum; rw [om_none o1])
    exact rt_r (r := none) rfl X hr (Or.inr ⟨_, rfl⟩) (ad, f) B (by rw [ev]; exact PO_of B) (by rw [ev]; exact pw_in) (Nat.le_of_ble_eq_true rfl) (Nat.le_of_ble_eq_true rfl) dX4_sum_36
  | some t1 =>
    obtain ⟨z1, rfl, rfl, rfl⟩ := pw_s hw
    have ev := (show v_X4_sum tj0 b1 tj2 = some t1 from by unfold v_X4_sum; rw [om_some o1])
    have B : WB g (aw N ad sz) s.heap (N + 1) (va_up ad N z1) (va_up f N (c_row g t1)) H locs := WB_pick B (by omega) (Nat.lt_succ_self _) (fun _ hk => (up_lt hk)) (fun _ hk => (up_lt hk)) up_eq up_eq
    exact rt_r (r := some z1) rfl X hr (Or.inr ⟨_, rfl⟩) (va_up ad N z1, va_up f N (c_row g t1)) B (by rw [ev]; exact PO_of B) (by rw [ev]; exact pw_is) (Nat.le_of_ble_eq_true rfl) (Nat.le_of_ble_eq_true rfl) dX4_sum_36
def v_X4_tidied (tj0 : TR) : Option TR := om (v_X4_span ((v_X4_total tj0) / 12) ((v_X4_total tj0) - (v_X4_total tj0) / 12 * 12) tj0.2.2.toInt64) none (fun t1 => some t1)
set_option maxHeartbeats 4000000 in
set_option maxRecDepth 100000 in
theorem c_X4_tidied (l : Launch) (g : GG) (N : Nat) (ad : Nat → Nat) (f : Nat → va_E) (j0 bj0 : Nat) (tj0 : TR) (hj0 : j0 < N) (hbj0 : ad j0 = bj0) (hfj0 : f j0 = c_row g tj0) : KR l yX4_tidied cX4_tidied 1 (.array .int) (rm 2 1 3) g [.ref bj0] N ad f (N + nz (v_X4_tidied tj0)) (fun r ad' f' => pw g (v_X4_tidied tj0) N ad f r ad' f') := by
  intro sz
  refine mt_start (by decide) (Nat.le_of_ble_eq_true rfl) ?_
  intro p e s m args below meth c hsz X hr hnam hA hK hT H locs B ls hl
  obtain ⟨hx, hb, hml, hown, hts, hlocks⟩ := id X
  have hl : lv_has ls 1 [(0, .ref bj0)] := hl
  refine lv_aload_n hx hb dX4_tidied_0 rfl (lv_at hl 0 rfl) ?_
  refine k_l (k := 0) (n := 0) hA B (u_S (rest := []) X (c_X4_total l g N ad f j0 bj0 tj0 hj0 hbj0 hfj0 H.size) mw_X4_total md_X4_total rfl lk_X4_43 ⟨Nat.le_of_ble_eq_true rfl, Nat.le_of_ble_eq_true rfl⟩ hA hK hT B hl.1 rfl (Nat.le_of_ble_eq_true rfl) dX4_tidied_1 ⟨Nat.le_of_ble_eq_true rfl, Nat.le_of_ble_eq_true rfl⟩) (Nat.le_of_ble_eq_true rfl) (Nat.le_of_ble_eq_true rfl) (fun r ad' f' H locs hw B => ?_)
  obtain ⟨rfl, rfl, rfl⟩ := hw
  refine lv_ldc2 hx hb hown (hts _ (List.mem_cons_of_mem _ lk_X4_41)) dX4_tidied_4 ?_
  refine lv_ldiv hx hb dX4_tidied_7 (by decide) ?_
  refine lv_aload_n hx hb dX4_tidied_8 rfl (lv_at hl 0 rfl) ?_
  refine k_l (k := 0) (n := 0) hA B (u_S (rest := [.long ((v_X4_total tj0) / 12)]) X (c_X4_total l g N ad f j0 bj0 tj0 hj0 hbj0 hfj0 H.size) mw_X4_total md_X4_total rfl lk_X4_43 ⟨Nat.le_of_ble_eq_true rfl, Nat.le_of_ble_eq_true rfl⟩ hA hK hT B hl.1 rfl (Nat.le_of_ble_eq_true rfl) dX4_tidied_9 ⟨Nat.le_of_ble_eq_true rfl, Nat.le_of_ble_eq_true rfl⟩) (Nat.le_of_ble_eq_true rfl) (Nat.le_of_ble_eq_true rfl) (fun r ad' f' H locs hw B => ?_)
  obtain ⟨rfl, rfl, rfl⟩ := hw
  refine lv_ldc2 hx hb hown (hts _ (List.mem_cons_of_mem _ lk_X4_41)) dX4_tidied_12 ?_
  refine lv_lrem hx hb dX4_tidied_15 (by decide) ?_
  refine lv_aload_n hx hb dX4_tidied_16 rfl (lv_at hl 0 rfl) ?_
  refine lv_iconst (v := 2) hx hb dX4_tidied_17 (by decide) ?_
  refine h_ld2 X hK B hj0 hbj0 hfj0 dX4_tidied_18 ?_
  refine lv_i2l (v := tj0.2.2.toInt64) hx hb dX4_tidied_19 rfl ?_
  refine k_r (k := 1) (n := 3) hA B (u_S (rest := []) X (c_X4_span l g N ad f ((v_X4_total tj0) / 12) ((v_X4_total tj0) - (v_X4_total tj0) / 12 * 12) tj0.2.2.toInt64 H.size) mw_X4_span md_X4_span rfl lk_X4_47 ⟨Nat.le_of_ble_eq_true rfl, Nat.le_of_ble_eq_true rfl⟩ hA hK hT B hl.1 rfl (Nat.le_of_ble_eq_true rfl) dX4_tidied_20 ⟨Nat.le_of_ble_eq_true rfl, Nat.le_of_ble_eq_true rfl⟩) (Nat.le_of_ble_eq_true rfl) (Nat.le_of_ble_eq_true rfl) (fun r ad' f' H locs hw B => ?_)
  generalize o1 : (v_X4_span ((v_X4_total tj0) / 12) ((v_X4_total tj0) - (v_X4_total tj0) / 12 * 12) tj0.2.2.toInt64) = v9 at hw B
  cases v9 with
  | none =>
    obtain ⟨rfl, rfl, rfl⟩ := pw_n hw
    have ev := (show v_X4_tidied tj0 = none from by unfold v_X4_tidied; rw [om_none o1])
    exact rt_r (r := none) rfl X hr (Or.inr ⟨_, rfl⟩) (ad, f) B (by rw [ev]; exact PO_of B) (by rw [ev]; exact pw_in) (Nat.le_of_ble_eq_true rfl) (Nat.le_of_ble_eq_true rfl) dX4_tidied_23
  | some t1 =>
    obtain ⟨z1, rfl, rfl, rfl⟩ := pw_s hw
    have ev := (show v_X4_tidied tj0 = some t1 from by unfold v_X4_tidied; rw [om_some o1])
    have B : WB g (aw N ad sz) s.heap (N + 1) (va_up ad N z1) (va_up f N (c_row g t1)) H locs := WB_pick B (by omega) (Nat.lt_succ_self _) (fun _ hk => (up_lt hk)) (fun _ hk => (up_lt hk)) up_eq up_eq
    exact rt_r (r := some z1) rfl X hr (Or.inr ⟨_, rfl⟩) (va_up ad N z1, va_up f N (c_row g t1)) B (by rw [ev]; exact PO_of B) (by rw [ev]; exact pw_is) (Nat.le_of_ble_eq_true rfl) (Nat.le_of_ble_eq_true rfl) dX4_tidied_23
def v_X4_nothing : TR := (0, 0, 0)
set_option maxHeartbeats 4000000 in
set_option maxRecDepth 100000 in
theorem c_X4_nothing (l : Launch) (g : GG) (N : Nat) (ad : Nat → Nat) (f : Nat → va_E) : KR l yX4_nothing cX4_nothing 0 (.array .int) (rm 0 1 3) g [] N ad f (N + 1) (fun r ad' f' => ∃ a : Nat, some a = r ∧ va_up ad N a = ad' ∧ va_up f N (c_row g v_X4_nothing) = f') := by
  intro sz
  refine mt_start (by decide) (Nat.le_of_ble_eq_true rfl) ?_
  intro p e s m args below meth c hsz X hr hnam hA hK hT H locs B ls hl
  obtain ⟨hx, hb, hml, hown, hts, hlocks⟩ := id X
  have hl : lv_has ls 0 [] := hl
  refine lv_iconst (v := 3) hx hb dX4_nothing_0 (by decide) ?_
  refine h_new3 (cz := 1) (sz := 3) X hA hK B (Nat.le_of_ble_eq_true rfl) (Nat.le_of_ble_eq_true rfl) (Nat.le_of_ble_eq_true rfl) (Nat.le_of_ble_eq_true rfl) dX4_nothing_1 (fun z1 H B => ?_)
  have ev := (show v_X4_nothing = (0, 0, 0) from rfl)
  have B : WB g (aw N ad sz) s.heap (N + 1) (va_up ad N z1) (va_up f N (c_row g (0, 0, 0))) H locs := WB_pick B (by omega) (Nat.lt_succ_self _) (fun _ hk => (up_lt hk)) (fun _ hk => (up_lt hk)) up_eq up_eq
  exact rt_r (r := some z1) rfl X hr (Or.inr ⟨_, rfl⟩) (va_up ad N z1, va_up f N (c_row g (0, 0, 0))) B (PO_of B) ⟨_, rfl, rfl, by rw [ev]⟩ (Nat.le_of_ble_eq_true rfl) (Nat.le_of_ble_eq_true rfl) dX4_nothing_3
def v_X4_opposed (tj0 : TR) : Option TR := om (v_X4_sum (v_X4_nothing) (-1) tj0) none (fun t2 => some t2)
set_option maxHeartbeats 4000000 in
set_option maxRecDepth 100000 in
theorem c_X4_opposed (l : Launch) (g : GG) (N : Nat) (ad : Nat → Nat) (f : Nat → va_E) (j0 bj0 : Nat) (tj0 : TR) (hj0 : j0 < N) (hbj0 : ad j0 = bj0) (hfj0 : f j0 = c_row g tj0) : KR l yX4_opposed cX4_opposed 1 (.array .int) (rm 3 2 6) g [.ref bj0] N ad f (N + nz (v_X4_opposed tj0)) (fun r ad' f' => pw g (v_X4_opposed tj0) N ad f r ad' f') := by
  intro sz
  refine mt_start (by decide) (Nat.le_of_ble_eq_true rfl) ?_
  intro p e s m args below meth c hsz X hr hnam hA hK hT H locs B ls hl
  obtain ⟨hx, hb, hml, hown, hts, hlocks⟩ := id X
  have hl : lv_has ls 1 [(0, .ref bj0)] := hl
  refine k_r (k := 1) (n := 3) hA B (u_S (rest := []) X (c_X4_nothing l g N ad f H.size) mw_X4_nothing md_X4_nothing rfl lk_X4_51 ⟨Nat.le_of_ble_eq_true rfl, Nat.le_of_ble_eq_true rfl⟩ hA hK hT B hl.1 rfl (Nat.le_of_ble_eq_true rfl) dX4_opposed_0 ⟨Nat.le_of_ble_eq_true rfl, Nat.le_of_ble_eq_true rfl⟩) (Nat.le_of_ble_eq_true rfl) (Nat.le_of_ble_eq_true rfl) (fun r ad' f' H locs hw B => ?_)
  obtain ⟨z1, rfl, rfl, rfl⟩ := hw
  refine lv_ldc2 hx hb hown (hts _ (List.mem_cons_of_mem _ lk_X4_55)) dX4_opposed_3 ?_
  refine lv_aload_n hx hb dX4_opposed_6 rfl (lv_at hl 0 rfl) ?_
  refine k_r (k := 2) (n := 6) hA B (u_S (rest := []) X (c_X4_sum l g (N + 1) (va_up ad N z1) (va_up f N (c_row g (v_X4_nothing))) N z1 (v_X4_nothing) (Nat.lt_succ_self _) up_eq up_eq (-1) j0 bj0 tj0 (Nat.lt_succ_of_lt hj0) ((up_lt hj0).trans hbj0) ((up_lt hj0).trans hfj0) H.size) mw_X4_sum md_X4_sum rfl lk_X4_57 ⟨Nat.le_of_ble_eq_true rfl, Nat.le_of_ble_eq_true rfl⟩ hA hK hT B hl.1 rfl (Nat.le_of_ble_eq_true rfl) dX4_opposed_7 ⟨Nat.le_of_ble_eq_true rfl, Nat.le_of_ble_eq_true rfl⟩) (Nat.le_of_ble_eq_true rfl) (Nat.le_of_ble_eq_true rfl) (fun r ad' f' H locs hw B => ?_)
  generalize o2 : (v_X4_sum (v_X4_nothing) (-1) tj0) = v9 at hw B
  cases v9 with
  | none =>
    obtain ⟨rfl, rfl, rfl⟩ := pw_n hw
    have ev := (show v_X4_opposed tj0 = none from by unfold v_X4_opposed; rw [om_none o2])
    have B : WB g (aw N ad sz) s.heap N ad f H locs := B.drop (by omega) (fun _ hk => (up_lt hk)) (fun _ hk => (up_lt hk))
    exact rt_r (r := none) rfl X hr (Or.inr ⟨_, rfl⟩) (ad, f) B (by rw [ev]; exact PO_of B) (by rw [ev]; exact pw_in) (Nat.le_of_ble_eq_true rfl) (Nat.le_of_ble_eq_true rfl) dX4_opposed_10
  | some t2 =>
    obtain ⟨z2, rfl, rfl, rfl⟩ := pw_s hw
    have ev := (show v_X4_opposed tj0 = some t2 from by unfold v_X4_opposed; rw [om_some o2])
    have B : WB g (aw N ad sz) s.heap (N + 1) (va_up ad N z2) (va_up f N (c_row g t2)) H locs := WB_pick B (by omega) (Nat.lt_succ_self _) (fun _ hk => ((up_lt (Nat.lt_succ_of_lt hk)).trans (up_lt hk))) (fun _ hk => ((up_lt (Nat.lt_succ_of_lt hk)).trans (up_lt hk))) up_eq up_eq
    exact rt_r (r := some z2) rfl X hr (Or.inr ⟨_, rfl⟩) (va_up ad N z2, va_up f N (c_row g t2)) B (by rw [ev]; exact PO_of B) (by rw [ev]; exact pw_is) (Nat.le_of_ble_eq_true rfl) (Nat.le_of_ble_eq_true rfl) dX4_opposed_10
def wX4_daysTo_6 (a0 : Int32) : Nat → Int32 → Int32 → Int32
  | 0, yy, ds => 0
  | n + 1, yy, ds => if a0 ≤ yy then ds else (wX4_daysTo_6 a0 n (yy + 1) (ds + (365 + (v_X4_one (v_X4_isLong yy)))))
def v_X4_daysTo (a0 : Int32) : Int32 := wX4_daysTo_6 a0 ((a0.toInt - (1600 : Int32).toInt).toNat + 1) 1600 0
set_option maxHeartbeats 4000000 in
set_option maxRecDepth 100000 in
theorem c_X4_daysTo (l : Launch) (g : GG) (N : Nat) (ad : Nat → Nat) (f : Nat → va_E) (a0 : Int32) : KI l yX4_daysTo cX4_daysTo 3 (some .int) (rm 1 0 0) g [.int a0] N ad f N (fun r ad' f' => ad = ad' ∧ (v_X4_daysTo a0) = r ∧ f = f') := by
  intro sz
  refine mt_start (by decide) (Nat.le_of_ble_eq_true rfl) ?_
  intro p e s m args below meth c hsz X hr hnam hA hK hT H locs B ls hl
  obtain ⟨hx, hb, hml, hown, hts, hlocks⟩ := id X
  have hl : lv_has ls 3 [(0, .int a0)] := hl
  refine lv_iconst (v := 0) hx hb dX4_daysTo_0 (by decide) ?_
  refine lv_istore_n (lv' := [(1, .int 0), (0, .int a0)]) hx hb dX4_daysTo_1 rfl hl (by decide) rfl (fun ls hl => ?_)
  refine lv_sipush (v := 1600) hx hb dX4_daysTo_2 (by decide) ?_
  refine lv_istore_n (lv' := [(2, .int 1600), (1, .int 0), (0, .int a0)]) hx hb dX4_daysTo_5 rfl hl (by decide) rfl (fun ls hl => ?_)
  have loop1 : ∀ (n1 : Nat) (yy : Int32) (ds : Int32) (H : Heap) (locs : List Loc), (a0.toInt - yy.toInt).toNat < n1 → v_X4_daysTo a0 = wX4_daysTo_6 a0 n1 yy ds → WB g (aw N ad sz) s.heap N ad f H locs → ∀ ls : Array Slot, lv_has ls 3 [(2, .int yy), (1, .int ds), (0, .int a0)] → W p l e (rm 1 0 0) s m args below meth c H locs 0 0 (MQ below (va_Qi (fun r (u : WS) => (fun r ad' f' => ad = ad' ∧ (v_X4_daysTo a0) = r ∧ f = f') r u.1 u.2) (fun u t => PO g N u.1 u.2 (aw N ad sz) t) (aw N ad sz)) args s (rm 1 0 0).cells (rm 1 0 0).slots (aw N ad sz)) (F0 m 6 ls []) := by
    intro n1
    induction n1 with
    | zero => intro yy ds H locs hn; exact absurd hn (Nat.not_lt_zero _)
    | succ n1 ih1 =>
      intro yy ds H locs hn1 he1 B ls hl
      refine lv_iload_n hx hb dX4_daysTo_6 rfl (lv_at hl 0 rfl) ?_
      refine lv_iload_n hx hb dX4_daysTo_7 rfl (lv_at hl 2 rfl) ?_
      refine lv_icmp_ge (tgt := 31) hx hb dX4_daysTo_8 (by decide) (fun c2 => ?_) (fun c2 => ?_)
      · refine lv_iload_n hx hb dX4_daysTo_31 rfl (lv_at hl 1 rfl) ?_
        have ev := (show v_X4_daysTo a0 = ds from he1.trans (by rw [wX4_daysTo_6, if_pos c2]))
        exact rt_i X hr (ad, f) B (PO_of B) ⟨rfl, ev, rfl⟩ rfl (Nat.le_of_ble_eq_true rfl) (Nat.le_of_ble_eq_true rfl) dX4_daysTo_32
      · refine lv_iload_n hx hb dX4_daysTo_11 rfl (lv_at hl 1 rfl) ?_
        refine lv_sipush (v := 365) hx hb dX4_daysTo_12 (by decide) ?_
        refine lv_iload_n hx hb dX4_daysTo_15 rfl (lv_at hl 0 rfl) ?_
        refine k_i (k := 0) (n := 0) hA B (u_S (rest := [.int 365, .int ds]) X (c_X4_isLong l g N ad f yy H.size) mw_X4_isLong md_X4_isLong rfl lk_X4_174 ⟨Nat.le_of_ble_eq_true rfl, Nat.le_of_ble_eq_true rfl⟩ hA hK hT B hl.1 rfl (Nat.le_of_ble_eq_true rfl) dX4_daysTo_16 ⟨Nat.le_of_ble_eq_true rfl, Nat.le_of_ble_eq_true rfl⟩) (Nat.le_of_ble_eq_true rfl) (Nat.le_of_ble_eq_true rfl) (fun r ad' f' H locs hw B => ?_)
        obtain ⟨rfl, rfl, rfl⟩ := hw
        refine k_i (k := 0) (n := 0) hA B (u_S (rest := [.int 365, .int ds]) X (c_X4_one l g N ad f (v_X4_isLong yy) H.size) mw_X4_one md_X4_one rfl lk_X4_91 ⟨Nat.le_of_ble_eq_true rfl, Nat.le_of_ble_eq_true rfl⟩ hA hK hT B hl.1 rfl (Nat.le_of_ble_eq_true rfl) dX4_daysTo_19 ⟨Nat.le_of_ble_eq_true rfl, Nat.le_of_ble_eq_true rfl⟩) (Nat.le_of_ble_eq_true rfl) (Nat.le_of_ble_eq_true rfl) (fun r ad' f' H locs hw B => ?_)
        obtain ⟨rfl, rfl, rfl⟩ := hw
        refine lv_iadd hx hb dX4_daysTo_22 ?_
        refine lv_iadd hx hb dX4_daysTo_23 ?_
        refine lv_istore_n (lv' := [(1, .int (ds + (365 + (v_X4_one (v_X4_isLong yy))))), (2, .int yy), (0, .int a0)]) hx hb dX4_daysTo_24 rfl hl (by decide) rfl (fun ls hl => ?_)
        refine lv_iinc (v := yy + 1) (lv' := [(2, .int (yy + 1)), (1, .int (ds + (365 + (v_X4_one (v_X4_isLong yy))))), (0, .int a0)]) hx hb dX4_daysTo_25 hl (k := 1) rfl rfl (by decide) rfl (fun ls hl => ?_)
        refine lv_goto (tgt := 6) hx hb dX4_daysTo_28 (by decide) ?_
        exact ih1 (yy + 1) (ds + (365 + (v_X4_one (v_X4_isLong yy)))) H locs (fu_le c2 hn1) (show v_X4_daysTo a0 = wX4_daysTo_6 a0 n1 (yy + 1) (ds + (365 + (v_X4_one (v_X4_isLong yy)))) from he1.trans (by rw [wX4_daysTo_6, if_neg c2])) B ls (lv_sub hl [0, 1, 2] rfl)
  exact loop1 ((a0.toInt - (1600 : Int32).toInt).toNat + 1) 1600 0 H locs (Nat.lt_succ_self _) (show v_X4_daysTo a0 = wX4_daysTo_6 a0 ((a0.toInt - (1600 : Int32).toInt).toNat + 1) 1600 0 from rfl) B ls hl
end
section
/-! numbers of the reference -/
theorem in_iff {x a b : Int64} : ¬ v_X4_isIn x a b = 0 ↔ a ≤ x ∧ x ≤ b := by
  unfold v_X4_isIn
  by_cases h1 : lg_cmp x a < 0
  · rw [if_pos h1]
    have h2 := (lg_cmp_lt x a).mp h1
    rw [Int64.lt_iff_toInt_lt] at h2
    constructor
    · intro h; exact absurd rfl h
    · intro h; rw [Int64.le_iff_toInt_le] at h; omega
  · rw [if_neg h1]
    have h2 : ¬ x < a := fun q => h1 ((lg_cmp_lt x a).mpr q)
    by_cases h3 : 0 < lg_cmp x b
    · rw [if_pos h3]
      have h4 := (lg_cmp_gt x b).mp h3
      rw [Int64.lt_iff_toInt_lt] at h4
      constructor
      · intro h; exact absurd rfl h
      · intro h; have := h.2; rw [Int64.le_iff_toInt_le] at this; omega
    · rw [if_neg h3]
      have h4 : ¬ b < x := fun q => h3 ((lg_cmp_gt x b).mpr q)
      rw [Int64.lt_iff_toInt_lt] at h2 h4
      constructor
      · intro _; rw [Int64.le_iff_toInt_le, Int64.le_iff_toInt_le]; omega
      · intro _; decide
theorem mo_pred {m : Int32} (h1 : 1 ≤ m) (h2 : ¬ 12 < m) : vp_in (m - 1) 12 := by
  rw [Int32.le_iff_toInt_le] at h1
  rw [Int32.lt_iff_toInt_lt] at h2
  have e1 : (1 : Int32).toInt = 1 := rfl
  have e12 : (12 : Int32).toInt = 12 := rfl
  have e : (m - 1).toInt = m.toInt - 1 := by
    rw [Int32.toInt_sub]
    show (m.toInt - 1).bmod (2 ^ 32) = _
    rw [Int.bmod_eq_of_le (by omega) (by omega)]
  rw [vp_in_iff, e]
  omega
theorem mo_in {m b : Int32} (h1 : 1 ≤ m) (h2 : ¬ b ≤ m) (h3 : ¬ 12 < b) : vp_in (m - 1) 12 := by
  refine mo_pred h1 ?_
  rw [Int32.le_iff_toInt_le] at h2
  rw [Int32.lt_iff_toInt_lt] at h3 ⊢
  omega
theorem mo_inc {m b : Int32} (h1 : 1 ≤ m) (h2 : ¬ b ≤ m) : 1 ≤ m + 1 := by
  rw [Int32.le_iff_toInt_le] at h1 h2 ⊢
  have hb := Int32.toInt_lt b
  have e1 : (1 : Int32).toInt = 1 := rfl
  have e : (m + 1).toInt = m.toInt + 1 := by
    rw [Int32.toInt_add]
    show (m.toInt + 1).bmod (2 ^ 32) = _
    rw [Int.bmod_eq_of_le (by omega) (by omega)]
  rw [e]
  omega
/-- a month out of a count of months -/
theorem om_k {x a b : Int64} (h : ¬ v_X4_isIn x a b = 0) (ha : 0 ≤ a) : ∃ k : Nat, k < 12 ∧ (x - x / 12 * 12).toInt32 = nI k := by
  have h1 := (in_iff.mp h).1
  have h2 : ¬ x < 0 := by
    rw [Int64.le_iff_toInt_le] at h1 ha
    rw [Int64.lt_iff_toInt_lt]
    have e0 : (0 : Int64).toInt = 0 := rfl
    omega
  obtain ⟨n, hn, rfl⟩ := pk_lOf h2
  refine ⟨n % 12, Nat.mod_lt _ (by decide), ?_⟩
  have e := pk_lRem (a := n) (b := 12) hn (by decide) (by decide)
  have e2 : lN n - lN n / 12 * 12 = lN (n % 12) := e
  rw [e2, lN_i]
theorem om_mo {x a b : Int64} (h : ¬ v_X4_isIn x a b = 0) (ha : 0 ≤ a) : 1 ≤ (x - x / 12 * 12).toInt32 + 1 ∧ ¬ 12 < (x - x / 12 * 12).toInt32 + 1 := by
  obtain ⟨k, hk, e⟩ := om_k h ha
  rw [e, nI_1]
  exact ⟨nI_le (a := 1) (b := k + 1) (by omega) (by omega), nI_nlt (a := 12) (b := k + 1) (by omega) (by decide)⟩
theorem om_in {x a b : Int64} (h : ¬ v_X4_isIn x a b = 0) (ha : 0 ≤ a) : vp_in ((x - x / 12 * 12).toInt32 + 1 - 1) 12 := mo_pred (om_mo h ha).1 (om_mo h ha).2
theorem one_01 (y : Int32) : (365 + v_X4_one (v_X4_isLong y)).toInt64.toInt = 365 ∨ (365 + v_X4_one (v_X4_isLong y)).toInt64.toInt = 366 := by
  unfold v_X4_one
  by_cases h : v_X4_isLong y = 0
  · rw [if_pos h]; exact Or.inl rfl
  · rw [if_neg h]; exact Or.inr rfl
/-- the years' loop goes down -/
theorem dl_dec {x y : Int64} {n : Nat} (hy : y.toInt = 365 ∨ y.toInt = 366) (h : ¬ lg_cmp x y < 0) (hn : x.toInt.toNat < n + 1) : (x - y).toInt.toNat < n ∧ 0 ≤ x - y := by
  have h1 : ¬ x < y := fun q => h ((lg_cmp_lt x y).mpr q)
  rw [Int64.lt_iff_toInt_lt] at h1
  have hx := Int64.toInt_lt x
  have e : (x - y).toInt = x.toInt - y.toInt := by
    rw [Int64.toInt_sub]
    rw [Int.bmod_eq_of_le (by omega) (by omega)]
  rw [Int64.le_iff_toInt_le, e]
  have e0 : (0 : Int64).toInt = 0 := rfl
  omega
end
section
def v_X4_length (a0 : Int32) (a1 : Int32) : Int32 := if a1 = 2 then (if (v_X4_isLong a0) = 0 then ((st_lens.getD ((a1 - 1).toNatClampNeg) 0) + (v_X4_one 0)) else ((st_lens.getD ((a1 - 1).toNatClampNeg) 0) + (v_X4_one 1))) else ((st_lens.getD ((a1 - 1).toNatClampNeg) 0) + (v_X4_one 0))
set_option maxHeartbeats 4000000 in
set_option maxRecDepth 100000 in
theorem c_X4_length (l : Launch) (g : GG) (N : Nat) (ad : Nat → Nat) (f : Nat → va_E) (a0 : Int32) (a1 : Int32) (hm : vp_in (a1 - 1) 12) : KI l yX4_length cX4_length 2 (some .int) (rm 1 0 0) g [.int a0, .int a1] N ad f N (fun r ad' f' => ad = ad' ∧ (v_X4_length a0 a1) = r ∧ f = f') := by
  intro sz
  refine mt_start (by decide) (Nat.le_of_ble_eq_true rfl) ?_
  intro p e s m args below meth c hsz X hr hnam hA hK hT H locs B ls hl
  obtain ⟨hx, hb, hml, hown, hts, hlocks⟩ := id X
  have hl : lv_has ls 2 [(0, .int a0), (1, .int a1)] := hl
  refine va_gets hx hb hT.2.1.2.2.2.1.1 B.2.2 hown (hts _ (List.mem_cons_of_mem _ lk_X4_171)) (fun _ h => h) dX4_length_0 ?_
  refine lv_iload_n hx hb dX4_length_3 rfl (lv_at hl 1 rfl) ?_
  refine lv_iconst (v := 1) hx hb dX4_length_4 (by decide) ?_
  refine lv_isub hx hb dX4_length_5 ?_
  refine va_ti hx hb hT.2.1.2.2.2.1.2 B.2.2 hm rfl dX4_length_6 ?_
  refine lv_iload_n hx hb dX4_length_7 rfl (lv_at hl 1 rfl) ?_
  refine lv_iconst (v := 2) hx hb dX4_length_8 (by decide) ?_
  refine lv_icmp_ne (tgt := 23) hx hb dX4_length_9 (by decide) (fun c1 => ?_) (fun c1 => ?_)
  · refine lv_iconst (v := 0) hx hb dX4_length_23 (by decide) ?_
    refine k_i (k := 0) (n := 0) hA B (u_S (rest := [.int (st_lens.getD ((a1 - 1).toNatClampNeg) 0)]) X (c_X4_one l g N ad f 0 H.size) mw_X4_one md_X4_one rfl lk_X4_91 ⟨Nat.le_of_ble_eq_true rfl, Nat.le_of_ble_eq_true rfl⟩ hA hK hT B hl.1 rfl (Nat.le_of_ble_eq_true rfl) dX4_length_24 ⟨Nat.le_of_ble_eq_true rfl, Nat.le_of_ble_eq_true rfl⟩) (Nat.le_of_ble_eq_true rfl) (Nat.le_of_ble_eq_true rfl) (fun r ad' f' H locs hw B => ?_)
    obtain ⟨rfl, rfl, rfl⟩ := hw
    refine lv_iadd hx hb dX4_length_27 ?_
    have ev := (show v_X4_length a0 a1 = (st_lens.getD ((a1 - 1).toNatClampNeg) 0) + (v_X4_one 0) from by unfold v_X4_length; rw [if_neg c1])
    exact rt_i X hr (ad, f) B (PO_of B) ⟨rfl, ev, rfl⟩ rfl (Nat.le_of_ble_eq_true rfl) (Nat.le_of_ble_eq_true rfl) dX4_length_28
  · refine lv_iload_n hx hb dX4_length_12 rfl (lv_at hl 0 rfl) ?_
    refine k_i (k := 0) (n := 0) hA B (u_S (rest := [.int (st_lens.getD ((a1 - 1).toNatClampNeg) 0)]) X (c_X4_isLong l g N ad f a0 H.size) mw_X4_isLong md_X4_isLong rfl lk_X4_174 ⟨Nat.le_of_ble_eq_true rfl, Nat.le_of_ble_eq_true rfl⟩ hA hK hT B hl.1 rfl (Nat.le_of_ble_eq_true rfl) dX4_length_13 ⟨Nat.le_of_ble_eq_true rfl, Nat.le_of_ble_eq_true rfl⟩) (Nat.le_of_ble_eq_true rfl) (Nat.le_of_ble_eq_true rfl) (fun r ad' f' H locs hw B => ?_)
    obtain ⟨rfl, rfl, rfl⟩ := hw
    refine lv_if_eq (tgt := 23) hx hb dX4_length_16 (by decide) (fun c2 => ?_) (fun c2 => ?_)
    · refine lv_iconst (v := 0) hx hb dX4_length_23 (by decide) ?_
      refine k_i (k := 0) (n := 0) hA B (u_S (rest := [.int (st_lens.getD ((a1 - 1).toNatClampNeg) 0)]) X (c_X4_one l g N ad f 0 H.size) mw_X4_one md_X4_one rfl lk_X4_91 ⟨Nat.le_of_ble_eq_true rfl, Nat.le_of_ble_eq_true rfl⟩ hA hK hT B hl.1 rfl (Nat.le_of_ble_eq_true rfl) dX4_length_24 ⟨Nat.le_of_ble_eq_true rfl, Nat.le_of_ble_eq_true rfl⟩) (Nat.le_of_ble_eq_true rfl) (Nat.le_of_ble_eq_true rfl) (fun r ad' f' H locs hw B => ?_)
      obtain ⟨rfl, rfl, rfl⟩ := hw
      refine lv_iadd hx hb dX4_length_27 ?_
      have ev := (show v_X4_length a0 a1 = (st_lens.getD ((a1 - 1).toNatClampNeg) 0) + (v_X4_one 0) from by unfold v_X4_length; rw [if_pos c1, if_pos c2])
      exact rt_i X hr (ad, f) B (PO_of B) ⟨rfl, ev, rfl⟩ rfl (Nat.le_of_ble_eq_true rfl) (Nat.le_of_ble_eq_true rfl) dX4_length_28
    · refine lv_iconst (v := 1) hx hb dX4_length_19 (by decide) ?_
      refine lv_goto (tgt := 24) hx hb dX4_length_20 (by decide) ?_
      refine k_i (k := 0) (n := 0) hA B (u_S (rest := [.int (st_lens.getD ((a1 - 1).toNatClampNeg) 0)]) X (c_X4_one l g N ad f 1 H.size) mw_X4_one md_X4_one rfl lk_X4_91 ⟨Nat.le_of_ble_eq_true rfl, Nat.le_of_ble_eq_true rfl⟩ hA hK hT B hl.1 rfl (Nat.le_of_ble_eq_true rfl) dX4_length_24 ⟨Nat.le_of_ble_eq_true rfl, Nat.le_of_ble_eq_true rfl⟩) (Nat.le_of_ble_eq_true rfl) (Nat.le_of_ble_eq_true rfl) (fun r ad' f' H locs hw B => ?_)
      obtain ⟨rfl, rfl, rfl⟩ := hw
      refine lv_iadd hx hb dX4_length_27 ?_
      have ev := (show v_X4_length a0 a1 = (st_lens.getD ((a1 - 1).toNatClampNeg) 0) + (v_X4_one 1) from by unfold v_X4_length; rw [if_pos c1, if_neg c2])
      exact rt_i X hr (ad, f) B (PO_of B) ⟨rfl, ev, rfl⟩ rfl (Nat.le_of_ble_eq_true rfl) (Nat.le_of_ble_eq_true rfl) dX4_length_28
def wX4_number_22 (tj0 : TR) : Nat → Int32 → Int32 → Int32
  | 0, mm, ds => 0
  | n + 1, mm, ds => if tj0.2.1 ≤ mm then ds else (wX4_number_22 tj0 n (mm + 1) (ds + (v_X4_length tj0.1 mm)))
def v_X4_number (tj0 : TR) : Int32 := wX4_number_22 tj0 ((tj0.2.1.toInt - (1 : Int32).toInt).toNat + 1) 1 ((((v_X4_daysTo tj0.1) - (v_X4_daysTo 1970)) + tj0.2.2) - 1)
set_option maxHeartbeats 4000000 in
set_option maxRecDepth 100000 in
theorem c_X4_number (l : Launch) (g : GG) (N : Nat) (ad : Nat → Nat) (f : Nat → va_E) (j0 bj0 : Nat) (tj0 : TR) (hj0 : j0 < N) (hbj0 : ad j0 = bj0) (hfj0 : f j0 = c_row g tj0) (ht : ¬ 12 < tj0.2.1) : KI l yX4_number cX4_number 3 (some .int) (rm 2 0 0) g [.ref bj0] N ad f N (fun r ad' f' => ad = ad' ∧ (v_X4_number tj0) = r ∧ f = f') := by
  intro sz
  refine mt_start (by decide) (Nat.le_of_ble_eq_true rfl) ?_
  intro p e s m args below meth c hsz X hr hnam hA hK hT H locs B ls hl
  obtain ⟨hx, hb, hml, hown, hts, hlocks⟩ := id X
  have hl : lv_has ls 3 [(0, .ref bj0)] := hl
  refine lv_aload_n hx hb dX4_number_0 rfl (lv_at hl 0 rfl) ?_
  refine lv_iconst (v := 0) hx hb dX4_number_1 (by decide) ?_
  refine h_ld0 X hK B hj0 hbj0 hfj0 dX4_number_2 ?_
  refine k_i (k := 0) (n := 0) hA B (u_S (rest := []) X (c_X4_daysTo l g N ad f tj0.1 H.size) mw_X4_daysTo md_X4_daysTo rfl lk_X4_177 ⟨Nat.le_of_ble_eq_true rfl, Nat.le_of_ble_eq_true rfl⟩ hA hK hT B hl.1 rfl (Nat.le_of_ble_eq_true rfl) dX4_number_3 ⟨Nat.le_of_ble_eq_true rfl, Nat.le_of_ble_eq_true rfl⟩) (Nat.le_of_ble_eq_true rfl) (Nat.le_of_ble_eq_true rfl) (fun r ad' f' H locs hw B => ?_)
  obtain ⟨rfl, rfl, rfl⟩ := hw
  refine lv_sipush (v := 1970) hx hb dX4_number_6 (by decide) ?_
  refine k_i (k := 0) (n := 0) hA B (u_S (rest := [.int (v_X4_daysTo tj0.1)]) X (c_X4_daysTo l g N ad f 1970 H.size) mw_X4_daysTo md_X4_daysTo rfl lk_X4_177 ⟨Nat.le_of_ble_eq_true rfl, Nat.le_of_ble_eq_true rfl⟩ hA hK hT B hl.1 rfl (Nat.le_of_ble_eq_true rfl) dX4_number_9 ⟨Nat.le_of_ble_eq_true rfl, Nat.le_of_ble_eq_true rfl⟩) (Nat.le_of_ble_eq_true rfl) (Nat.le_of_ble_eq_true rfl) (fun r ad' f' H locs hw B => ?_)
  obtain ⟨rfl, rfl, rfl⟩ := hw
  refine lv_isub hx hb dX4_number_12 ?_
  refine lv_aload_n hx hb dX4_number_13 rfl (lv_at hl 0 rfl) ?_
  refine lv_iconst (v := 2) hx hb dX4_number_14 (by decide) ?_
  refine h_ld2 X hK B hj0 hbj0 hfj0 dX4_number_15 ?_
  refine lv_iadd hx hb dX4_number_16 ?_
  refine lv_iconst (v := 1) hx hb dX4_number_17 (by decide) ?_
  refine lv_isub hx hb dX4_number_18 ?_
  refine lv_istore_n (lv' := [(1, .int ((((v_X4_daysTo tj0.1) - (v_X4_daysTo 1970)) + tj0.2.2) - 1)), (0, .ref bj0)]) hx hb dX4_number_19 rfl hl (by decide) rfl (fun ls hl => ?_)
  refine lv_iconst (v := 1) hx hb dX4_number_20 (by decide) ?_
  refine lv_istore_n (lv' := [(2, .int 1), (1, .int ((((v_X4_daysTo tj0.1) - (v_X4_daysTo 1970)) + tj0.2.2) - 1)), (0, .ref bj0)]) hx hb dX4_number_21 rfl hl (by decide) rfl (fun ls hl => ?_)
  have loop1 : ∀ (n1 : Nat) (mm : Int32) (ds : Int32) (H : Heap) (locs : List Loc), (tj0.2.1.toInt - mm.toInt).toNat < n1 → v_X4_number tj0 = wX4_number_22 tj0 n1 mm ds → 1 ≤ mm → WB g (aw N ad sz) s.heap N ad f H locs → ∀ ls : Array Slot, lv_has ls 3 [(2, .int mm), (1, .int ds), (0, .ref bj0)] → W p l e (rm 2 0 0) s m args below meth c H locs 0 0 (MQ below (va_Qi (fun r (u : WS) => (fun r ad' f' => ad = ad' ∧ (v_X4_number tj0) = r ∧ f = f') r u.1 u.2) (fun u t => PO g N u.1 u.2 (aw N ad sz) t) (aw N ad sz)) args s (rm 2 0 0).cells (rm 2 0 0).slots (aw N ad sz)) (F0 m 22 ls []) := by
    intro n1
    induction n1 with
    | zero => intro mm ds H locs hn; exact absurd hn (Nat.not_lt_zero _)
    | succ n1 ih1 =>
      intro mm ds H locs hn1 he1 hmm B ls hl
      refine lv_iload_n hx hb dX4_number_22 rfl (lv_at hl 0 rfl) ?_
      refine lv_aload_n hx hb dX4_number_23 rfl (lv_at hl 2 rfl) ?_
      refine lv_iconst (v := 1) hx hb dX4_number_24 (by decide) ?_
      refine h_ld1 X hK B hj0 hbj0 hfj0 dX4_number_25 ?_
      refine lv_icmp_ge (tgt := 45) hx hb dX4_number_26 (by decide) (fun c2 => ?_) (fun c2 => ?_)
      · refine lv_iload_n hx hb dX4_number_45 rfl (lv_at hl 1 rfl) ?_
        have ev := (show v_X4_number tj0 = ds from he1.trans (by rw [wX4_number_22, if_pos c2]))
        exact rt_i X hr (ad, f) B (PO_of B) ⟨rfl, ev, rfl⟩ rfl (Nat.le_of_ble_eq_true rfl) (Nat.le_of_ble_eq_true rfl) dX4_number_46
      · refine lv_iload_n hx hb dX4_number_29 rfl (lv_at hl 1 rfl) ?_
        refine lv_aload_n hx hb dX4_number_30 rfl (lv_at hl 2 rfl) ?_
        refine lv_iconst (v := 0) hx hb dX4_number_31 (by decide) ?_
        refine h_ld0 X hK B hj0 hbj0 hfj0 dX4_number_32 ?_
        refine lv_iload_n hx hb dX4_number_33 rfl (lv_at hl 0 rfl) ?_
        refine k_i (k := 0) (n := 0) hA B (u_S (rest := [.int ds]) X (c_X4_length l g N ad f tj0.1 mm (mo_in hmm c2 ht) H.size) mw_X4_length md_X4_length rfl lk_X4_181 ⟨Nat.le_of_ble_eq_true rfl, Nat.le_of_ble_eq_true rfl⟩ hA hK hT B hl.1 rfl (Nat.le_of_ble_eq_true rfl) dX4_number_34 ⟨Nat.le_of_ble_eq_true rfl, Nat.le_of_ble_eq_true rfl⟩) (Nat.le_of_ble_eq_true rfl) (Nat.le_of_ble_eq_true rfl) (fun r ad' f' H locs hw B => ?_)
        obtain ⟨rfl, rfl, rfl⟩ := hw
        refine lv_iadd hx hb dX4_number_37 ?_
        refine lv_istore_n (lv' := [(1, .int (ds + (v_X4_length tj0.1 mm))), (2, .int mm), (0, .ref bj0)]) hx hb dX4_number_38 rfl hl (by decide) rfl (fun ls hl => ?_)
        refine lv_iinc (v := mm + 1) (lv' := [(2, .int (mm + 1)), (1, .int (ds + (v_X4_length tj0.1 mm))), (0, .ref bj0)]) hx hb dX4_number_39 hl (k := 1) rfl rfl (by decide) rfl (fun ls hl => ?_)
        refine lv_goto (tgt := 22) hx hb dX4_number_42 (by decide) ?_
        exact ih1 (mm + 1) (ds + (v_X4_length tj0.1 mm)) H locs (fu_le c2 hn1) (show v_X4_number tj0 = wX4_number_22 tj0 n1 (mm + 1) (ds + (v_X4_length tj0.1 mm)) from he1.trans (by rw [wX4_number_22, if_neg c2])) (mo_inc hmm c2) B ls (lv_sub hl [0, 1, 2] rfl)
  exact loop1 ((tj0.2.1.toInt - (1 : Int32).toInt).toNat + 1) 1 ((((v_X4_daysTo tj0.1) - (v_X4_daysTo 1970)) + tj0.2.2) - 1) H locs (Nat.lt_succ_self _) (show v_X4_number tj0 = wX4_number_22 tj0 ((tj0.2.1.toInt - (1 : Int32).toInt).toNat + 1) 1 ((((v_X4_daysTo tj0.1) - (v_X4_daysTo 1970)) + tj0.2.2) - 1) from rfl) (by decide) B ls hl
def v_X4_onByMonths (tj0 : TR) (b1 : Int64) : Option TR := if (v_X4_isIn ((((12 * tj0.1.toInt64) + tj0.2.1.toInt64) - 1) + b1) 19200 28811) = 0 then none else (some ((((((12 * tj0.1.toInt64) + tj0.2.1.toInt64) - 1) + b1) / 12).toInt32, ((((((12 * tj0.1.toInt64) + tj0.2.1.toInt64) - 1) + b1) - ((((12 * tj0.1.toInt64) + tj0.2.1.toInt64) - 1) + b1) / 12 * 12).toInt32) + 1, if (v_X4_length ((((((12 * tj0.1.toInt64) + tj0.2.1.toInt64) - 1) + b1) / 12).toInt32) (((((((12 * tj0.1.toInt64) + tj0.2.1.toInt64) - 1) + b1) - ((((12 * tj0.1.toInt64) + tj0.2.1.toInt64) - 1) + b1) / 12 * 12).toInt32) + 1)) < tj0.2.2 then (v_X4_length ((((((12 * tj0.1.toInt64) + tj0.2.1.toInt64) - 1) + b1) / 12).toInt32) (((((((12 * tj0.1.toInt64) + tj0.2.1.toInt64) - 1) + b1) - ((((12 * tj0.1.toInt64) + tj0.2.1.toInt64) - 1) + b1) / 12 * 12).toInt32) + 1)) else tj0.2.2))
set_option maxHeartbeats 4000000 in
set_option maxRecDepth 100000 in
theorem c_X4_onByMonths (l : Launch) (g : GG) (N : Nat) (ad : Nat → Nat) (f : Nat → va_E) (j0 bj0 : Nat) (tj0 : TR) (hj0 : j0 < N) (hbj0 : ad j0 = bj0) (hfj0 : f j0 = c_row g tj0) (b1 : Int64) : KR l yX4_onByMonths cX4_onByMonths 7 (.array .int) (rm 2 1 3) g [.ref bj0, .long b1] N ad f (N + nz (v_X4_onByMonths tj0 b1)) (fun r ad' f' => pw g (v_X4_onByMonths tj0 b1) N ad f r ad' f') := by
  intro sz
  refine mt_start (by decide) (Nat.le_of_ble_eq_true rfl) ?_
  intro p e s m args below meth c hsz X hr hnam hA hK hT H locs B ls hl
  obtain ⟨hx, hb, hml, hown, hts, hlocks⟩ := id X
  have hl : lv_has ls 7 [(0, .ref bj0), (1, .long b1)] := hl
  refine lv_ldc2 hx hb hown (hts _ (List.mem_cons_of_mem _ lk_X4_41)) dX4_onByMonths_0 ?_
  refine lv_aload_n hx hb dX4_onByMonths_3 rfl (lv_at hl 0 rfl) ?_
  refine lv_iconst (v := 0) hx hb dX4_onByMonths_4 (by decide) ?_
  refine h_ld0 X hK B hj0 hbj0 hfj0 dX4_onByMonths_5 ?_
  refine lv_i2l (v := tj0.1.toInt64) hx hb dX4_onByMonths_6 rfl ?_
  refine lv_lmul hx hb dX4_onByMonths_7 ?_
  refine lv_aload_n hx hb dX4_onByMonths_8 rfl (lv_at hl 0 rfl) ?_
  refine lv_iconst (v := 1) hx hb dX4_onByMonths_9 (by decide) ?_
  refine h_ld1 X hK B hj0 hbj0 hfj0 dX4_onByMonths_10 ?_
  refine lv_i2l (v := tj0.2.1.toInt64) hx hb dX4_onByMonths_11 rfl ?_
  refine lv_ladd hx hb dX4_onByMonths_12 ?_
  refine lv_lconst (v := 1) hx hb dX4_onByMonths_13 (by decide) ?_
  refine lv_lsub hx hb dX4_onByMonths_14 ?_
  refine lv_lload_n hx hb dX4_onByMonths_15 rfl (lv_at hl 1 rfl) ?_
  refine lv_ladd hx hb dX4_onByMonths_16 ?_
  refine lv_lstore_n (lv' := [(3, .long ((((12 * tj0.1.toInt64) + tj0.2.1.toInt64) - 1) + b1)), (0, .ref bj0), (1, .long b1)]) hx hb dX4_onByMonths_17 rfl hl (by decide) rfl (fun ls hl => ?_)
  refine lv_lload_n hx hb dX4_onByMonths_18 rfl (lv_at hl 0 rfl) ?_
  refine lv_ldc2 hx hb hown (hts _ (List.mem_cons_of_mem _ lk_X4_185)) dX4_onByMonths_19 ?_
  refine lv_ldc2 hx hb hown (hts _ (List.mem_cons_of_mem _ lk_X4_187)) dX4_onByMonths_22 ?_
  refine k_i (k := 0) (n := 0) hA B (u_S (rest := []) X (c_X4_isIn l g N ad f ((((12 * tj0.1.toInt64) + tj0.2.1.toInt64) - 1) + b1) 19200 28811 H.size) mw_X4_isIn md_X4_isIn rfl lk_X4_37 ⟨Nat.le_of_ble_eq_true rfl, Nat.le_of_ble_eq_true rfl⟩ hA hK hT B hl.1 rfl (Nat.le_of_ble_eq_true rfl) dX4_onByMonths_25 ⟨Nat.le_of_ble_eq_true rfl, Nat.le_of_ble_eq_true rfl⟩) (Nat.le_of_ble_eq_true rfl) (Nat.le_of_ble_eq_true rfl) (fun r ad' f' H locs hw B => ?_)
  obtain ⟨rfl, rfl, rfl⟩ := hw
  refine lv_if_ne (tgt := 33) hx hb dX4_onByMonths_28 (by decide) (fun c1 => ?_) (fun c1 => ?_)
  · refine lv_lload_n hx hb dX4_onByMonths_33 rfl (lv_at hl 0 rfl) ?_
    refine lv_ldc2 hx hb hown (hts _ (List.mem_cons_of_mem _ lk_X4_41)) dX4_onByMonths_34 ?_
    refine lv_ldiv hx hb dX4_onByMonths_37 (by decide) ?_
    refine lv_l2i (v := (((((12 * tj0.1.toInt64) + tj0.2.1.toInt64) - 1) + b1) / 12).toInt32) hx hb dX4_onByMonths_38 rfl ?_
    refine lv_istore (lv' := [(5, .int ((((((12 * tj0.1.toInt64) + tj0.2.1.toInt64) - 1) + b1) / 12).toInt32)), (3, .long ((((12 * tj0.1.toInt64) + tj0.2.1.toInt64) - 1) + b1)), (0, .ref bj0), (1, .long b1)]) hx hb dX4_onByMonths_39 hl (by decide) rfl (fun ls hl => ?_)
    refine lv_lload_n hx hb dX4_onByMonths_41 rfl (lv_at hl 1 rfl) ?_
    refine lv_ldc2 hx hb hown (hts _ (List.mem_cons_of_mem _ lk_X4_41)) dX4_onByMonths_42 ?_
    refine lv_lrem hx hb dX4_onByMonths_45 (by decide) ?_
    refine lv_l2i (v := (((((12 * tj0.1.toInt64) + tj0.2.1.toInt64) - 1) + b1) - ((((12 * tj0.1.toInt64) + tj0.2.1.toInt64) - 1) + b1) / 12 * 12).toInt32) hx hb dX4_onByMonths_46 rfl ?_
    refine lv_iconst (v := 1) hx hb dX4_onByMonths_47 (by decide) ?_
    refine lv_iadd hx hb dX4_onByMonths_48 ?_
    refine lv_istore (lv' := [(6, .int (((((((12 * tj0.1.toInt64) + tj0.2.1.toInt64) - 1) + b1) - ((((12 * tj0.1.toInt64) + tj0.2.1.toInt64) - 1) + b1) / 12 * 12).toInt32) + 1)), (5, .int ((((((12 * tj0.1.toInt64) + tj0.2.1.toInt64) - 1) + b1) / 12).toInt32)), (3, .long ((((12 * tj0.1.toInt64) + tj0.2.1.toInt64) - 1) + b1)), (0, .ref bj0), (1, .long b1)]) hx hb dX4_onByMonths_49 hl (by decide) rfl (fun ls hl => ?_)
    refine lv_iconst (v := 3) hx hb dX4_onByMonths_51 (by decide) ?_
    refine h_new3 (cz := 1) (sz := 3) X hA hK B (Nat.le_of_ble_eq_true rfl) (Nat.le_of_ble_eq_true rfl) (Nat.le_of_ble_eq_true rfl) (Nat.le_of_ble_eq_true rfl) dX4_onByMonths_52 (fun z2 H B => ?_)
    refine lv_dup hx hb dX4_onByMonths_54 rfl ?_
    refine lv_iconst (v := 0) hx hb dX4_onByMonths_55 (by decide) ?_
    refine lv_iload hx hb dX4_onByMonths_56 (lv_at hl 1 rfl) ?_
    refine h_st (t := (0, 0, 0)) (t' := ((((((12 * tj0.1.toInt64) + tj0.2.1.toInt64) - 1) + b1) / 12).toInt32, 0, 0)) X hK B (Nat.lt_succ_self _) up_eq up_eq (by unfold vp_in; decide) (rw3_s0 _ _) dX4_onByMonths_58 (fun H locs B => ?_)
    rw [bx_uu] at B
    refine lv_dup hx hb dX4_onByMonths_59 rfl ?_
    refine lv_iconst (v := 1) hx hb dX4_onByMonths_60 (by decide) ?_
    refine lv_iload hx hb dX4_onByMonths_61 (lv_at hl 0 rfl) ?_
    refine h_st (t := ((((((12 * tj0.1.toInt64) + tj0.2.1.toInt64) - 1) + b1) / 12).toInt32, 0, 0)) (t' := ((((((12 * tj0.1.toInt64) + tj0.2.1.toInt64) - 1) + b1) / 12).toInt32, ((((((12 * tj0.1.toInt64) + tj0.2.1.toInt64) - 1) + b1) - ((((12 * tj0.1.toInt64) + tj0.2.1.toInt64) - 1) + b1) / 12 * 12).toInt32) + 1, 0)) X hK B (Nat.lt_succ_self _) up_eq up_eq (by unfold vp_in; decide) (rw3_s1 _ _) dX4_onByMonths_63 (fun H locs B => ?_)
    rw [bx_uu] at B
    refine lv_dup hx hb dX4_onByMonths_64 rfl ?_
    refine lv_iconst (v := 2) hx hb dX4_onByMonths_65 (by decide) ?_
    refine lv_aload_n hx hb dX4_onByMonths_66 rfl (lv_at hl 3 rfl) ?_
    refine lv_iconst (v := 2) hx hb dX4_onByMonths_67 (by decide) ?_
    refine h_ld2 X hK B (Nat.lt_succ_of_lt hj0) ((up_lt hj0).trans hbj0) ((up_lt hj0).trans hfj0) dX4_onByMonths_68 ?_
    refine lv_iload hx hb dX4_onByMonths_69 (lv_at hl 1 rfl) ?_
    refine lv_iload hx hb dX4_onByMonths_71 (lv_at hl 0 rfl) ?_
    refine k_i (k := 1) (n := 3) hA B (u_S (rest := [.int tj0.2.2, .int 2, .ref z2, .ref z2]) X (c_X4_length l g (N + 1) (va_up ad N z2) (va_up f N (c_row g ((((((12 * tj0.1.toInt64) + tj0.2.1.toInt64) - 1) + b1) / 12).toInt32, ((((((12 * tj0.1.toInt64) + tj0.2.1.toInt64) - 1) + b1) - ((((12 * tj0.1.toInt64) + tj0.2.1.toInt64) - 1) + b1) / 12 * 12).toInt32) + 1, 0))) ((((((12 * tj0.1.toInt64) + tj0.2.1.toInt64) - 1) + b1) / 12).toInt32) (((((((12 * tj0.1.toInt64) + tj0.2.1.toInt64) - 1) + b1) - ((((12 * tj0.1.toInt64) + tj0.2.1.toInt64) - 1) + b1) / 12 * 12).toInt32) + 1) (om_in c1 (by decide)) H.size) mw_X4_length md_X4_length rfl lk_X4_181 ⟨Nat.le_of_ble_eq_true rfl, Nat.le_of_ble_eq_true rfl⟩ hA hK hT B hl.1 rfl (Nat.le_of_ble_eq_true rfl) dX4_onByMonths_73 ⟨Nat.le_of_ble_eq_true rfl, Nat.le_of_ble_eq_true rfl⟩) (Nat.le_of_ble_eq_true rfl) (Nat.le_of_ble_eq_true rfl) (fun r ad' f' H locs hw B => ?_)
    obtain ⟨rfl, rfl, rfl⟩ := hw
    refine va_mmin (R := (rm 2 1 3)) (cells := 1) (slots := 3) (rest := [.int 2, .ref z2, .ref z2]) hx hb (by rw [hml]; exact hl.1.symm) hown (hts _ (List.mem_cons_of_mem _ lk_X4_189)) (hts _ (List.mem_cons_of_mem _ mw_min.2.1)) (hts _ (List.mem_cons_of_mem _ mw_min.2.2)) (hts _ (List.mem_cons_of_mem _ mw_min.1)) (Nat.le_of_ble_eq_true rfl) (Nat.le_of_ble_eq_true rfl) (Nat.le_of_ble_eq_true rfl) (Nat.le_of_ble_eq_true rfl) dX4_onByMonths_76 ?_
    refine h_st (t := ((((((12 * tj0.1.toInt64) + tj0.2.1.toInt64) - 1) + b1) / 12).toInt32, ((((((12 * tj0.1.toInt64) + tj0.2.1.toInt64) - 1) + b1) - ((((12 * tj0.1.toInt64) + tj0.2.1.toInt64) - 1) + b1) / 12 * 12).toInt32) + 1, 0)) (t' := ((((((12 * tj0.1.toInt64) + tj0.2.1.toInt64) - 1) + b1) / 12).toInt32, ((((((12 * tj0.1.toInt64) + tj0.2.1.toInt64) - 1) + b1) - ((((12 * tj0.1.toInt64) + tj0.2.1.toInt64) - 1) + b1) / 12 * 12).toInt32) + 1, if (v_X4_length ((((((12 * tj0.1.toInt64) + tj0.2.1.toInt64) - 1) + b1) / 12).toInt32) (((((((12 * tj0.1.toInt64) + tj0.2.1.toInt64) - 1) + b1) - ((((12 * tj0.1.toInt64) + tj0.2.1.toInt64) - 1) + b1) / 12 * 12).toInt32) + 1)) < tj0.2.2 then (v_X4_length ((((((12 * tj0.1.toInt64) + tj0.2.1.toInt64) - 1) + b1) / 12).toInt32) (((((((12 * tj0.1.toInt64) + tj0.2.1.toInt64) - 1) + b1) - ((((12 * tj0.1.toInt64) + tj0.2.1.toInt64) - 1) + b1) / 12 * 12).toInt32) + 1)) else tj0.2.2)) X hK B (Nat.lt_succ_self _) up_eq up_eq (by unfold vp_in; decide) (rw3_s2 _ _) dX4_onByMonths_79 (fun H locs B => ?_)
    rw [bx_uu] at B
    have ev := (show v_X4_onByMonths tj0 b1 = some ((((((12 * tj0.1.toInt64) + tj0.2.1.toInt64) - 1) + b1) / 12).toInt32, ((((((12 * tj0.1.toInt64) + tj0.2.1.toInt64) - 1) + b1) - ((((12 * tj0.1.toInt64) + tj0.2.1.toInt64) - 1) + b1) / 12 * 12).toInt32) + 1, if (v_X4_length ((((((12 * tj0.1.toInt64) + tj0.2.1.toInt64) - 1) + b1) / 12).toInt32) (((((((12 * tj0.1.toInt64) + tj0.2.1.toInt64) - 1) + b1) - ((((12 * tj0.1.toInt64) + tj0.2.1.toInt64) - 1) + b1) / 12 * 12).toInt32) + 1)) < tj0.2.2 then (v_X4_length ((((((12 * tj0.1.toInt64) + tj0.2.1.toInt64) - 1) + b1) / 12).toInt32) (((((((12 * tj0.1.toInt64) + tj0.2.1.toInt64) - 1) + b1) - ((((12 * tj0.1.toInt64) + tj0.2.1.toInt64) - 1) + b1) / 12 * 12).toInt32) + 1)) else tj0.2.2) from by unfold v_X4_onByMonths; rw [if_neg c1])
    have B : WB g (aw N ad sz) s.heap (N + 1) (va_up ad N z2) (va_up f N (c_row g ((((((12 * tj0.1.toInt64) + tj0.2.1.toInt64) - 1) + b1) / 12).toInt32, ((((((12 * tj0.1.toInt64) + tj0.2.1.toInt64) - 1) + b1) - ((((12 * tj0.1.toInt64) + tj0.2.1.toInt64) - 1) + b1) / 12 * 12).toInt32) + 1, if (v_X4_length ((((((12 * tj0.1.toInt64) + tj0.2.1.toInt64) - 1) + b1) / 12).toInt32) (((((((12 * tj0.1.toInt64) + tj0.2.1.toInt64) - 1) + b1) - ((((12 * tj0.1.toInt64) + tj0.2.1.toInt64) - 1) + b1) / 12 * 12).toInt32) + 1)) < tj0.2.2 then (v_X4_length ((((((12 * tj0.1.toInt64) + tj0.2.1.toInt64) - 1) + b1) / 12).toInt32) (((((((12 * tj0.1.toInt64) + tj0.2.1.toInt64) - 1) + b1) - ((((12 * tj0.1.toInt64) + tj0.2.1.toInt64) - 1) + b1) / 12 * 12).toInt32) + 1)) else tj0.2.2))) H locs := WB_pick B (by omega) (Nat.lt_succ_self _) (fun _ hk => (up_lt hk)) (fun _ hk => (up_lt hk)) up_eq up_eq
    exact rt_r (r := some z2) rfl X hr (Or.inr ⟨_, rfl⟩) (va_up ad N z2, va_up f N (c_row g ((((((12 * tj0.1.toInt64) + tj0.2.1.toInt64) - 1) + b1) / 12).toInt32, ((((((12 * tj0.1.toInt64) + tj0.2.1.toInt64) - 1) + b1) - ((((12 * tj0.1.toInt64) + tj0.2.1.toInt64) - 1) + b1) / 12 * 12).toInt32) + 1, if (v_X4_length ((((((12 * tj0.1.toInt64) + tj0.2.1.toInt64) - 1) + b1) / 12).toInt32) (((((((12 * tj0.1.toInt64) + tj0.2.1.toInt64) - 1) + b1) - ((((12 * tj0.1.toInt64) + tj0.2.1.toInt64) - 1) + b1) / 12 * 12).toInt32) + 1)) < tj0.2.2 then (v_X4_length ((((((12 * tj0.1.toInt64) + tj0.2.1.toInt64) - 1) + b1) / 12).toInt32) (((((((12 * tj0.1.toInt64) + tj0.2.1.toInt64) - 1) + b1) - ((((12 * tj0.1.toInt64) + tj0.2.1.toInt64) - 1) + b1) / 12 * 12).toInt32) + 1)) else tj0.2.2))) B (by rw [ev]; exact PO_of B) (by rw [ev]; exact pw_is) (Nat.le_of_ble_eq_true rfl) (Nat.le_of_ble_eq_true rfl) dX4_onByMonths_80
  · refine lv_null hx hb dX4_onByMonths_31 ?_
    have ev := (show v_X4_onByMonths tj0 b1 = none from by unfold v_X4_onByMonths; rw [if_pos c1])
    exact rt_r (r := none) rfl X hr (Or.inr ⟨_, rfl⟩) (ad, f) B (by rw [ev]; exact PO_of B) (by rw [ev]; exact pw_in) (Nat.le_of_ble_eq_true rfl) (Nat.le_of_ble_eq_true rfl) dX4_onByMonths_32
end
section
/-! more numbers of the reference: spans that are there -/
theorem om_id (v : Option TR) : om v none (fun t => some t) = v := by cases v <;> rfl
def inr (x : Int64) : Prop := -2147483648 ≤ x.toInt ∧ x.toInt ≤ 2147483647
theorem inr_iff {x : Int64} : ¬ v_X4_isIn x (-2147483648) 2147483647 = 0 ↔ inr x := by
  rw [in_iff, Int64.le_iff_toInt_le, Int64.le_iff_toInt_le]
  exact Iff.rfl
theorem span_some {a b c : Int64} {t : TR} : v_X4_span a b c = some t ↔ (inr a ∧ inr b ∧ inr c) ∧ t = (a.toInt32, b.toInt32, c.toInt32) := by
  unfold v_X4_span
  by_cases h1 : v_X4_isIn a (-2147483648) 2147483647 = 0
  · rw [if_pos h1]
    exact ⟨fun h => (nomatch h), fun h => absurd h1 (inr_iff.mpr h.1.1)⟩
  · rw [if_neg h1]
    by_cases h2 : v_X4_isIn b (-2147483648) 2147483647 = 0
    · rw [if_pos h2]
      exact ⟨fun h => (nomatch h), fun h => absurd h2 (inr_iff.mpr h.1.2.1)⟩
    · rw [if_neg h2]
      by_cases h3 : v_X4_isIn c (-2147483648) 2147483647 = 0
      · rw [if_pos h3]
        exact ⟨fun h => (nomatch h), fun h => absurd h3 (inr_iff.mpr h.1.2.2)⟩
      · rw [if_neg h3]
        constructor
        · intro h
          exact ⟨⟨inr_iff.mp h1, inr_iff.mp h2, inr_iff.mp h3⟩, (Option.some.inj h).symm⟩
        · intro h
          rw [h.2]
theorem inr_32 {x : Int64} (h : inr x) : x.toInt32.toInt64 = x := by
  apply Int64.toInt_inj.mp
  rw [Int32.toInt_toInt64, Int64.toInt_toInt32]
  unfold inr at h
  rw [Int.bmod_eq_of_le (by omega) (by omega)]
theorem inr_of (x : Int32) : inr x.toInt64 := by
  unfold inr
  rw [Int32.toInt_toInt64]
  have := Int32.toInt_lt x
  have := Int32.le_toInt x
  omega
theorem i32_64 (x : Int32) : x.toInt64.toInt32 = x := by
  apply Int32.toInt_inj.mp
  rw [Int64.toInt_toInt32, Int32.toInt_toInt64]
  have := Int32.toInt_lt x
  have := Int32.le_toInt x
  rw [Int.bmod_eq_of_le (by omega) (by omega)]
theorem opp_i {x : Int32} (h : inr (0 + -1 * x.toInt64)) : 0 + -1 * (0 + -1 * x.toInt64).toInt32.toInt64 = x.toInt64 := by
  rw [inr_32 h]
  apply Int64.toBitVec_inj.mp
  simp only [Int64.toBitVec_add, Int64.toBitVec_mul, Int64.toBitVec_neg]
  generalize x.toInt64.toBitVec = v
  show 0#64 + -(1#64) * (0#64 + -(1#64) * v) = v
  rw [BitVec.zero_add, BitVec.zero_add, BitVec.neg_mul, BitVec.one_mul, BitVec.neg_mul, BitVec.one_mul, BitVec.neg_neg]
theorem opp_opp {t t' : TR} (h : v_X4_opposed t = some t') : v_X4_opposed t' = some t := by
  unfold v_X4_opposed v_X4_sum v_X4_nothing at h ⊢
  rw [om_id, om_id] at h ⊢
  obtain ⟨⟨h1, h2, h3⟩, rfl⟩ := span_some.mp h
  have z : (0 : Int32).toInt64 = 0 := rfl
  refine span_some.mpr ?_
  rw [z] at h1 h2 h3 ⊢
  rw [opp_i h1, opp_i h2, opp_i h3]
  refine ⟨⟨inr_of _, inr_of _, inr_of _⟩, ?_⟩
  rw [i32_64, i32_64, i32_64]
theorem sum_i {x y : Int32} (h : inr (x.toInt64 + 1 * y.toInt64)) : (x.toInt64 + 1 * y.toInt64).toInt32.toInt64 + -1 * y.toInt64 = x.toInt64 := by
  rw [inr_32 h]
  apply Int64.toBitVec_inj.mp
  simp only [Int64.toBitVec_add, Int64.toBitVec_mul, Int64.toBitVec_neg]
  generalize x.toInt64.toBitVec = v
  generalize y.toInt64.toBitVec = w
  show v + 1#64 * w + -(1#64) * w = v
  rw [BitVec.one_mul, BitVec.neg_mul, BitVec.one_mul, BitVec.add_assoc, BitVec.add_right_neg, BitVec.add_zero]
theorem sum_back {t u t' : TR} (h : v_X4_sum t 1 u = some t') : v_X4_sum t' (-1) u = some t := by
  unfold v_X4_sum at h ⊢
  rw [om_id] at h ⊢
  obtain ⟨⟨h1, h2, h3⟩, rfl⟩ := span_some.mp h
  refine span_some.mpr ?_
  rw [sum_i h1, sum_i h2, sum_i h3]
  refine ⟨⟨inr_of _, inr_of _, inr_of _⟩, ?_⟩
  rw [i32_64, i32_64, i32_64]
theorem tot_i (x : Int64) : 12 * (x / 12) + (x - x / 12 * 12) = x := by
  apply Int64.toBitVec_inj.mp
  simp only [Int64.toBitVec_add, Int64.toBitVec_mul, Int64.toBitVec_sub]
  generalize (x / 12).toBitVec = v
  generalize x.toBitVec = w
  generalize (12 : Int64).toBitVec = k
  rw [BitVec.mul_comm v k, BitVec.sub_eq_add_neg, BitVec.add_comm w, ← BitVec.add_assoc, BitVec.add_right_neg, BitVec.zero_add]
theorem tidy_tidy {t t' : TR} (h : v_X4_tidied t = some t') : v_X4_tidied t' = some t' := by
  unfold v_X4_tidied at h ⊢
  rw [om_id] at h ⊢
  obtain ⟨⟨h1, h2, h3⟩, rfl⟩ := span_some.mp h
  have e : v_X4_total ((v_X4_total t / 12).toInt32, (v_X4_total t - v_X4_total t / 12 * 12).toInt32, t.2.2.toInt64.toInt32) = v_X4_total t := by
    show 12 * (v_X4_total t / 12).toInt32.toInt64 + (v_X4_total t - v_X4_total t / 12 * 12).toInt32.toInt64 = v_X4_total t
    rw [inr_32 h1, inr_32 h2]
    exact tot_i _
  rw [e]
  refine span_some.mpr ⟨⟨h1, h2, inr_of _⟩, ?_⟩
  rw [i32_64, i32_64]
/-! the loops of dateOf -/
def ylen (b : Bool) (m : Nat) : Nat := [31, if b then 28 else 29, 31, 30, 31, 30, 31, 31, 30, 31, 30, 31].getD m 0
def yrest (b : Bool) (m : Nat) : Nat := (if b then [365, 334, 306, 275, 245, 214, 184, 153, 122, 92, 61, 31] else [366, 335, 306, 275, 245, 214, 184, 153, 122, 92, 61, 31]).getD m 0
theorem yrest_s : ∀ b m, m < 12 → yrest b m = ylen b m + yrest b (m + 1) ∧ ylen b m ≤ 31 ∧ 28 ≤ ylen b m := by decide
theorem len_at (y : Int32) (m : Nat) (hm : m < 12) : v_X4_length y (nI (m + 1)) = nI (ylen (decide (v_X4_isLong y = 0)) m) := by
  unfold v_X4_length
  generalize v_X4_isLong y = z
  by_cases hz : z = 0
  · subst hz
    revert m
    decide +kernel
  · have e : decide (z = 0) = false := decide_eq_false hz
    rw [e, if_neg hz]
    revert m
    decide +kernel
def dv_J (yy fm : Int32) (lg : Int64) : Prop := vp_in (fm - 1) 12 ∧ ∃ m : Nat, m < 12 ∧ fm = nI (m + 1) ∧ 0 ≤ lg.toInt ∧ lg.toInt < (yrest (decide (v_X4_isLong yy = 0)) m : Int)
theorem dv_J0 {yy : Int32} {lf : Int64} (h0 : 0 ≤ lf) (h : lg_cmp lf (365 + v_X4_one (v_X4_isLong yy)).toInt64 < 0) : dv_J yy 1 lf := by
  have h1 := (lg_cmp_lt _ _).mp h
  rw [Int64.lt_iff_toInt_lt] at h1
  rw [Int64.le_iff_toInt_le] at h0
  refine ⟨by unfold vp_in; decide, 0, by decide, rfl, h0, ?_⟩
  unfold v_X4_one at h1
  by_cases hz : v_X4_isLong yy = 0
  · rw [if_pos hz] at h1
    rw [decide_eq_true hz]
    exact h1
  · rw [if_neg hz] at h1
    rw [decide_eq_false hz]
    exact h1
theorem dv_Js {yy fm : Int32} {lg : Int64} {n : Nat} (hj : dv_J yy fm lg) (h : ¬ lg_cmp lg (v_X4_length yy fm).toInt64 < 0) (hn : lg.toInt.toNat < n + 1) : dv_J yy (fm + 1) (lg - (v_X4_length yy fm).toInt64) ∧ (lg - (v_X4_length yy fm).toInt64).toInt.toNat < n := by
  obtain ⟨-, m, hm, rfl, h0, h1⟩ := hj
  have h2 : ¬ lg < (v_X4_length yy (nI (m + 1))).toInt64 := fun q => h ((lg_cmp_lt _ _).mpr q)
  rw [len_at yy m hm] at h2 ⊢
  unfold dv_J
  obtain ⟨e1, e2, e3⟩ := yrest_s (decide (v_X4_isLong yy = 0)) m hm
  generalize decide (v_X4_isLong yy = 0) = b at *
  have eL : (nI (ylen b m)).toInt64.toInt = (ylen b m : Int) := by rw [Int32.toInt_toInt64, nI_toInt (by omega)]
  rw [Int64.lt_iff_toInt_lt, eL] at h2
  have hx := Int64.toInt_lt lg
  have e : (lg - (nI (ylen b m)).toInt64).toInt = lg.toInt - (ylen b m : Int) := by
    rw [Int64.toInt_sub, eL, Int.bmod_eq_of_le (by omega) (by omega)]
  have hm2 : m + 1 < 12 := by
    rcases Nat.lt_or_ge (m + 1) 12 with q | q
    · exact q
    · have : m = 11 := by omega
      subst this
      have : yrest b (11 + 1) = 0 := by cases b <;> rfl
      omega
  refine ⟨⟨?_, m + 1, hm2, nI_1 _, by rw [e]; omega, by rw [e]; omega⟩, by rw [e]; omega⟩
  rw [nI_1]
  have := pk_sub (a := m + 1 + 1) (b := 1) (by omega)
  rw [show (1 : Int32) = nI 1 from rfl, this, Nat.add_sub_cancel]
  exact vp_in_nI hm2 (by decide)
theorem onb_mo {t t' : TR} {w : Int64} (h : v_X4_onByMonths t w = some t') : ¬ 12 < t'.2.1 := by
  unfold v_X4_onByMonths at h
  generalize 12 * t.1.toInt64 + t.2.1.toInt64 - 1 + w = x at h
  by_cases c : v_X4_isIn x 19200 28811 = 0
  · rw [if_pos c] at h; exact (nomatch h)
  · rw [if_neg c] at h
    have e := Option.some.inj h
    rw [← e]
    exact (om_mo c (by decide)).2
end
section
def wX4_dateOf_77 (yy : Int32) : Nat → Int32 → Int64 → Option TR
  | 0, fm, lg => none
  | n + 1, fm, lg => if (lg_cmp lg ((v_X4_length yy fm).toInt64)) < 0 then (some (yy, fm, lg.toInt32 + 1)) else (wX4_dateOf_77 yy n (fm + 1) (lg - ((v_X4_length yy fm).toInt64)))
def wX4_dateOf_34 : Nat → Int32 → Int64 → Option TR
  | 0, yy, lf => none
  | n + 1, yy, lf => if (lg_cmp lf ((365 + (v_X4_one (v_X4_isLong yy))).toInt64)) < 0 then (wX4_dateOf_77 yy (lf.toInt.toNat + 1) 1 lf) else (wX4_dateOf_34 n (yy + 1) (lf - ((365 + (v_X4_one (v_X4_isLong yy))).toInt64)))
def v_X4_dateOf (b0 : Int64) : Option TR := if (v_X4_isIn (b0 + ((v_X4_daysTo 1970).toInt64)) 0 (((v_X4_daysTo 2401) - 1).toInt64)) = 0 then none else (wX4_dateOf_34 ((b0 + ((v_X4_daysTo 1970).toInt64)).toInt.toNat + 1) 1600 (b0 + ((v_X4_daysTo 1970).toInt64)))
set_option maxHeartbeats 4000000 in
set_option maxRecDepth 100000 in
theorem c_X4_dateOf (l : Launch) (g : GG) (N : Nat) (ad : Nat → Nat) (f : Nat → va_E) (b0 : Int64) : KR l yX4_dateOf cX4_dateOf 6 (.array .int) (rm 2 1 3) g [.long b0] N ad f (N + nz (v_X4_dateOf b0)) (fun r ad' f' => pw g (v_X4_dateOf b0) N ad f r ad' f') := by
  intro sz
  refine mt_start (by decide) (Nat.le_of_ble_eq_true rfl) ?_
  intro p e s m args below meth c hsz X hr hnam hA hK hT H locs B ls hl
  obtain ⟨hx, hb, hml, hown, hts, hlocks⟩ := id X
  have hl : lv_has ls 6 [(0, .long b0)] := hl
  refine lv_lload_n hx hb dX4_dateOf_0 rfl (lv_at hl 0 rfl) ?_
  refine lv_sipush (v := 1970) hx hb dX4_dateOf_1 (by decide) ?_
  refine k_i (k := 0) (n := 0) hA B (u_S (rest := [.long b0]) X (c_X4_daysTo l g N ad f 1970 H.size) mw_X4_daysTo md_X4_daysTo rfl lk_X4_177 ⟨Nat.le_of_ble_eq_true rfl, Nat.le_of_ble_eq_true rfl⟩ hA hK hT B hl.1 rfl (Nat.le_of_ble_eq_true rfl) dX4_dateOf_4 ⟨Nat.le_of_ble_eq_true rfl, Nat.le_of_ble_eq_true rfl⟩) (Nat.le_of_ble_eq_true rfl) (Nat.le_of_ble_eq_true rfl) (fun r ad' f' H locs hw B => ?_)
  obtain ⟨rfl, rfl, rfl⟩ := hw
  refine lv_i2l (v := (v_X4_daysTo 1970).toInt64) hx hb dX4_dateOf_7 rfl ?_
  refine lv_ladd hx hb dX4_dateOf_8 ?_
  refine lv_lstore_n (lv' := [(2, .long (b0 + ((v_X4_daysTo 1970).toInt64))), (0, .long b0)]) hx hb dX4_dateOf_9 rfl hl (by decide) rfl (fun ls hl => ?_)
  refine lv_lload_n hx hb dX4_dateOf_10 rfl (lv_at hl 0 rfl) ?_
  refine lv_lconst (v := 0) hx hb dX4_dateOf_11 (by decide) ?_
  refine lv_sipush (v := 2401) hx hb dX4_dateOf_12 (by decide) ?_
  refine k_i (k := 0) (n := 0) hA B (u_S (rest := [.long 0, .long (b0 + ((v_X4_daysTo 1970).toInt64))]) X (c_X4_daysTo l g N ad f 2401 H.size) mw_X4_daysTo md_X4_daysTo rfl lk_X4_177 ⟨Nat.le_of_ble_eq_true rfl, Nat.le_of_ble_eq_true rfl⟩ hA hK hT B hl.1 rfl (Nat.le_of_ble_eq_true rfl) dX4_dateOf_15 ⟨Nat.le_of_ble_eq_true rfl, Nat.le_of_ble_eq_true rfl⟩) (Nat.le_of_ble_eq_true rfl) (Nat.le_of_ble_eq_true rfl) (fun r ad' f' H locs hw B => ?_)
  obtain ⟨rfl, rfl, rfl⟩ := hw
  refine lv_iconst (v := 1) hx hb dX4_dateOf_18 (by decide) ?_
  refine lv_isub hx hb dX4_dateOf_19 ?_
  refine lv_i2l (v := ((v_X4_daysTo 2401) - 1).toInt64) hx hb dX4_dateOf_20 rfl ?_
  refine k_i (k := 0) (n := 0) hA B (u_S (rest := []) X (c_X4_isIn l g N ad f (b0 + ((v_X4_daysTo 1970).toInt64)) 0 (((v_X4_daysTo 2401) - 1).toInt64) H.size) mw_X4_isIn md_X4_isIn rfl lk_X4_37 ⟨Nat.le_of_ble_eq_true rfl, Nat.le_of_ble_eq_true rfl⟩ hA hK hT B hl.1 rfl (Nat.le_of_ble_eq_true rfl) dX4_dateOf_21 ⟨Nat.le_of_ble_eq_true rfl, Nat.le_of_ble_eq_true rfl⟩) (Nat.le_of_ble_eq_true rfl) (Nat.le_of_ble_eq_true rfl) (fun r ad' f' H locs hw B => ?_)
  obtain ⟨rfl, rfl, rfl⟩ := hw
  refine lv_if_ne (tgt := 29) hx hb dX4_dateOf_24 (by decide) (fun c1 => ?_) (fun c1 => ?_)
  · refine lv_sipush (v := 1600) hx hb dX4_dateOf_29 (by decide) ?_
    refine lv_istore (lv' := [(4, .int 1600), (2, .long (b0 + ((v_X4_daysTo 1970).toInt64))), (0, .long b0)]) hx hb dX4_dateOf_32 hl (by decide) rfl (fun ls hl => ?_)
    have loop2 : ∀ (n2 : Nat) (yy : Int32) (lf : Int64) (H : Heap) (locs : List Loc), lf.toInt.toNat < n2 → v_X4_dateOf b0 = wX4_dateOf_34 n2 yy lf → 0 ≤ lf → WB g (aw N ad sz) s.heap N ad f H locs → ∀ ls : Array Slot, lv_has ls 6 [(4, .int yy), (2, .long lf), (0, .long b0)] → W p l e (rm 2 1 3) s m args below meth c H locs 0 0 (MQ below (va_Qq (fun r (u : WS) => (fun r ad' f' => pw g (v_X4_dateOf b0) N ad f r ad' f') r u.1 u.2) (fun u t => PO g (N + nz (v_X4_dateOf b0)) u.1 u.2 (aw N ad sz) t) (aw N ad sz)) args s (rm 2 1 3).cells (rm 2 1 3).slots (aw N ad sz)) (F0 m 34 ls []) := by
      intro n2
      induction n2 with
      | zero => intro yy lf H locs hn; exact absurd hn (Nat.not_lt_zero _)
      | succ n2 ih2 =>
        intro yy lf H locs hn2 he2 hl0 B ls hl
        refine lv_lload_n hx hb dX4_dateOf_34 rfl (lv_at hl 1 rfl) ?_
        refine lv_sipush (v := 365) hx hb dX4_dateOf_35 (by decide) ?_
        refine lv_iload hx hb dX4_dateOf_38 (lv_at hl 0 rfl) ?_
        refine k_i (k := 0) (n := 0) hA B (u_S (rest := [.int 365, .long lf]) X (c_X4_isLong l g N ad f yy H.size) mw_X4_isLong md_X4_isLong rfl lk_X4_174 ⟨Nat.le_of_ble_eq_true rfl, Nat.le_of_ble_eq_true rfl⟩ hA hK hT B hl.1 rfl (Nat.le_of_ble_eq_true rfl) dX4_dateOf_40 ⟨Nat.le_of_ble_eq_true rfl, Nat.le_of_ble_eq_true rfl⟩) (Nat.le_of_ble_eq_true rfl) (Nat.le_of_ble_eq_true rfl) (fun r ad' f' H locs hw B => ?_)
        obtain ⟨rfl, rfl, rfl⟩ := hw
        refine k_i (k := 0) (n := 0) hA B (u_S (rest := [.int 365, .long lf]) X (c_X4_one l g N ad f (v_X4_isLong yy) H.size) mw_X4_one md_X4_one rfl lk_X4_91 ⟨Nat.le_of_ble_eq_true rfl, Nat.le_of_ble_eq_true rfl⟩ hA hK hT B hl.1 rfl (Nat.le_of_ble_eq_true rfl) dX4_dateOf_43 ⟨Nat.le_of_ble_eq_true rfl, Nat.le_of_ble_eq_true rfl⟩) (Nat.le_of_ble_eq_true rfl) (Nat.le_of_ble_eq_true rfl) (fun r ad' f' H locs hw B => ?_)
        obtain ⟨rfl, rfl, rfl⟩ := hw
        refine lv_iadd hx hb dX4_dateOf_46 ?_
        refine lv_i2l (v := (365 + (v_X4_one (v_X4_isLong yy))).toInt64) hx hb dX4_dateOf_47 rfl ?_
        refine W.lcmp hx hb dX4_dateOf_48 ?_
        refine lv_if_lt (tgt := 74) hx hb dX4_dateOf_49 (by decide) (fun c3 => ?_) (fun c3 => ?_)
        · refine lv_iconst (v := 1) hx hb dX4_dateOf_74 (by decide) ?_
          refine lv_istore (lv' := [(5, .int 1), (4, .int yy), (2, .long lf), (0, .long b0)]) hx hb dX4_dateOf_75 hl (by decide) rfl (fun ls hl => ?_)
          have loop4 : ∀ (n4 : Nat) (fm : Int32) (lg : Int64) (H : Heap) (locs : List Loc), lg.toInt.toNat < n4 → v_X4_dateOf b0 = wX4_dateOf_77 yy n4 fm lg → dv_J yy fm lg → WB g (aw N ad sz) s.heap N ad f H locs → ∀ ls : Array Slot, lv_has ls 6 [(5, .int fm), (4, .int yy), (2, .long lg), (0, .long b0)] → W p l e (rm 2 1 3) s m args below meth c H locs 0 0 (MQ below (va_Qq (fun r (u : WS) => (fun r ad' f' => pw g (v_X4_dateOf b0) N ad f r ad' f') r u.1 u.2) (fun u t => PO g (N + nz (v_X4_dateOf b0)) u.1 u.2 (aw N ad sz) t) (aw N ad sz)) args s (rm 2 1 3).cells (rm 2 1 3).slots (aw N ad sz)) (F0 m 77 ls []) := by
            intro n4
            induction n4 with
            | zero => intro fm lg H locs hn; exact absurd hn (Nat.not_lt_zero _)
            | succ n4 ih4 =>
              intro fm lg H locs hn4 he4 hj B ls hl
              refine lv_lload_n hx hb dX4_dateOf_77 rfl (lv_at hl 2 rfl) ?_
              refine lv_iload hx hb dX4_dateOf_78 (lv_at hl 1 rfl) ?_
              refine lv_iload hx hb dX4_dateOf_80 (lv_at hl 0 rfl) ?_
              refine k_i (k := 0) (n := 0) hA B (u_S (rest := [.long lg]) X (c_X4_length l g N ad f yy fm hj.1 H.size) mw_X4_length md_X4_length rfl lk_X4_181 ⟨Nat.le_of_ble_eq_true rfl, Nat.le_of_ble_eq_true rfl⟩ hA hK hT B hl.1 rfl (Nat.le_of_ble_eq_true rfl) dX4_dateOf_82 ⟨Nat.le_of_ble_eq_true rfl, Nat.le_of_ble_eq_true rfl⟩) (Nat.le_of_ble_eq_true rfl) (Nat.le_of_ble_eq_true rfl) (fun r ad' f' H locs hw B => ?_)
              obtain ⟨rfl, rfl, rfl⟩ := hw
              refine lv_i2l (v := (v_X4_length yy fm).toInt64) hx hb dX4_dateOf_85 rfl ?_
              refine W.lcmp hx hb dX4_dateOf_86 ?_
              refine lv_if_lt (tgt := 107) hx hb dX4_dateOf_87 (by decide) (fun c5 => ?_) (fun c5 => ?_)
              · refine lv_iconst (v := 3) hx hb dX4_dateOf_107 (by decide) ?_
                refine h_new3 (cz := 1) (sz := 3) X hA hK B (Nat.le_of_ble_eq_true rfl) (Nat.le_of_ble_eq_true rfl) (Nat.le_of_ble_eq_true rfl) (Nat.le_of_ble_eq_true rfl) dX4_dateOf_108 (fun z6 H B => ?_)
                refine lv_dup hx hb dX4_dateOf_110 rfl ?_
                refine lv_iconst (v := 0) hx hb dX4_dateOf_111 (by decide) ?_
                refine lv_iload hx hb dX4_dateOf_112 (lv_at hl 1 rfl) ?_
                refine h_st (t := (0, 0, 0)) (t' := (yy, 0, 0)) X hK B (Nat.lt_succ_self _) up_eq up_eq (by unfold vp_in; decide) (rw3_s0 _ _) dX4_dateOf_114 (fun H locs B => ?_)
                rw [bx_uu] at B
                refine lv_dup hx hb dX4_dateOf_115 rfl ?_
                refine lv_iconst (v := 1) hx hb dX4_dateOf_116 (by decide) ?_
                refine lv_iload hx hb dX4_dateOf_117 (lv_at hl 0 rfl) ?_
                refine h_st (t := (yy, 0, 0)) (t' := (yy, fm, 0)) X hK B (Nat.lt_succ_self _) up_eq up_eq (by unfold vp_in; decide) (rw3_s1 _ _) dX4_dateOf_119 (fun H locs B => ?_)
                rw [bx_uu] at B
                refine lv_dup hx hb dX4_dateOf_120 rfl ?_
                refine lv_iconst (v := 2) hx hb dX4_dateOf_121 (by decide) ?_
                refine lv_lload_n hx hb dX4_dateOf_122 rfl (lv_at hl 2 rfl) ?_
                refine lv_l2i (v := lg.toInt32) hx hb dX4_dateOf_123 rfl ?_
                refine lv_iconst (v := 1) hx hb dX4_dateOf_124 (by decide) ?_
                refine lv_iadd hx hb dX4_dateOf_125 ?_
                refine h_st (t := (yy, fm, 0)) (t' := (yy, fm, lg.toInt32 + 1)) X hK B (Nat.lt_succ_self _) up_eq up_eq (by unfold vp_in; decide) (rw3_s2 _ _) dX4_dateOf_126 (fun H locs B => ?_)
                rw [bx_uu] at B
                have ev := (show v_X4_dateOf b0 = some (yy, fm, lg.toInt32 + 1) from he4.trans (by rw [wX4_dateOf_77, if_pos c5]))
                have B : WB g (aw N ad sz) s.heap (N + 1) (va_up ad N z6) (va_up f N (c_row g (yy, fm, lg.toInt32 + 1))) H locs := WB_pick B (by omega) (Nat.lt_succ_self _) (fun _ hk => (up_lt hk)) (fun _ hk => (up_lt hk)) up_eq up_eq
                exact rt_r (r := some z6) rfl X hr (Or.inr ⟨_, rfl⟩) (va_up ad N z6, va_up f N (c_row g (yy, fm, lg.toInt32 + 1))) B (by rw [ev]; exact PO_of B) (by rw [ev]; exact pw_is) (Nat.le_of_ble_eq_true rfl) (Nat.le_of_ble_eq_true rfl) dX4_dateOf_127
              · refine lv_lload_n hx hb dX4_dateOf_90 rfl (lv_at hl 2 rfl) ?_
                refine lv_iload hx hb dX4_dateOf_91 (lv_at hl 1 rfl) ?_
                refine lv_iload hx hb dX4_dateOf_93 (lv_at hl 0 rfl) ?_
                refine k_i (k := 0) (n := 0) hA B (u_S (rest := [.long lg]) X (c_X4_length l g N ad f yy fm hj.1 H.size) mw_X4_length md_X4_length rfl lk_X4_181 ⟨Nat.le_of_ble_eq_true rfl, Nat.le_of_ble_eq_true rfl⟩ hA hK hT B hl.1 rfl (Nat.le_of_ble_eq_true rfl) dX4_dateOf_95 ⟨Nat.le_of_ble_eq_true rfl, Nat.le_of_ble_eq_true rfl⟩) (Nat.le_of_ble_eq_true rfl) (Nat.le_of_ble_eq_true rfl) (fun r ad' f' H locs hw B => ?_)
                obtain ⟨rfl, rfl, rfl⟩ := hw
                refine lv_i2l (v := (v_X4_length yy fm).toInt64) hx hb dX4_dateOf_98 rfl ?_
                refine lv_lsub hx hb dX4_dateOf_99 ?_
                refine lv_lstore_n (lv' := [(2, .long (lg - ((v_X4_length yy fm).toInt64))), (5, .int fm), (4, .int yy), (0, .long b0)]) hx hb dX4_dateOf_100 rfl hl (by decide) rfl (fun ls hl => ?_)
                refine lv_iinc (v := fm + 1) (lv' := [(5, .int (fm + 1)), (2, .long (lg - ((v_X4_length yy fm).toInt64))), (4, .int yy), (0, .long b0)]) hx hb dX4_dateOf_101 hl (k := 1) rfl rfl (by decide) rfl (fun ls hl => ?_)
                refine lv_goto (tgt := 77) hx hb dX4_dateOf_104 (by decide) ?_
                exact ih4 (fm + 1) (lg - ((v_X4_length yy fm).toInt64)) H locs (dv_Js hj c5 hn4).2 (show v_X4_dateOf b0 = wX4_dateOf_77 yy n4 (fm + 1) (lg - ((v_X4_length yy fm).toInt64)) from he4.trans (by rw [wX4_dateOf_77, if_neg c5])) (dv_Js hj c5 (Nat.lt_succ_self _)).1 B ls (lv_sub hl [0, 2, 1, 3] rfl)
          exact loop4 (lf.toInt.toNat + 1) 1 lf H locs (Nat.lt_succ_self _) (show v_X4_dateOf b0 = wX4_dateOf_77 yy (lf.toInt.toNat + 1) 1 lf from he2.trans (by rw [wX4_dateOf_34, if_pos c3])) (dv_J0 hl0 c3) B ls hl
        · refine lv_lload_n hx hb dX4_dateOf_52 rfl (lv_at hl 1 rfl) ?_
          refine lv_sipush (v := 365) hx hb dX4_dateOf_53 (by decide) ?_
          refine lv_iload hx hb dX4_dateOf_56 (lv_at hl 0 rfl) ?_
          refine k_i (k := 0) (n := 0) hA B (u_S (rest := [.int 365, .long lf]) X (c_X4_isLong l g N ad f yy H.size) mw_X4_isLong md_X4_isLong rfl lk_X4_174 ⟨Nat.le_of_ble_eq_true rfl, Nat.le_of_ble_eq_true rfl⟩ hA hK hT B hl.1 rfl (Nat.le_of_ble_eq_true rfl) dX4_dateOf_58 ⟨Nat.le_of_ble_eq_true rfl, Nat.le_of_ble_eq_true rfl⟩) (Nat.le_of_ble_eq_true rfl) (Nat.le_of_ble_eq_true rfl) (fun r ad' f' H locs hw B => ?_)
          obtain ⟨rfl, rfl, rfl⟩ := hw
          refine k_i (k := 0) (n := 0) hA B (u_S (rest := [.int 365, .long lf]) X (c_X4_one l g N ad f (v_X4_isLong yy) H.size) mw_X4_one md_X4_one rfl lk_X4_91 ⟨Nat.le_of_ble_eq_true rfl, Nat.le_of_ble_eq_true rfl⟩ hA hK hT B hl.1 rfl (Nat.le_of_ble_eq_true rfl) dX4_dateOf_61 ⟨Nat.le_of_ble_eq_true rfl, Nat.le_of_ble_eq_true rfl⟩) (Nat.le_of_ble_eq_true rfl) (Nat.le_of_ble_eq_true rfl) (fun r ad' f' H locs hw B => ?_)
          obtain ⟨rfl, rfl, rfl⟩ := hw
          refine lv_iadd hx hb dX4_dateOf_64 ?_
          refine lv_i2l (v := (365 + (v_X4_one (v_X4_isLong yy))).toInt64) hx hb dX4_dateOf_65 rfl ?_
          refine lv_lsub hx hb dX4_dateOf_66 ?_
          refine lv_lstore_n (lv' := [(2, .long (lf - ((365 + (v_X4_one (v_X4_isLong yy))).toInt64))), (4, .int yy), (0, .long b0)]) hx hb dX4_dateOf_67 rfl hl (by decide) rfl (fun ls hl => ?_)
          refine lv_iinc (v := yy + 1) (lv' := [(4, .int (yy + 1)), (2, .long (lf - ((365 + (v_X4_one (v_X4_isLong yy))).toInt64))), (0, .long b0)]) hx hb dX4_dateOf_68 hl (k := 1) rfl rfl (by decide) rfl (fun ls hl => ?_)
          refine lv_goto (tgt := 34) hx hb dX4_dateOf_71 (by decide) ?_
          exact ih2 (yy + 1) (lf - ((365 + (v_X4_one (v_X4_isLong yy))).toInt64)) H locs (dl_dec (one_01 yy) c3 hn2).1 (show v_X4_dateOf b0 = wX4_dateOf_34 n2 (yy + 1) (lf - ((365 + (v_X4_one (v_X4_isLong yy))).toInt64)) from he2.trans (by rw [wX4_dateOf_34, if_neg c3])) (dl_dec (one_01 yy) c3 (Nat.lt_succ_self _)).2 B ls (lv_sub hl [0, 1, 2] rfl)
    exact loop2 ((b0 + ((v_X4_daysTo 1970).toInt64)).toInt.toNat + 1) 1600 (b0 + ((v_X4_daysTo 1970).toInt64)) H locs (Nat.lt_succ_self _) (show v_X4_dateOf b0 = wX4_dateOf_34 ((b0 + ((v_X4_daysTo 1970).toInt64)).toInt.toNat + 1) 1600 (b0 + ((v_X4_daysTo 1970).toInt64)) from by unfold v_X4_dateOf; rw [if_neg c1]) (in_iff.mp c1).1 B ls hl
  · refine lv_null hx hb dX4_dateOf_27 ?_
    have ev := (show v_X4_dateOf b0 = none from by unfold v_X4_dateOf; rw [if_pos c1])
    exact rt_r (r := none) rfl X hr (Or.inr ⟨_, rfl⟩) (ad, f) B (by rw [ev]; exact PO_of B) (by rw [ev]; exact pw_in) (Nat.le_of_ble_eq_true rfl) (Nat.le_of_ble_eq_true rfl) dX4_dateOf_28
def v_X4_onBy (tj0 : TR) (tj1 : TR) (a2 : Int32) : Option TR := om (v_X4_onByMonths tj0 (a2.toInt64 * (v_X4_total tj1))) none (fun t1 => om (v_X4_dateOf (((v_X4_number t1).toInt64) + (a2.toInt64 * tj1.2.2.toInt64))) none (fun t2 => some t2))
set_option maxHeartbeats 4000000 in
set_option maxRecDepth 100000 in
theorem c_X4_onBy (l : Launch) (g : GG) (N : Nat) (ad : Nat → Nat) (f : Nat → va_E) (j0 bj0 : Nat) (tj0 : TR) (hj0 : j0 < N) (hbj0 : ad j0 = bj0) (hfj0 : f j0 = c_row g tj0) (j1 bj1 : Nat) (tj1 : TR) (hj1 : j1 < N) (hbj1 : ad j1 = bj1) (hfj1 : f j1 = c_row g tj1) (a2 : Int32) : KR l yX4_onBy cX4_onBy 4 (.array .int) (rm 3 2 6) g [.ref bj0, .ref bj1, .int a2] N ad f (N + nz (v_X4_onBy tj0 tj1 a2)) (fun r ad' f' => pw g (v_X4_onBy tj0 tj1 a2) N ad f r ad' f') := by
  intro sz
  refine mt_start (by decide) (Nat.le_of_ble_eq_true rfl) ?_
  intro p e s m args below meth c hsz X hr hnam hA hK hT H locs B ls hl
  obtain ⟨hx, hb, hml, hown, hts, hlocks⟩ := id X
  have hl : lv_has ls 4 [(0, .ref bj0), (1, .ref bj1), (2, .int a2)] := hl
  refine lv_aload_n hx hb dX4_onBy_0 rfl (lv_at hl 0 rfl) ?_
  refine lv_iload_n hx hb dX4_onBy_1 rfl (lv_at hl 2 rfl) ?_
  refine lv_i2l (v := a2.toInt64) hx hb dX4_onBy_2 rfl ?_
  refine lv_aload_n hx hb dX4_onBy_3 rfl (lv_at hl 1 rfl) ?_
  refine k_l (k := 0) (n := 0) hA B (u_S (rest := [.long a2.toInt64, .ref bj0]) X (c_X4_total l g N ad f j1 bj1 tj1 hj1 hbj1 hfj1 H.size) mw_X4_total md_X4_total rfl lk_X4_43 ⟨Nat.le_of_ble_eq_true rfl, Nat.le_of_ble_eq_true rfl⟩ hA hK hT B hl.1 rfl (Nat.le_of_ble_eq_true rfl) dX4_onBy_4 ⟨Nat.le_of_ble_eq_true rfl, Nat.le_of_ble_eq_true rfl⟩) (Nat.le_of_ble_eq_true rfl) (Nat.le_of_ble_eq_true rfl) (fun r ad' f' H locs hw B => ?_)
  obtain ⟨rfl, rfl, rfl⟩ := hw
  refine lv_lmul hx hb dX4_onBy_7 ?_
  refine k_r (k := 1) (n := 3) hA B (u_S (rest := []) X (c_X4_onByMonths l g N ad f j0 bj0 tj0 hj0 hbj0 hfj0 (a2.toInt64 * (v_X4_total tj1)) H.size) mw_X4_onByMonths md_X4_onByMonths rfl lk_X4_194 ⟨Nat.le_of_ble_eq_true rfl, Nat.le_of_ble_eq_true rfl⟩ hA hK hT B hl.1 rfl (Nat.le_of_ble_eq_true rfl) dX4_onBy_8 ⟨Nat.le_of_ble_eq_true rfl, Nat.le_of_ble_eq_true rfl⟩) (Nat.le_of_ble_eq_true rfl) (Nat.le_of_ble_eq_true rfl) (fun r ad' f' H locs hw B => ?_)
  generalize o1 : (v_X4_onByMonths tj0 (a2.toInt64 * (v_X4_total tj1))) = v9 at hw B
  cases v9 with
  | none =>
    obtain ⟨rfl, rfl, rfl⟩ := pw_n hw
    refine lv_astore_nN (lv' := [(3, .null), (0, .ref bj0), (1, .ref bj1), (2, .int a2)]) hx hb dX4_onBy_11 rfl hl (by decide) rfl (fun ls hl => ?_)
    refine lv_aload_nN hx hb dX4_onBy_12 rfl (lv_at hl 0 rfl) ?_
    refine lv_ifnonnullN hx hb dX4_onBy_13 ?_
    refine lv_null hx hb dX4_onBy_16 ?_
    refine lv_goto (tgt := 36) hx hb dX4_onBy_17 (by decide) ?_
    have ev := (show v_X4_onBy tj0 tj1 a2 = none from by unfold v_X4_onBy; rw [om_none o1])
    exact rt_r (r := none) rfl X hr (Or.inr ⟨_, rfl⟩) (ad, f) B (by rw [ev]; exact PO_of B) (by rw [ev]; exact pw_in) (Nat.le_of_ble_eq_true rfl) (Nat.le_of_ble_eq_true rfl) dX4_onBy_36
  | some t1 =>
    obtain ⟨z1, rfl, rfl, rfl⟩ := pw_s hw
    refine lv_astore_n (lv' := [(3, .ref z1), (0, .ref bj0), (1, .ref bj1), (2, .int a2)]) hx hb dX4_onBy_11 rfl hl (by decide) rfl (fun ls hl => ?_)
    refine lv_aload_n hx hb dX4_onBy_12 rfl (lv_at hl 0 rfl) ?_
    refine lv_ifnonnull (tgt := 20) hx hb dX4_onBy_13 (by decide) ?_
    refine lv_aload_n hx hb dX4_onBy_20 rfl (lv_at hl 0 rfl) ?_
    refine k_i (k := 1) (n := 3) hA B (u_S (rest := []) X (c_X4_number l g (N + 1) (va_up ad N z1) (va_up f N (c_row g t1)) N z1 t1 (Nat.lt_succ_self _) up_eq up_eq (onb_mo o1) H.size) mw_X4_number md_X4_number rfl lk_X4_198 ⟨Nat.le_of_ble_eq_true rfl, Nat.le_of_ble_eq_true rfl⟩ hA hK hT B hl.1 rfl (Nat.le_of_ble_eq_true rfl) dX4_onBy_21 ⟨Nat.le_of_ble_eq_true rfl, Nat.le_of_ble_eq_true rfl⟩) (Nat.le_of_ble_eq_true rfl) (Nat.le_of_ble_eq_true rfl) (fun r ad' f' H locs hw B => ?_)
    obtain ⟨rfl, rfl, rfl⟩ := hw
    refine lv_i2l (v := (v_X4_number t1).toInt64) hx hb dX4_onBy_24 rfl ?_
    refine lv_iload_n hx hb dX4_onBy_25 rfl (lv_at hl 3 rfl) ?_
    refine lv_i2l (v := a2.toInt64) hx hb dX4_onBy_26 rfl ?_
    refine lv_aload_n hx hb dX4_onBy_27 rfl (lv_at hl 2 rfl) ?_
    refine lv_iconst (v := 2) hx hb dX4_onBy_28 (by decide) ?_
    refine h_ld2 X hK B (Nat.lt_succ_of_lt hj1) ((up_lt hj1).trans hbj1) ((up_lt hj1).trans hfj1) dX4_onBy_29 ?_
    refine lv_i2l (v := tj1.2.2.toInt64) hx hb dX4_onBy_30 rfl ?_
    refine lv_lmul hx hb dX4_onBy_31 ?_
    refine lv_ladd hx hb dX4_onBy_32 ?_
    refine k_r (k := 2) (n := 6) hA B (u_S (rest := []) X (c_X4_dateOf l g (N + 1) (va_up ad N z1) (va_up f N (c_row g t1)) (((v_X4_number t1).toInt64) + (a2.toInt64 * tj1.2.2.toInt64)) H.size) mw_X4_dateOf md_X4_dateOf rfl lk_X4_202 ⟨Nat.le_of_ble_eq_true rfl, Nat.le_of_ble_eq_true rfl⟩ hA hK hT B hl.1 rfl (Nat.le_of_ble_eq_true rfl) dX4_onBy_33 ⟨Nat.le_of_ble_eq_true rfl, Nat.le_of_ble_eq_true rfl⟩) (Nat.le_of_ble_eq_true rfl) (Nat.le_of_ble_eq_true rfl) (fun r ad' f' H locs hw B => ?_)
    generalize o2 : (v_X4_dateOf (((v_X4_number t1).toInt64) + (a2.toInt64 * tj1.2.2.toInt64))) = v9 at hw B
    cases v9 with
    | none =>
      obtain ⟨rfl, rfl, rfl⟩ := pw_n hw
      have ev := (show v_X4_onBy tj0 tj1 a2 = none from by unfold v_X4_onBy; rw [om_some o1, om_none o2])
      have B : WB g (aw N ad sz) s.heap N ad f H locs := B.drop (by omega) (fun _ hk => (up_lt hk)) (fun _ hk => (up_lt hk))
      exact rt_r (r := none) rfl X hr (Or.inr ⟨_, rfl⟩) (ad, f) B (by rw [ev]; exact PO_of B) (by rw [ev]; exact pw_in) (Nat.le_of_ble_eq_true rfl) (Nat.le_of_ble_eq_true rfl) dX4_onBy_36
    | some t2 =>
      obtain ⟨z2, rfl, rfl, rfl⟩ := pw_s hw
      have ev := (show v_X4_onBy tj0 tj1 a2 = some t2 from by unfold v_X4_onBy; rw [om_some o1, om_some o2])
      have B : WB g (aw N ad sz) s.heap (N + 1) (va_up ad N z2) (va_up f N (c_row g t2)) H locs := WB_pick B (by omega) (Nat.lt_succ_self _) (fun _ hk => ((up_lt (Nat.lt_succ_of_lt hk)).trans (up_lt hk))) (fun _ hk => ((up_lt (Nat.lt_succ_of_lt hk)).trans (up_lt hk))) up_eq up_eq
      exact rt_r (r := some z2) rfl X hr (Or.inr ⟨_, rfl⟩) (va_up ad N z2, va_up f N (c_row g t2)) B (by rw [ev]; exact PO_of B) (by rw [ev]; exact pw_is) (Nat.le_of_ble_eq_true rfl) (Nat.le_of_ble_eq_true rfl) dX4_onBy_36
def v_X4_isSpanSound (tj0 : TR) : Int32 := om (v_X4_opposed tj0) (om (v_X4_tidied tj0) 1 (fun t2 => if (v_X4_isAlike t2 tj0) = 0 then 0 else (if (v_X4_isSame t2 t2) = 0 then 0 else 1))) (fun t1 => if (v_X4_isSame tj0 tj0) = 0 then (om (v_X4_tidied tj0) 0 (fun t9 => 0)) else (om (v_X4_tidied tj0) 1 (fun t10 => if (v_X4_isAlike t10 tj0) = 0 then 0 else (if (v_X4_isSame t10 t10) = 0 then 0 else 1))))
theorem b01_X4_isSpanSound {tj0 : TR} : (v_X4_isSpanSound tj0) = 0 ∨ (v_X4_isSpanSound tj0) = 1 := by
  unfold v_X4_isSpanSound
  cases q1 : (v_X4_opposed tj0) with
  | none =>
    rw [om_none rfl]
    cases q2 : (v_X4_tidied tj0) with
    | none =>
      rw [om_none rfl]
      exact Or.inr rfl
    | some t2 =>
      rw [om_some rfl]
      by_cases q3 : (v_X4_isAlike t2 tj0) = 0
      · rw [if_pos q3]
        exact Or.inl rfl
      · rw [if_neg q3]
        by_cases q4 : (v_X4_isSame t2 t2) = 0
        · rw [if_pos q4]
          exact Or.inl rfl
        · rw [if_neg q4]
          exact Or.inr rfl
  | some t1 =>
    rw [om_some rfl]
    by_cases q5 : (v_X4_isSame tj0 tj0) = 0
    · rw [if_pos q5]
      cases q6 : (v_X4_tidied tj0) with
      | none =>
        rw [om_none rfl]
        exact Or.inl rfl
      | some t9 =>
        rw [om_some rfl]
        exact Or.inl rfl
    · rw [if_neg q5]
      cases q7 : (v_X4_tidied tj0) with
      | none =>
        rw [om_none rfl]
        exact Or.inr rfl
      | some t10 =>
        rw [om_some rfl]
        by_cases q8 : (v_X4_isAlike t10 tj0) = 0
        · rw [if_pos q8]
          exact Or.inl rfl
        · rw [if_neg q8]
          by_cases q9 : (v_X4_isSame t10 t10) = 0
          · rw [if_pos q9]
            exact Or.inl rfl
          · rw [if_neg q9]
            exact Or.inr rfl
set_option maxHeartbeats 4000000 in
set_option maxRecDepth 100000 in
theorem c_X4_isSpanSound (l : Launch) (g : GG) (N : Nat) (ad : Nat → Nat) (f : Nat → va_E) (j0 bj0 : Nat) (tj0 : TR) (hj0 : j0 < N) (hbj0 : ad j0 = bj0) (hfj0 : f j0 = c_row g tj0) : KI l yX4_isSpanSound cX4_isSpanSound 3 (some .boolean) (rm 4 8 24) g [.ref bj0] N ad f N (fun r ad' f' => ad = ad' ∧ (v_X4_isSpanSound tj0) = r ∧ f = f') := by
  intro sz
  refine mt_start (by decide) (Nat.le_of_ble_eq_true rfl) ?_
  intro p e s m args below meth c hsz X hr hnam hA hK hT H locs B ls hl
  obtain ⟨hx, hb, hml, hown, hts, hlocks⟩ := id X
  have hl : lv_has ls 3 [(0, .ref bj0)] := hl
  refine lv_aload_n hx hb dX4_isSpanSound_0 rfl (lv_at hl 0 rfl) ?_
  refine k_r (k := 2) (n := 6) hA B (u_S (rest := []) X (c_X4_opposed l g N ad f j0 bj0 tj0 hj0 hbj0 hfj0 H.size) mw_X4_opposed md_X4_opposed rfl lk_X4_121 ⟨Nat.le_of_ble_eq_true rfl, Nat.le_of_ble_eq_true rfl⟩ hA hK hT B hl.1 rfl (Nat.le_of_ble_eq_true rfl) dX4_isSpanSound_1 ⟨Nat.le_of_ble_eq_true rfl, Nat.le_of_ble_eq_true rfl⟩) (Nat.le_of_ble_eq_true rfl) (Nat.le_of_ble_eq_true rfl) (fun r ad' f' H locs hw B => ?_)
  generalize o1 : (v_X4_opposed tj0) = v9 at hw B
  cases v9 with
  | none =>
    obtain ⟨rfl, rfl, rfl⟩ := pw_n hw
    refine lv_ifnullN (tgt := 21) hx hb dX4_isSpanSound_4 (by decide) ?_
    refine lv_iconst (v := 1) hx hb dX4_isSpanSound_21 (by decide) ?_
    refine lv_goto (tgt := 26) hx hb dX4_isSpanSound_22 (by decide) ?_
    refine lv_istore_n (lv' := [(1, .int 1), (0, .ref bj0)]) hx hb dX4_isSpanSound_26 rfl hl (by decide) rfl (fun ls hl => ?_)
    refine lv_aload_n hx hb dX4_isSpanSound_27 rfl (lv_at hl 1 rfl) ?_
    refine k_r (k := 3) (n := 9) hA B (u_S (rest := []) X (c_X4_tidied l g N ad f j0 bj0 tj0 hj0 hbj0 hfj0 H.size) mw_X4_tidied md_X4_tidied rfl lk_X4_125 ⟨Nat.le_of_ble_eq_true rfl, Nat.le_of_ble_eq_true rfl⟩ hA hK hT B hl.1 rfl (Nat.le_of_ble_eq_true rfl) dX4_isSpanSound_28 ⟨Nat.le_of_ble_eq_true rfl, Nat.le_of_ble_eq_true rfl⟩) (Nat.le_of_ble_eq_true rfl) (Nat.le_of_ble_eq_true rfl) (fun r ad' f' H locs hw B => ?_)
    generalize o2 : (v_X4_tidied tj0) = v9 at hw B
    cases v9 with
    | none =>
      obtain ⟨rfl, rfl, rfl⟩ := pw_n hw
      refine lv_astore_nN (lv' := [(2, .null), (1, .int 1), (0, .ref bj0)]) hx hb dX4_isSpanSound_31 rfl hl (by decide) rfl (fun ls hl => ?_)
      refine lv_iload_n hx hb dX4_isSpanSound_32 rfl (lv_at hl 1 rfl) ?_
      refine lv_if_eq (tgt := 63) hx hb dX4_isSpanSound_33 (by decide) (fun z => absurd z (by decide)) (fun _ => ?_)
      refine lv_aload_nN hx hb dX4_isSpanSound_36 rfl (lv_at hl 0 rfl) ?_
      refine lv_ifnullN (tgt := 59) hx hb dX4_isSpanSound_37 (by decide) ?_
      refine lv_iconst (v := 1) hx hb dX4_isSpanSound_59 (by decide) ?_
      refine lv_goto (tgt := 64) hx hb dX4_isSpanSound_60 (by decide) ?_
      have ev := (show v_X4_isSpanSound tj0 = 1 from by unfold v_X4_isSpanSound; rw [om_none o1, om_none o2])
      exact rt_i X hr (ad, f) B (PO_of B) ⟨rfl, ev, rfl⟩ rfl (Nat.le_of_ble_eq_true rfl) (Nat.le_of_ble_eq_true rfl) dX4_isSpanSound_64
    | some t2 =>
      obtain ⟨z2, rfl, rfl, rfl⟩ := pw_s hw
      refine lv_astore_n (lv' := [(2, .ref z2), (1, .int 1), (0, .ref bj0)]) hx hb dX4_isSpanSound_31 rfl hl (by decide) rfl (fun ls hl => ?_)
      refine lv_iload_n hx hb dX4_isSpanSound_32 rfl (lv_at hl 1 rfl) ?_
      refine lv_if_eq (tgt := 63) hx hb dX4_isSpanSound_33 (by decide) (fun z => absurd z (by decide)) (fun _ => ?_)
      refine lv_aload_n hx hb dX4_isSpanSound_36 rfl (lv_at hl 0 rfl) ?_
      refine lv_ifnull hx hb dX4_isSpanSound_37 ?_
      refine lv_aload_n hx hb dX4_isSpanSound_40 rfl (lv_at hl 0 rfl) ?_
      refine lv_aload_n hx hb dX4_isSpanSound_41 rfl (lv_at hl 2 rfl) ?_
      refine k_i (k := 3) (n := 9) hA B (u_S (rest := []) X (c_X4_isAlike l g (N + 1) (va_up ad N z2) (va_up f N (c_row g t2)) N z2 t2 (Nat.lt_succ_self _) up_eq up_eq j0 bj0 tj0 (Nat.lt_succ_of_lt hj0) ((up_lt hj0).trans hbj0) ((up_lt hj0).trans hfj0) H.size) mw_X4_isAlike md_X4_isAlike rfl lk_X4_162 ⟨Nat.le_of_ble_eq_true rfl, Nat.le_of_ble_eq_true rfl⟩ hA hK hT B hl.1 rfl (Nat.le_of_ble_eq_true rfl) dX4_isSpanSound_42 ⟨Nat.le_of_ble_eq_true rfl, Nat.le_of_ble_eq_true rfl⟩) (Nat.le_of_ble_eq_true rfl) (Nat.le_of_ble_eq_true rfl) (fun r ad' f' H locs hw B => ?_)
      obtain ⟨rfl, rfl, rfl⟩ := hw
      refine lv_if_eq (tgt := 63) hx hb dX4_isSpanSound_45 (by decide) (fun c3 => ?_) (fun c3 => ?_)
      · refine lv_iconst (v := 0) hx hb dX4_isSpanSound_63 (by decide) ?_
        have ev := (show v_X4_isSpanSound tj0 = 0 from by unfold v_X4_isSpanSound; rw [om_none o1, om_some o2, if_pos c3])
        have B : WB g (aw N ad sz) s.heap N ad f H locs := B.drop (by omega) (fun _ hk => (up_lt hk)) (fun _ hk => (up_lt hk))
        exact rt_i X hr (ad, f) B (PO_of B) ⟨rfl, ev, rfl⟩ rfl (Nat.le_of_ble_eq_true rfl) (Nat.le_of_ble_eq_true rfl) dX4_isSpanSound_64
      · refine lv_aload_n hx hb dX4_isSpanSound_48 rfl (lv_at hl 0 rfl) ?_
        refine k_r (k := 4) (n := 12) hA B (u_S (rest := []) X (c_X4_tidied l g (N + 1) (va_up ad N z2) (va_up f N (c_row g t2)) N z2 t2 (Nat.lt_succ_self _) up_eq up_eq H.size) mw_X4_tidied md_X4_tidied rfl lk_X4_125 ⟨Nat.le_of_ble_eq_true rfl, Nat.le_of_ble_eq_true rfl⟩ hA hK hT B hl.1 rfl (Nat.le_of_ble_eq_true rfl) dX4_isSpanSound_49 ⟨Nat.le_of_ble_eq_true rfl, Nat.le_of_ble_eq_true rfl⟩) (Nat.le_of_ble_eq_true rfl) (Nat.le_of_ble_eq_true rfl) (fun r ad' f' H locs hw B => ?_)
        rw [(tidy_tidy o2)] at hw B
        obtain ⟨z4, rfl, rfl, rfl⟩ := pw_s hw
        refine lv_aload_n hx hb dX4_isSpanSound_52 rfl (lv_at hl 0 rfl) ?_
        refine k_i (k := 4) (n := 12) hA B (u_S (rest := []) X (c_X4_isSame l g (N + 1 + 1) (va_up (va_up ad N z2) (N + 1) z4) (va_up (va_up f N (c_row g t2)) (N + 1) (c_row g t2)) (N + 1) z4 t2 (Nat.lt_succ_self _) up_eq up_eq N z2 t2 (Nat.lt_succ_of_lt (Nat.lt_succ_self _)) ((up_lt (Nat.lt_succ_self _)).trans up_eq) ((up_lt (Nat.lt_succ_self _)).trans up_eq) H.size) mw_X4_isSame md_X4_isSame rfl lk_X4_87 ⟨Nat.le_of_ble_eq_true rfl, Nat.le_of_ble_eq_true rfl⟩ hA hK hT B hl.1 rfl (Nat.le_of_ble_eq_true rfl) dX4_isSpanSound_53 ⟨Nat.le_of_ble_eq_true rfl, Nat.le_of_ble_eq_true rfl⟩) (Nat.le_of_ble_eq_true rfl) (Nat.le_of_ble_eq_true rfl) (fun r ad' f' H locs hw B => ?_)
        obtain ⟨rfl, rfl, rfl⟩ := hw
        refine lv_if_eq (tgt := 63) hx hb dX4_isSpanSound_56 (by decide) (fun c5 => ?_) (fun c5 => ?_)
        · refine lv_iconst (v := 0) hx hb dX4_isSpanSound_63 (by decide) ?_
          have ev := (show v_X4_isSpanSound tj0 = 0 from by unfold v_X4_isSpanSound; rw [om_none o1, om_some o2, if_neg c3, if_pos c5])
          have B : WB g (aw N ad sz) s.heap N ad f H locs := B.drop (by omega) (fun _ hk => ((up_lt (Nat.lt_succ_of_lt hk)).trans (up_lt hk))) (fun _ hk => ((up_lt (Nat.lt_succ_of_lt hk)).trans (up_lt hk)))
          exact rt_i X hr (ad, f) B (PO_of B) ⟨rfl, ev, rfl⟩ rfl (Nat.le_of_ble_eq_true rfl) (Nat.le_of_ble_eq_true rfl) dX4_isSpanSound_64
        · refine lv_iconst (v := 1) hx hb dX4_isSpanSound_59 (by decide) ?_
          refine lv_goto (tgt := 64) hx hb dX4_isSpanSound_60 (by decide) ?_
          have ev := (show v_X4_isSpanSound tj0 = 1 from by unfold v_X4_isSpanSound; rw [om_none o1, om_some o2, if_neg c3, if_neg c5])
          have B : WB g (aw N ad sz) s.heap N ad f H locs := B.drop (by omega) (fun _ hk => ((up_lt (Nat.lt_succ_of_lt hk)).trans (up_lt hk))) (fun _ hk => ((up_lt (Nat.lt_succ_of_lt hk)).trans (up_lt hk)))
          exact rt_i X hr (ad, f) B (PO_of B) ⟨rfl, ev, rfl⟩ rfl (Nat.le_of_ble_eq_true rfl) (Nat.le_of_ble_eq_true rfl) dX4_isSpanSound_64
  | some t1 =>
    obtain ⟨z1, rfl, rfl, rfl⟩ := pw_s hw
    refine lv_ifnull hx hb dX4_isSpanSound_4 ?_
    refine lv_aload_n hx hb dX4_isSpanSound_7 rfl (lv_at hl 0 rfl) ?_
    refine k_r (k := 4) (n := 12) hA B (u_S (rest := []) X (c_X4_opposed l g (N + 1) (va_up ad N z1) (va_up f N (c_row g t1)) j0 bj0 tj0 (Nat.lt_succ_of_lt hj0) ((up_lt hj0).trans hbj0) ((up_lt hj0).trans hfj0) H.size) mw_X4_opposed md_X4_opposed rfl lk_X4_121 ⟨Nat.le_of_ble_eq_true rfl, Nat.le_of_ble_eq_true rfl⟩ hA hK hT B hl.1 rfl (Nat.le_of_ble_eq_true rfl) dX4_isSpanSound_8 ⟨Nat.le_of_ble_eq_true rfl, Nat.le_of_ble_eq_true rfl⟩) (Nat.le_of_ble_eq_true rfl) (Nat.le_of_ble_eq_true rfl) (fun r ad' f' H locs hw B => ?_)
    rw [o1] at hw B
    obtain ⟨z6, rfl, rfl, rfl⟩ := pw_s hw
    refine k_r (k := 6) (n := 18) hA B (u_S (rest := []) X (c_X4_opposed l g (N + 1 + 1) (va_up (va_up ad N z1) (N + 1) z6) (va_up (va_up f N (c_row g t1)) (N + 1) (c_row g t1)) (N + 1) z6 t1 (Nat.lt_succ_self _) up_eq up_eq H.size) mw_X4_opposed md_X4_opposed rfl lk_X4_121 ⟨Nat.le_of_ble_eq_true rfl, Nat.le_of_ble_eq_true rfl⟩ hA hK hT B hl.1 rfl (Nat.le_of_ble_eq_true rfl) dX4_isSpanSound_11 ⟨Nat.le_of_ble_eq_true rfl, Nat.le_of_ble_eq_true rfl⟩) (Nat.le_of_ble_eq_true rfl) (Nat.le_of_ble_eq_true rfl) (fun r ad' f' H locs hw B => ?_)
    rw [(opp_opp o1)] at hw B
    obtain ⟨z7, rfl, rfl, rfl⟩ := pw_s hw
    refine lv_aload_n hx hb dX4_isSpanSound_14 rfl (lv_at hl 0 rfl) ?_
    refine k_i (k := 6) (n := 18) hA B (u_S (rest := []) X (c_X4_isSame l g (N + 1 + 1 + 1) (va_up (va_up (va_up ad N z1) (N + 1) z6) (N + 1 + 1) z7) (va_up (va_up (va_up f N (c_row g t1)) (N + 1) (c_row g t1)) (N + 1 + 1) (c_row g tj0)) (N + 1 + 1) z7 tj0 (Nat.lt_succ_self _) up_eq up_eq j0 bj0 tj0 (Nat.lt_succ_of_lt (Nat.lt_succ_of_lt (Nat.lt_succ_of_lt hj0))) ((up_lt (Nat.lt_succ_of_lt (Nat.lt_succ_of_lt hj0))).trans ((up_lt (Nat.lt_succ_of_lt hj0)).trans ((up_lt hj0).trans hbj0))) ((up_lt (Nat.lt_succ_of_lt (Nat.lt_succ_of_lt hj0))).trans ((up_lt (Nat.lt_succ_of_lt hj0)).trans ((up_lt hj0).trans hfj0))) H.size) mw_X4_isSame md_X4_isSame rfl lk_X4_87 ⟨Nat.le_of_ble_eq_true rfl, Nat.le_of_ble_eq_true rfl⟩ hA hK hT B hl.1 rfl (Nat.le_of_ble_eq_true rfl) dX4_isSpanSound_15 ⟨Nat.le_of_ble_eq_true rfl, Nat.le_of_ble_eq_true rfl⟩) (Nat.le_of_ble_eq_true rfl) (Nat.le_of_ble_eq_true rfl) (fun r ad' f' H locs hw B => ?_)
    obtain ⟨rfl, rfl, rfl⟩ := hw
    refine lv_if_eq (tgt := 25) hx hb dX4_isSpanSound_18 (by decide) (fun c8 => ?_) (fun c8 => ?_)
    · refine lv_iconst (v := 0) hx hb dX4_isSpanSound_25 (by decide) ?_
      refine lv_istore_n (lv' := [(1, .int 0), (0, .ref bj0)]) hx hb dX4_isSpanSound_26 rfl hl (by decide) rfl (fun ls hl => ?_)
      refine lv_aload_n hx hb dX4_isSpanSound_27 rfl (lv_at hl 1 rfl) ?_
      refine k_r (k := 7) (n := 21) hA B (u_S (rest := []) X (c_X4_tidied l g (N + 1 + 1 + 1) (va_up (va_up (va_up ad N z1) (N + 1) z6) (N + 1 + 1) z7) (va_up (va_up (va_up f N (c_row g t1)) (N + 1) (c_row g t1)) (N + 1 + 1) (c_row g tj0)) j0 bj0 tj0 (Nat.lt_succ_of_lt (Nat.lt_succ_of_lt (Nat.lt_succ_of_lt hj0))) ((up_lt (Nat.lt_succ_of_lt (Nat.lt_succ_of_lt hj0))).trans ((up_lt (Nat.lt_succ_of_lt hj0)).trans ((up_lt hj0).trans hbj0))) ((up_lt (Nat.lt_succ_of_lt (Nat.lt_succ_of_lt hj0))).trans ((up_lt (Nat.lt_succ_of_lt hj0)).trans ((up_lt hj0).trans hfj0))) H.size) mw_X4_tidied md_X4_tidied rfl lk_X4_125 ⟨Nat.le_of_ble_eq_true rfl, Nat.le_of_ble_eq_true rfl⟩ hA hK hT B hl.1 rfl (Nat.le_of_ble_eq_true rfl) dX4_isSpanSound_28 ⟨Nat.le_of_ble_eq_true rfl, Nat.le_of_ble_eq_true rfl⟩) (Nat.le_of_ble_eq_true rfl) (Nat.le_of_ble_eq_true rfl) (fun r ad' f' H locs hw B => ?_)
      generalize o9 : (v_X4_tidied tj0) = v9 at hw B
      cases v9 with
      | none =>
        obtain ⟨rfl, rfl, rfl⟩ := pw_n hw
        refine lv_astore_nN (lv' := [(2, .null), (1, .int 0), (0, .ref bj0)]) hx hb dX4_isSpanSound_31 rfl hl (by decide) rfl (fun ls hl => ?_)
        refine lv_iload_n hx hb dX4_isSpanSound_32 rfl (lv_at hl 1 rfl) ?_
        refine lv_if_eq (tgt := 63) hx hb dX4_isSpanSound_33 (by decide) (fun _ => ?_) (fun z => absurd z (by decide))
        refine lv_iconst (v := 0) hx hb dX4_isSpanSound_63 (by decide) ?_
        have ev := (show v_X4_isSpanSound tj0 = 0 from by unfold v_X4_isSpanSound; rw [om_some o1, if_pos c8, om_none o9])
        have B : WB g (aw N ad sz) s.heap N ad f H locs := B.drop (by omega) (fun _ hk => ((up_lt (Nat.lt_succ_of_lt (Nat.lt_succ_of_lt hk))).trans ((up_lt (Nat.lt_succ_of_lt hk)).trans (up_lt hk)))) (fun _ hk => ((up_lt (Nat.lt_succ_of_lt (Nat.lt_succ_of_lt hk))).trans ((up_lt (Nat.lt_succ_of_lt hk)).trans (up_lt hk))))
        exact rt_i X hr (ad, f) B (PO_of B) ⟨rfl, ev, rfl⟩ rfl (Nat.le_of_ble_eq_true rfl) (Nat.le_of_ble_eq_true rfl) dX4_isSpanSound_64
      | some t9 =>
        obtain ⟨z9, rfl, rfl, rfl⟩ := pw_s hw
        refine lv_astore_n (lv' := [(2, .ref z9), (1, .int 0), (0, .ref bj0)]) hx hb dX4_isSpanSound_31 rfl hl (by decide) rfl (fun ls hl => ?_)
        refine lv_iload_n hx hb dX4_isSpanSound_32 rfl (lv_at hl 1 rfl) ?_
        refine lv_if_eq (tgt := 63) hx hb dX4_isSpanSound_33 (by decide) (fun _ => ?_) (fun z => absurd z (by decide))
        refine lv_iconst (v := 0) hx hb dX4_isSpanSound_63 (by decide) ?_
        have ev := (show v_X4_isSpanSound tj0 = 0 from by unfold v_X4_isSpanSound; rw [om_some o1, if_pos c8, om_some o9])
        have B : WB g (aw N ad sz) s.heap N ad f H locs := B.drop (by omega) (fun _ hk => ((up_lt (Nat.lt_succ_of_lt (Nat.lt_succ_of_lt (Nat.lt_succ_of_lt hk)))).trans ((up_lt (Nat.lt_succ_of_lt (Nat.lt_succ_of_lt hk))).trans ((up_lt (Nat.lt_succ_of_lt hk)).trans (up_lt hk))))) (fun _ hk => ((up_lt (Nat.lt_succ_of_lt (Nat.lt_succ_of_lt (Nat.lt_succ_of_lt hk)))).trans ((up_lt (Nat.lt_succ_of_lt (Nat.lt_succ_of_lt hk))).trans ((up_lt (Nat.lt_succ_of_lt hk)).trans (up_lt hk)))))
        exact rt_i X hr (ad, f) B (PO_of B) ⟨rfl, ev, rfl⟩ rfl (Nat.le_of_ble_eq_true rfl) (Nat.le_of_ble_eq_true rfl) dX4_isSpanSound_64
    · refine lv_iconst (v := 1) hx hb dX4_isSpanSound_21 (by decide) ?_
      refine lv_goto (tgt := 26) hx hb dX4_isSpanSound_22 (by decide) ?_
      refine lv_istore_n (lv' := [(1, .int 1), (0, .ref bj0)]) hx hb dX4_isSpanSound_26 rfl hl (by decide) rfl (fun ls hl => ?_)
      refine lv_aload_n hx hb dX4_isSpanSound_27 rfl (lv_at hl 1 rfl) ?_
      refine k_r (k := 7) (n := 21) hA B (u_S (rest := []) X (c_X4_tidied l g (N + 1 + 1 + 1) (va_up (va_up (va_up ad N z1) (N + 1) z6) (N + 1 + 1) z7) (va_up (va_up (va_up f N (c_row g t1)) (N + 1) (c_row g t1)) (N + 1 + 1) (c_row g tj0)) j0 bj0 tj0 (Nat.lt_succ_of_lt (Nat.lt_succ_of_lt (Nat.lt_succ_of_lt hj0))) ((up_lt (Nat.lt_succ_of_lt (Nat.lt_succ_of_lt hj0))).trans ((up_lt (Nat.lt_succ_of_lt hj0)).trans ((up_lt hj0).trans hbj0))) ((up_lt (Nat.lt_succ_of_lt (Nat.lt_succ_of_lt hj0))).trans ((up_lt (Nat.lt_succ_of_lt hj0)).trans ((up_lt hj0).trans hfj0))) H.size) mw_X4_tidied md_X4_tidied rfl lk_X4_125 ⟨Nat.le_of_ble_eq_true rfl, Nat.le_of_ble_eq_true rfl⟩ hA hK hT B hl.1 rfl (Nat.le_of_ble_eq_true rfl) dX4_isSpanSound_28 ⟨Nat.le_of_ble_eq_true rfl, Nat.le_of_ble_eq_true rfl⟩) (Nat.le_of_ble_eq_true rfl) (Nat.le_of_ble_eq_true rfl) (fun r ad' f' H locs hw B => ?_)
      generalize o10 : (v_X4_tidied tj0) = v9 at hw B
      cases v9 with
      | none =>
        obtain ⟨rfl, rfl, rfl⟩ := pw_n hw
        refine lv_astore_nN (lv' := [(2, .null), (1, .int 1), (0, .ref bj0)]) hx hb dX4_isSpanSound_31 rfl hl (by decide) rfl (fun ls hl => ?_)
        refine lv_iload_n hx hb dX4_isSpanSound_32 rfl (lv_at hl 1 rfl) ?_
        refine lv_if_eq (tgt := 63) hx hb dX4_isSpanSound_33 (by decide) (fun z => absurd z (by decide)) (fun _ => ?_)
        refine lv_aload_nN hx hb dX4_isSpanSound_36 rfl (lv_at hl 0 rfl) ?_
        refine lv_ifnullN (tgt := 59) hx hb dX4_isSpanSound_37 (by decide) ?_
        refine lv_iconst (v := 1) hx hb dX4_isSpanSound_59 (by decide) ?_
        refine lv_goto (tgt := 64) hx hb dX4_isSpanSound_60 (by decide) ?_
        have ev := (show v_X4_isSpanSound tj0 = 1 from by unfold v_X4_isSpanSound; rw [om_some o1, if_neg c8, om_none o10])
        have B : WB g (aw N ad sz) s.heap N ad f H locs := B.drop (by omega) (fun _ hk => ((up_lt (Nat.lt_succ_of_lt (Nat.lt_succ_of_lt hk))).trans ((up_lt (Nat.lt_succ_of_lt hk)).trans (up_lt hk)))) (fun _ hk => ((up_lt (Nat.lt_succ_of_lt (Nat.lt_succ_of_lt hk))).trans ((up_lt (Nat.lt_succ_of_lt hk)).trans (up_lt hk))))
        exact rt_i X hr (ad, f) B (PO_of B) ⟨rfl, ev, rfl⟩ rfl (Nat.le_of_ble_eq_true rfl) (Nat.le_of_ble_eq_true rfl) dX4_isSpanSound_64
      | some t10 =>
        obtain ⟨z10, rfl, rfl, rfl⟩ := pw_s hw
        refine lv_astore_n (lv' := [(2, .ref z10), (1, .int 1), (0, .ref bj0)]) hx hb dX4_isSpanSound_31 rfl hl (by decide) rfl (fun ls hl => ?_)
        refine lv_iload_n hx hb dX4_isSpanSound_32 rfl (lv_at hl 1 rfl) ?_
        refine lv_if_eq (tgt := 63) hx hb dX4_isSpanSound_33 (by decide) (fun z => absurd z (by decide)) (fun _ => ?_)
        refine lv_aload_n hx hb dX4_isSpanSound_36 rfl (lv_at hl 0 rfl) ?_
        refine lv_ifnull hx hb dX4_isSpanSound_37 ?_
        refine lv_aload_n hx hb dX4_isSpanSound_40 rfl (lv_at hl 0 rfl) ?_
        refine lv_aload_n hx hb dX4_isSpanSound_41 rfl (lv_at hl 2 rfl) ?_
        refine k_i (k := 7) (n := 21) hA B (u_S (rest := []) X (c_X4_isAlike l g (N + 1 + 1 + 1 + 1) (va_up (va_up (va_up (va_up ad N z1) (N + 1) z6) (N + 1 + 1) z7) (N + 1 + 1 + 1) z10) (va_up (va_up (va_up (va_up f N (c_row g t1)) (N + 1) (c_row g t1)) (N + 1 + 1) (c_row g tj0)) (N + 1 + 1 + 1) (c_row g t10)) (N + 1 + 1 + 1) z10 t10 (Nat.lt_succ_self _) up_eq up_eq j0 bj0 tj0 (Nat.lt_succ_of_lt (Nat.lt_succ_of_lt (Nat.lt_succ_of_lt (Nat.lt_succ_of_lt hj0)))) ((up_lt (Nat.lt_succ_of_lt (Nat.lt_succ_of_lt (Nat.lt_succ_of_lt hj0)))).trans ((up_lt (Nat.lt_succ_of_lt (Nat.lt_succ_of_lt hj0))).trans ((up_lt (Nat.lt_succ_of_lt hj0)).trans ((up_lt hj0).trans hbj0)))) ((up_lt (Nat.lt_succ_of_lt (Nat.lt_succ_of_lt (Nat.lt_succ_of_lt hj0)))).trans ((up_lt (Nat.lt_succ_of_lt (Nat.lt_succ_of_lt hj0))).trans ((up_lt (Nat.lt_succ_of_lt hj0)).trans ((up_lt hj0).trans hfj0)))) H.size) mw_X4_isAlike md_X4_isAlike rfl lk_X4_162 ⟨Nat.le_of_ble_eq_true rfl, Nat.le_of_ble_eq_true rfl⟩ hA hK hT B hl.1 rfl (Nat.le_of_ble_eq_true rfl) dX4_isSpanSound_42 ⟨Nat.le_of_ble_eq_true rfl, Nat.le_of_ble_eq_true rfl⟩) (Nat.le_of_ble_eq_true rfl) (Nat.le_of_ble_eq_true rfl) (fun r ad' f' H locs hw B => ?_)
        obtain ⟨rfl, rfl, rfl⟩ := hw
        refine lv_if_eq (tgt := 63) hx hb dX4_isSpanSound_45 (by decide) (fun c11 => ?_) (fun c11 => ?_)
        · refine lv_iconst (v := 0) hx hb dX4_isSpanSound_63 (by decide) ?_
          have ev := (show v_X4_isSpanSound tj0 = 0 from by unfold v_X4_isSpanSound; rw [om_some o1, if_neg c8, om_some o10, if_pos c11])
          have B : WB g (aw N ad sz) s.heap N ad f H locs := B.drop (by omega) (fun _ hk => ((up_lt (Nat.lt_succ_of_lt (Nat.lt_succ_of_lt (Nat.lt_succ_of_lt hk)))).trans ((up_lt (Nat.lt_succ_of_lt (Nat.lt_succ_of_lt hk))).trans ((up_lt (Nat.lt_succ_of_lt hk)).trans (up_lt hk))))) (fun _ hk => ((up_lt (Nat.lt_succ_of_lt (Nat.lt_succ_of_lt (Nat.lt_succ_of_lt hk)))).trans ((up_lt (Nat.lt_succ_of_lt (Nat.lt_succ_of_lt hk))).trans ((up_lt (Nat.lt_succ_of_lt hk)).trans (up_lt hk)))))
          exact rt_i X hr (ad, f) B (PO_of B) ⟨rfl, ev, rfl⟩ rfl (Nat.le_of_ble_eq_true rfl) (Nat.le_of_ble_eq_true rfl) dX4_isSpanSound_64
        · refine lv_aload_n hx hb dX4_isSpanSound_48 rfl (lv_at hl 0 rfl) ?_
          refine k_r (k := 8) (n := 24) hA B (u_S (rest := []) X (c_X4_tidied l g (N + 1 + 1 + 1 + 1) (va_up (va_up (va_up (va_up ad N z1) (N + 1) z6) (N + 1 + 1) z7) (N + 1 + 1 + 1) z10) (va_up (va_up (va_up (va_up f N (c_row g t1)) (N + 1) (c_row g t1)) (N + 1 + 1) (c_row g tj0)) (N + 1 + 1 + 1) (c_row g t10)) (N + 1 + 1 + 1) z10 t10 (Nat.lt_succ_self _) up_eq up_eq H.size) mw_X4_tidied md_X4_tidied rfl lk_X4_125 ⟨Nat.le_of_ble_eq_true rfl, Nat.le_of_ble_eq_true rfl⟩ hA hK hT B hl.1 rfl (Nat.le_of_ble_eq_true rfl) dX4_isSpanSound_49 ⟨Nat.le_of_ble_eq_true rfl, Nat.le_of_ble_eq_true rfl⟩) (Nat.le_of_ble_eq_true rfl) (Nat.le_of_ble_eq_true rfl) (fun r ad' f' H locs hw B => ?_)
          rw [(tidy_tidy o10)] at hw B
          obtain ⟨z12, rfl, rfl, rfl⟩ := pw_s hw
          refine lv_aload_n hx hb dX4_isSpanSound_52 rfl (lv_at hl 0 rfl) ?_
          refine k_i (k := 8) (n := 24) hA B (u_S (rest := []) X (c_X4_isSame l g (N + 1 + 1 + 1 + 1 + 1) (va_up (va_up (va_up (va_up (va_up ad N z1) (N + 1) z6) (N + 1 + 1) z7) (N + 1 + 1 + 1) z10) (N + 1 + 1 + 1 + 1) z12) (va_up (va_up (va_up (va_up (va_up f N (c_row g t1)) (N + 1) (c_row g t1)) (N + 1 + 1) (c_row g tj0)) (N + 1 + 1 + 1) (c_row g t10)) (N + 1 + 1 + 1 + 1) (c_row g t10)) (N + 1 + 1 + 1 + 1) z12 t10 (Nat.lt_succ_self _) up_eq up_eq (N + 1 + 1 + 1) z10 t10 (Nat.lt_succ_of_lt (Nat.lt_succ_self _)) ((up_lt (Nat.lt_succ_self _)).trans up_eq) ((up_lt (Nat.lt_succ_self _)).trans up_eq) H.size) mw_X4_isSame md_X4_isSame rfl lk_X4_87 ⟨Nat.le_of_ble_eq_true rfl, Nat.le_of_ble_eq_true rfl⟩ hA hK hT B hl.1 rfl (Nat.le_of_ble_eq_true rfl) dX4_isSpanSound_53 ⟨Nat.le_of_ble_eq_true rfl, Nat.le_of_ble_eq_true rfl⟩) (Nat.le_of_ble_eq_true rfl) (Nat.le_of_ble_eq_true rfl) (fun r ad' f' H locs hw B => ?_)
          obtain ⟨rfl, rfl, rfl⟩ := hw
          refine lv_if_eq (tgt := 63) hx hb dX4_isSpanSound_56 (by decide) (fun c13 => ?_) (fun c13 => ?_)
          · refine lv_iconst (v := 0) hx hb dX4_isSpanSound_63 (by decide) ?_
            have ev := (show v_X4_isSpanSound tj0 = 0 from by unfold v_X4_isSpanSound; rw [om_some o1, if_neg c8, om_some o10, if_neg c11, if_pos c13])
            have B : WB g (aw N ad sz) s.heap N ad f H locs := B.drop (by omega) (fun _ hk => ((up_lt (Nat.lt_succ_of_lt (Nat.lt_succ_of_lt (Nat.lt_succ_of_lt (Nat.lt_succ_of_lt hk))))).trans ((up_lt (Nat.lt_succ_of_lt (Nat.lt_succ_of_lt (Nat.lt_succ_of_lt hk)))).trans ((up_lt (Nat.lt_succ_of_lt (Nat.lt_succ_of_lt hk))).trans ((up_lt (Nat.lt_succ_of_lt hk)).trans (up_lt hk)))))) (fun _ hk => ((up_lt (Nat.lt_succ_of_lt (Nat.lt_succ_of_lt (Nat.lt_succ_of_lt (Nat.lt_succ_of_lt hk))))).trans ((up_lt (Nat.lt_succ_of_lt (Nat.lt_succ_of_lt (Nat.lt_succ_of_lt hk)))).trans ((up_lt (Nat.lt_succ_of_lt (Nat.lt_succ_of_lt hk))).trans ((up_lt (Nat.lt_succ_of_lt hk)).trans (up_lt hk))))))
            exact rt_i X hr (ad, f) B (PO_of B) ⟨rfl, ev, rfl⟩ rfl (Nat.le_of_ble_eq_true rfl) (Nat.le_of_ble_eq_true rfl) dX4_isSpanSound_64
          · refine lv_iconst (v := 1) hx hb dX4_isSpanSound_59 (by decide) ?_
            refine lv_goto (tgt := 64) hx hb dX4_isSpanSound_60 (by decide) ?_
            have ev := (show v_X4_isSpanSound tj0 = 1 from by unfold v_X4_isSpanSound; rw [om_some o1, if_neg c8, om_some o10, if_neg c11, if_neg c13])
            have B : WB g (aw N ad sz) s.heap N ad f H locs := B.drop (by omega) (fun _ hk => ((up_lt (Nat.lt_succ_of_lt (Nat.lt_succ_of_lt (Nat.lt_succ_of_lt (Nat.lt_succ_of_lt hk))))).trans ((up_lt (Nat.lt_succ_of_lt (Nat.lt_succ_of_lt (Nat.lt_succ_of_lt hk)))).trans ((up_lt (Nat.lt_succ_of_lt (Nat.lt_succ_of_lt hk))).trans ((up_lt (Nat.lt_succ_of_lt hk)).trans (up_lt hk)))))) (fun _ hk => ((up_lt (Nat.lt_succ_of_lt (Nat.lt_succ_of_lt (Nat.lt_succ_of_lt (Nat.lt_succ_of_lt hk))))).trans ((up_lt (Nat.lt_succ_of_lt (Nat.lt_succ_of_lt (Nat.lt_succ_of_lt hk)))).trans ((up_lt (Nat.lt_succ_of_lt (Nat.lt_succ_of_lt hk))).trans ((up_lt (Nat.lt_succ_of_lt hk)).trans (up_lt hk))))))
            exact rt_i X hr (ad, f) B (PO_of B) ⟨rfl, ev, rfl⟩ rfl (Nat.le_of_ble_eq_true rfl) (Nat.le_of_ble_eq_true rfl) dX4_isSpanSound_64
def v_X4_areSound (tj0 : TR) (tj1 : TR) : Int32 := om (v_X4_sum tj0 1 tj1) (om (v_X4_sum tj1 1 tj0) 1 (fun t2 => 0)) (fun t1 => om (v_X4_sum tj1 1 tj0) 0 (fun t3 => if (v_X4_isSame t1 t3) = 0 then 0 else (if (v_X4_isSame tj0 tj0) = 0 then 0 else (om (v_X4_opposed tj0) 1 (fun t7 => om (v_X4_opposed tj1) 1 (fun t8 => if (v_X4_isAlike tj0 tj1) = (v_X4_isAlike t7 t8) then 1 else 0))))))
theorem b01_X4_areSound {tj0 : TR} {tj1 : TR} : (v_X4_areSound tj0 tj1) = 0 ∨ (v_X4_areSound tj0 tj1) = 1 := by
  unfold v_X4_areSound
  cases q1 : (v_X4_sum tj0 1 tj1) with
  | none =>
    rw [om_none rfl]
    cases q2 : (v_X4_sum tj1 1 tj0) with
    | none =>
      rw [om_none rfl]
      exact Or.inr rfl
    | some t2 =>
      rw [om_some rfl]
      exact Or.inl rfl
  | some t1 =>
    rw [om_some rfl]
    cases q3 : (v_X4_sum tj1 1 tj0) with
    | none =>
      rw [om_none rfl]
      exact Or.inl rfl
    | some t3 =>
      rw [om_some rfl]
      by_cases q4 : (v_X4_isSame t1 t3) = 0
      · rw [if_pos q4]
        exact Or.inl rfl
      · rw [if_neg q4]
        by_cases q5 : (v_X4_isSame tj0 tj0) = 0
        · rw [if_pos q5]
          exact Or.inl rfl
        · rw [if_neg q5]
          cases q6 : (v_X4_opposed tj0) with
          | none =>
            rw [om_none rfl]
            exact Or.inr rfl
          | some t7 =>
            rw [om_some rfl]
            cases q7 : (v_X4_opposed tj1) with
            | none =>
              rw [om_none rfl]
              exact Or.inr rfl
            | some t8 =>
              rw [om_some rfl]
              by_cases q8 : (v_X4_isAlike tj0 tj1) = (v_X4_isAlike t7 t8)
              · rw [if_pos q8]
                exact Or.inr rfl
              · rw [if_neg q8]
                exact Or.inl rfl
set_option maxHeartbeats 4000000 in
set_option maxRecDepth 100000 in
theorem c_X4_areSound (l : Launch) (g : GG) (N : Nat) (ad : Nat → Nat) (f : Nat → va_E) (j0 bj0 : Nat) (tj0 : TR) (hj0 : j0 < N) (hbj0 : ad j0 = bj0) (hfj0 : f j0 = c_row g tj0) (j1 bj1 : Nat) (tj1 : TR) (hj1 : j1 < N) (hbj1 : ad j1 = bj1) (hfj1 : f j1 = c_row g tj1) : KI l yX4_areSound cX4_areSound 5 (some .boolean) (rm 4 11 33) g [.ref bj0, .ref bj1] N ad f N (fun r ad' f' => ad = ad' ∧ (v_X4_areSound tj0 tj1) = r ∧ f = f') := by
  intro sz
  refine mt_start (by decide) (Nat.le_of_ble_eq_true rfl) ?_
  intro p e s m args below meth c hsz X hr hnam hA hK hT H locs B ls hl
  obtain ⟨hx, hb, hml, hown, hts, hlocks⟩ := id X
  have hl : lv_has ls 5 [(0, .ref bj0), (1, .ref bj1)] := hl
  refine lv_aload_n hx hb dX4_areSound_0 rfl (lv_at hl 0 rfl) ?_
  refine lv_lconst (v := 1) hx hb dX4_areSound_1 (by decide) ?_
  refine lv_aload_n hx hb dX4_areSound_2 rfl (lv_at hl 1 rfl) ?_
  refine k_r (k := 1) (n := 3) hA B (u_S (rest := []) X (c_X4_sum l g N ad f j0 bj0 tj0 hj0 hbj0 hfj0 1 j1 bj1 tj1 hj1 hbj1 hfj1 H.size) mw_X4_sum md_X4_sum rfl lk_X4_57 ⟨Nat.le_of_ble_eq_true rfl, Nat.le_of_ble_eq_true rfl⟩ hA hK hT B hl.1 rfl (Nat.le_of_ble_eq_true rfl) dX4_areSound_3 ⟨Nat.le_of_ble_eq_true rfl, Nat.le_of_ble_eq_true rfl⟩) (Nat.le_of_ble_eq_true rfl) (Nat.le_of_ble_eq_true rfl) (fun r ad' f' H locs hw B => ?_)
  generalize o1 : (v_X4_sum tj0 1 tj1) = v9 at hw B
  cases v9 with
  | none =>
    obtain ⟨rfl, rfl, rfl⟩ := pw_n hw
    refine lv_astore_nN (lv' := [(2, .null), (0, .ref bj0), (1, .ref bj1)]) hx hb dX4_areSound_6 rfl hl (by decide) rfl (fun ls hl => ?_)
    refine lv_aload_n hx hb dX4_areSound_7 rfl (lv_at hl 2 rfl) ?_
    refine lv_lconst (v := 1) hx hb dX4_areSound_8 (by decide) ?_
    refine lv_aload_n hx hb dX4_areSound_9 rfl (lv_at hl 1 rfl) ?_
    refine k_r (k := 2) (n := 6) hA B (u_S (rest := []) X (c_X4_sum l g N ad f j1 bj1 tj1 hj1 hbj1 hfj1 1 j0 bj0 tj0 hj0 hbj0 hfj0 H.size) mw_X4_sum md_X4_sum rfl lk_X4_57 ⟨Nat.le_of_ble_eq_true rfl, Nat.le_of_ble_eq_true rfl⟩ hA hK hT B hl.1 rfl (Nat.le_of_ble_eq_true rfl) dX4_areSound_10 ⟨Nat.le_of_ble_eq_true rfl, Nat.le_of_ble_eq_true rfl⟩) (Nat.le_of_ble_eq_true rfl) (Nat.le_of_ble_eq_true rfl) (fun r ad' f' H locs hw B => ?_)
    generalize o2 : (v_X4_sum tj1 1 tj0) = v9 at hw B
    cases v9 with
    | none =>
      obtain ⟨rfl, rfl, rfl⟩ := pw_n hw
      refine lv_astore_nN (lv' := [(3, .null), (2, .null), (0, .ref bj0), (1, .ref bj1)]) hx hb dX4_areSound_13 rfl hl (by decide) rfl (fun ls hl => ?_)
      refine lv_aload_nN hx hb dX4_areSound_14 rfl (lv_at hl 1 rfl) ?_
      refine lv_ifnullN (tgt := 22) hx hb dX4_areSound_15 (by decide) ?_
      refine lv_aload_nN hx hb dX4_areSound_22 rfl (lv_at hl 1 rfl) ?_
      refine lv_ifnonnullN hx hb dX4_areSound_23 ?_
      refine lv_aload_nN hx hb dX4_areSound_26 rfl (lv_at hl 0 rfl) ?_
      refine lv_ifnonnullN hx hb dX4_areSound_27 ?_
      refine lv_iconst (v := 1) hx hb dX4_areSound_30 (by decide) ?_
      refine lv_goto (tgt := 35) hx hb dX4_areSound_31 (by decide) ?_
      have ev := (show v_X4_areSound tj0 tj1 = 1 from by unfold v_X4_areSound; rw [om_none o1, om_none o2])
      exact rt_i X hr (ad, f) B (PO_of B) ⟨rfl, ev, rfl⟩ rfl (Nat.le_of_ble_eq_true rfl) (Nat.le_of_ble_eq_true rfl) dX4_areSound_35
    | some t2 =>
      obtain ⟨z2, rfl, rfl, rfl⟩ := pw_s hw
      refine lv_astore_n (lv' := [(3, .ref z2), (2, .null), (0, .ref bj0), (1, .ref bj1)]) hx hb dX4_areSound_13 rfl hl (by decide) rfl (fun ls hl => ?_)
      refine lv_aload_nN hx hb dX4_areSound_14 rfl (lv_at hl 1 rfl) ?_
      refine lv_ifnullN (tgt := 22) hx hb dX4_areSound_15 (by decide) ?_
      refine lv_aload_nN hx hb dX4_areSound_22 rfl (lv_at hl 1 rfl) ?_
      refine lv_ifnonnullN hx hb dX4_areSound_23 ?_
      refine lv_aload_n hx hb dX4_areSound_26 rfl (lv_at hl 0 rfl) ?_
      refine lv_ifnonnull (tgt := 34) hx hb dX4_areSound_27 (by decide) ?_
      refine lv_iconst (v := 0) hx hb dX4_areSound_34 (by decide) ?_
      have ev := (show v_X4_areSound tj0 tj1 = 0 from by unfold v_X4_areSound; rw [om_none o1, om_some o2])
      have B : WB g (aw N ad sz) s.heap N ad f H locs := B.drop (by omega) (fun _ hk => (up_lt hk)) (fun _ hk => (up_lt hk))
      exact rt_i X hr (ad, f) B (PO_of B) ⟨rfl, ev, rfl⟩ rfl (Nat.le_of_ble_eq_true rfl) (Nat.le_of_ble_eq_true rfl) dX4_areSound_35
  | some t1 =>
    obtain ⟨z1, rfl, rfl, rfl⟩ := pw_s hw
    refine lv_astore_n (lv' := [(2, .ref z1), (0, .ref bj0), (1, .ref bj1)]) hx hb dX4_areSound_6 rfl hl (by decide) rfl (fun ls hl => ?_)
    refine lv_aload_n hx hb dX4_areSound_7 rfl (lv_at hl 2 rfl) ?_
    refine lv_lconst (v := 1) hx hb dX4_areSound_8 (by decide) ?_
    refine lv_aload_n hx hb dX4_areSound_9 rfl (lv_at hl 1 rfl) ?_
    refine k_r (k := 2) (n := 6) hA B (u_S (rest := []) X (c_X4_sum l g (N + 1) (va_up ad N z1) (va_up f N (c_row g t1)) j1 bj1 tj1 (Nat.lt_succ_of_lt hj1) ((up_lt hj1).trans hbj1) ((up_lt hj1).trans hfj1) 1 j0 bj0 tj0 (Nat.lt_succ_of_lt hj0) ((up_lt hj0).trans hbj0) ((up_lt hj0).trans hfj0) H.size) mw_X4_sum md_X4_sum rfl lk_X4_57 ⟨Nat.le_of_ble_eq_true rfl, Nat.le_of_ble_eq_true rfl⟩ hA hK hT B hl.1 rfl (Nat.le_of_ble_eq_true rfl) dX4_areSound_10 ⟨Nat.le_of_ble_eq_true rfl, Nat.le_of_ble_eq_true rfl⟩) (Nat.le_of_ble_eq_true rfl) (Nat.le_of_ble_eq_true rfl) (fun r ad' f' H locs hw B => ?_)
    generalize o3 : (v_X4_sum tj1 1 tj0) = v9 at hw B
    cases v9 with
    | none =>
      obtain ⟨rfl, rfl, rfl⟩ := pw_n hw
      refine lv_astore_nN (lv' := [(3, .null), (2, .ref z1), (0, .ref bj0), (1, .ref bj1)]) hx hb dX4_areSound_13 rfl hl (by decide) rfl (fun ls hl => ?_)
      refine lv_aload_n hx hb dX4_areSound_14 rfl (lv_at hl 1 rfl) ?_
      refine lv_ifnull hx hb dX4_areSound_15 ?_
      refine lv_aload_nN hx hb dX4_areSound_18 rfl (lv_at hl 0 rfl) ?_
      refine lv_ifnonnullN hx hb dX4_areSound_19 ?_
      refine lv_aload_n hx hb dX4_areSound_22 rfl (lv_at hl 1 rfl) ?_
      refine lv_ifnonnull (tgt := 34) hx hb dX4_areSound_23 (by decide) ?_
      refine lv_iconst (v := 0) hx hb dX4_areSound_34 (by decide) ?_
      have ev := (show v_X4_areSound tj0 tj1 = 0 from by unfold v_X4_areSound; rw [om_some o1, om_none o3])
      have B : WB g (aw N ad sz) s.heap N ad f H locs := B.drop (by omega) (fun _ hk => (up_lt hk)) (fun _ hk => (up_lt hk))
      exact rt_i X hr (ad, f) B (PO_of B) ⟨rfl, ev, rfl⟩ rfl (Nat.le_of_ble_eq_true rfl) (Nat.le_of_ble_eq_true rfl) dX4_areSound_35
    | some t3 =>
      obtain ⟨z3, rfl, rfl, rfl⟩ := pw_s hw
      refine lv_astore_n (lv' := [(3, .ref z3), (2, .ref z1), (0, .ref bj0), (1, .ref bj1)]) hx hb dX4_areSound_13 rfl hl (by decide) rfl (fun ls hl => ?_)
      refine lv_aload_n hx hb dX4_areSound_14 rfl (lv_at hl 1 rfl) ?_
      refine lv_ifnull hx hb dX4_areSound_15 ?_
      refine lv_aload_n hx hb dX4_areSound_18 rfl (lv_at hl 0 rfl) ?_
      refine lv_ifnonnull (tgt := 36) hx hb dX4_areSound_19 (by decide) ?_
      refine lv_aload_n hx hb dX4_areSound_36 rfl (lv_at hl 1 rfl) ?_
      refine lv_aload_n hx hb dX4_areSound_37 rfl (lv_at hl 0 rfl) ?_
      refine k_i (k := 2) (n := 6) hA B (u_S (rest := []) X (c_X4_isSame l g (N + 1 + 1) (va_up (va_up ad N z1) (N + 1) z3) (va_up (va_up f N (c_row g t1)) (N + 1) (c_row g t3)) N z1 t1 (Nat.lt_succ_of_lt (Nat.lt_succ_self _)) ((up_lt (Nat.lt_succ_self _)).trans up_eq) ((up_lt (Nat.lt_succ_self _)).trans up_eq) (N + 1) z3 t3 (Nat.lt_succ_self _) up_eq up_eq H.size) mw_X4_isSame md_X4_isSame rfl lk_X4_87 ⟨Nat.le_of_ble_eq_true rfl, Nat.le_of_ble_eq_true rfl⟩ hA hK hT B hl.1 rfl (Nat.le_of_ble_eq_true rfl) dX4_areSound_38 ⟨Nat.le_of_ble_eq_true rfl, Nat.le_of_ble_eq_true rfl⟩) (Nat.le_of_ble_eq_true rfl) (Nat.le_of_ble_eq_true rfl) (fun r ad' f' H locs hw B => ?_)
      obtain ⟨rfl, rfl, rfl⟩ := hw
      refine lv_if_eq (tgt := 63) hx hb dX4_areSound_41 (by decide) (fun c4 => ?_) (fun c4 => ?_)
      · refine lv_iconst (v := 0) hx hb dX4_areSound_63 (by decide) ?_
        refine lv_istore (lv' := [(4, .int 0), (3, .ref z3), (2, .ref z1), (0, .ref bj0), (1, .ref bj1)]) hx hb dX4_areSound_64 hl (by decide) rfl (fun ls hl => ?_)
        refine lv_iload hx hb dX4_areSound_66 (lv_at hl 0 rfl) ?_
        refine lv_if_eq (tgt := 108) hx hb dX4_areSound_68 (by decide) (fun _ => ?_) (fun z => absurd z (by decide))
        refine lv_iconst (v := 0) hx hb dX4_areSound_108 (by decide) ?_
        have ev := (show v_X4_areSound tj0 tj1 = 0 from by unfold v_X4_areSound; rw [om_some o1, om_some o3, if_pos c4])
        have B : WB g (aw N ad sz) s.heap N ad f H locs := B.drop (by omega) (fun _ hk => ((up_lt (Nat.lt_succ_of_lt hk)).trans (up_lt hk))) (fun _ hk => ((up_lt (Nat.lt_succ_of_lt hk)).trans (up_lt hk)))
        exact rt_i X hr (ad, f) B (PO_of B) ⟨rfl, ev, rfl⟩ rfl (Nat.le_of_ble_eq_true rfl) (Nat.le_of_ble_eq_true rfl) dX4_areSound_109
      · refine lv_aload_n hx hb dX4_areSound_44 rfl (lv_at hl 1 rfl) ?_
        refine lv_ldc2 hx hb hown (hts _ (List.mem_cons_of_mem _ lk_X4_55)) dX4_areSound_45 ?_
        refine lv_aload_n hx hb dX4_areSound_48 rfl (lv_at hl 3 rfl) ?_
        refine k_r (k := 3) (n := 9) hA B (u_S (rest := []) X (c_X4_sum l g (N + 1 + 1) (va_up (va_up ad N z1) (N + 1) z3) (va_up (va_up f N (c_row g t1)) (N + 1) (c_row g t3)) N z1 t1 (Nat.lt_succ_of_lt (Nat.lt_succ_self _)) ((up_lt (Nat.lt_succ_self _)).trans up_eq) ((up_lt (Nat.lt_succ_self _)).trans up_eq) (-1) j1 bj1 tj1 (Nat.lt_succ_of_lt (Nat.lt_succ_of_lt hj1)) ((up_lt (Nat.lt_succ_of_lt hj1)).trans ((up_lt hj1).trans hbj1)) ((up_lt (Nat.lt_succ_of_lt hj1)).trans ((up_lt hj1).trans hfj1)) H.size) mw_X4_sum md_X4_sum rfl lk_X4_57 ⟨Nat.le_of_ble_eq_true rfl, Nat.le_of_ble_eq_true rfl⟩ hA hK hT B hl.1 rfl (Nat.le_of_ble_eq_true rfl) dX4_areSound_49 ⟨Nat.le_of_ble_eq_true rfl, Nat.le_of_ble_eq_true rfl⟩) (Nat.le_of_ble_eq_true rfl) (Nat.le_of_ble_eq_true rfl) (fun r ad' f' H locs hw B => ?_)
        rw [(sum_back o1)] at hw B
        obtain ⟨z5, rfl, rfl, rfl⟩ := pw_s hw
        refine lv_aload_n hx hb dX4_areSound_52 rfl (lv_at hl 2 rfl) ?_
        refine k_i (k := 3) (n := 9) hA B (u_S (rest := []) X (c_X4_isSame l g (N + 1 + 1 + 1) (va_up (va_up (va_up ad N z1) (N + 1) z3) (N + 1 + 1) z5) (va_up (va_up (va_up f N (c_row g t1)) (N + 1) (c_row g t3)) (N + 1 + 1) (c_row g tj0)) (N + 1 + 1) z5 tj0 (Nat.lt_succ_self _) up_eq up_eq j0 bj0 tj0 (Nat.lt_succ_of_lt (Nat.lt_succ_of_lt (Nat.lt_succ_of_lt hj0))) ((up_lt (Nat.lt_succ_of_lt (Nat.lt_succ_of_lt hj0))).trans ((up_lt (Nat.lt_succ_of_lt hj0)).trans ((up_lt hj0).trans hbj0))) ((up_lt (Nat.lt_succ_of_lt (Nat.lt_succ_of_lt hj0))).trans ((up_lt (Nat.lt_succ_of_lt hj0)).trans ((up_lt hj0).trans hfj0))) H.size) mw_X4_isSame md_X4_isSame rfl lk_X4_87 ⟨Nat.le_of_ble_eq_true rfl, Nat.le_of_ble_eq_true rfl⟩ hA hK hT B hl.1 rfl (Nat.le_of_ble_eq_true rfl) dX4_areSound_53 ⟨Nat.le_of_ble_eq_true rfl, Nat.le_of_ble_eq_true rfl⟩) (Nat.le_of_ble_eq_true rfl) (Nat.le_of_ble_eq_true rfl) (fun r ad' f' H locs hw B => ?_)
        obtain ⟨rfl, rfl, rfl⟩ := hw
        refine lv_if_eq (tgt := 63) hx hb dX4_areSound_56 (by decide) (fun c6 => ?_) (fun c6 => ?_)
        · refine lv_iconst (v := 0) hx hb dX4_areSound_63 (by decide) ?_
          refine lv_istore (lv' := [(4, .int 0), (3, .ref z3), (2, .ref z1), (0, .ref bj0), (1, .ref bj1)]) hx hb dX4_areSound_64 hl (by decide) rfl (fun ls hl => ?_)
          refine lv_iload hx hb dX4_areSound_66 (lv_at hl 0 rfl) ?_
          refine lv_if_eq (tgt := 108) hx hb dX4_areSound_68 (by decide) (fun _ => ?_) (fun z => absurd z (by decide))
          refine lv_iconst (v := 0) hx hb dX4_areSound_108 (by decide) ?_
          have ev := (show v_X4_areSound tj0 tj1 = 0 from by unfold v_X4_areSound; rw [om_some o1, om_some o3, if_neg c4, if_pos c6])
          have B : WB g (aw N ad sz) s.heap N ad f H locs := B.drop (by omega) (fun _ hk => ((up_lt (Nat.lt_succ_of_lt (Nat.lt_succ_of_lt hk))).trans ((up_lt (Nat.lt_succ_of_lt hk)).trans (up_lt hk)))) (fun _ hk => ((up_lt (Nat.lt_succ_of_lt (Nat.lt_succ_of_lt hk))).trans ((up_lt (Nat.lt_succ_of_lt hk)).trans (up_lt hk))))
          exact rt_i X hr (ad, f) B (PO_of B) ⟨rfl, ev, rfl⟩ rfl (Nat.le_of_ble_eq_true rfl) (Nat.le_of_ble_eq_true rfl) dX4_areSound_109
        · refine lv_iconst (v := 1) hx hb dX4_areSound_59 (by decide) ?_
          refine lv_goto (tgt := 64) hx hb dX4_areSound_60 (by decide) ?_
          refine lv_istore (lv' := [(4, .int 1), (3, .ref z3), (2, .ref z1), (0, .ref bj0), (1, .ref bj1)]) hx hb dX4_areSound_64 hl (by decide) rfl (fun ls hl => ?_)
          refine lv_iload hx hb dX4_areSound_66 (lv_at hl 0 rfl) ?_
          refine lv_if_eq (tgt := 108) hx hb dX4_areSound_68 (by decide) (fun z => absurd z (by decide)) (fun _ => ?_)
          refine lv_aload_n hx hb dX4_areSound_71 rfl (lv_at hl 3 rfl) ?_
          refine k_r (k := 5) (n := 15) hA B (u_S (rest := []) X (c_X4_opposed l g (N + 1 + 1 + 1) (va_up (va_up (va_up ad N z1) (N + 1) z3) (N + 1 + 1) z5) (va_up (va_up (va_up f N (c_row g t1)) (N + 1) (c_row g t3)) (N + 1 + 1) (c_row g tj0)) j0 bj0 tj0 (Nat.lt_succ_of_lt (Nat.lt_succ_of_lt (Nat.lt_succ_of_lt hj0))) ((up_lt (Nat.lt_succ_of_lt (Nat.lt_succ_of_lt hj0))).trans ((up_lt (Nat.lt_succ_of_lt hj0)).trans ((up_lt hj0).trans hbj0))) ((up_lt (Nat.lt_succ_of_lt (Nat.lt_succ_of_lt hj0))).trans ((up_lt (Nat.lt_succ_of_lt hj0)).trans ((up_lt hj0).trans hfj0))) H.size) mw_X4_opposed md_X4_opposed rfl lk_X4_121 ⟨Nat.le_of_ble_eq_true rfl, Nat.le_of_ble_eq_true rfl⟩ hA hK hT B hl.1 rfl (Nat.le_of_ble_eq_true rfl) dX4_areSound_72 ⟨Nat.le_of_ble_eq_true rfl, Nat.le_of_ble_eq_true rfl⟩) (Nat.le_of_ble_eq_true rfl) (Nat.le_of_ble_eq_true rfl) (fun r ad' f' H locs hw B => ?_)
          generalize o7 : (v_X4_opposed tj0) = v9 at hw B
          cases v9 with
          | none =>
            obtain ⟨rfl, rfl, rfl⟩ := pw_n hw
            refine lv_ifnullN (tgt := 104) hx hb dX4_areSound_75 (by decide) ?_
            refine lv_iconst (v := 1) hx hb dX4_areSound_104 (by decide) ?_
            refine lv_goto (tgt := 109) hx hb dX4_areSound_105 (by decide) ?_
            have ev := (show v_X4_areSound tj0 tj1 = 1 from by unfold v_X4_areSound; rw [om_some o1, om_some o3, if_neg c4, if_neg c6, om_none o7])
            have B : WB g (aw N ad sz) s.heap N ad f H locs := B.drop (by omega) (fun _ hk => ((up_lt (Nat.lt_succ_of_lt (Nat.lt_succ_of_lt hk))).trans ((up_lt (Nat.lt_succ_of_lt hk)).trans (up_lt hk)))) (fun _ hk => ((up_lt (Nat.lt_succ_of_lt (Nat.lt_succ_of_lt hk))).trans ((up_lt (Nat.lt_succ_of_lt hk)).trans (up_lt hk))))
            exact rt_i X hr (ad, f) B (PO_of B) ⟨rfl, ev, rfl⟩ rfl (Nat.le_of_ble_eq_true rfl) (Nat.le_of_ble_eq_true rfl) dX4_areSound_109
          | some t7 =>
            obtain ⟨z7, rfl, rfl, rfl⟩ := pw_s hw
            refine lv_ifnull hx hb dX4_areSound_75 ?_
            refine lv_aload_n hx hb dX4_areSound_78 rfl (lv_at hl 4 rfl) ?_
            refine k_r (k := 7) (n := 21) hA B (u_S (rest := []) X (c_X4_opposed l g (N + 1 + 1 + 1 + 1) (va_up (va_up (va_up (va_up ad N z1) (N + 1) z3) (N + 1 + 1) z5) (N + 1 + 1 + 1) z7) (va_up (va_up (va_up (va_up f N (c_row g t1)) (N + 1) (c_row g t3)) (N + 1 + 1) (c_row g tj0)) (N + 1 + 1 + 1) (c_row g t7)) j1 bj1 tj1 (Nat.lt_succ_of_lt (Nat.lt_succ_of_lt (Nat.lt_succ_of_lt (Nat.lt_succ_of_lt hj1)))) ((up_lt (Nat.lt_succ_of_lt (Nat.lt_succ_of_lt (Nat.lt_succ_of_lt hj1)))).trans ((up_lt (Nat.lt_succ_of_lt (Nat.lt_succ_of_lt hj1))).trans ((up_lt (Nat.lt_succ_of_lt hj1)).trans ((up_lt hj1).trans hbj1)))) ((up_lt (Nat.lt_succ_of_lt (Nat.lt_succ_of_lt (Nat.lt_succ_of_lt hj1)))).trans ((up_lt (Nat.lt_succ_of_lt (Nat.lt_succ_of_lt hj1))).trans ((up_lt (Nat.lt_succ_of_lt hj1)).trans ((up_lt hj1).trans hfj1)))) H.size) mw_X4_opposed md_X4_opposed rfl lk_X4_121 ⟨Nat.le_of_ble_eq_true rfl, Nat.le_of_ble_eq_true rfl⟩ hA hK hT B hl.1 rfl (Nat.le_of_ble_eq_true rfl) dX4_areSound_79 ⟨Nat.le_of_ble_eq_true rfl, Nat.le_of_ble_eq_true rfl⟩) (Nat.le_of_ble_eq_true rfl) (Nat.le_of_ble_eq_true rfl) (fun r ad' f' H locs hw B => ?_)
            generalize o8 : (v_X4_opposed tj1) = v9 at hw B
            cases v9 with
            | none =>
              obtain ⟨rfl, rfl, rfl⟩ := pw_n hw
              refine lv_ifnullN (tgt := 104) hx hb dX4_areSound_82 (by decide) ?_
              refine lv_iconst (v := 1) hx hb dX4_areSound_104 (by decide) ?_
              refine lv_goto (tgt := 109) hx hb dX4_areSound_105 (by decide) ?_
              have ev := (show v_X4_areSound tj0 tj1 = 1 from by unfold v_X4_areSound; rw [om_some o1, om_some o3, if_neg c4, if_neg c6, om_some o7, om_none o8])
              have B : WB g (aw N ad sz) s.heap N ad f H locs := B.drop (by omega) (fun _ hk => ((up_lt (Nat.lt_succ_of_lt (Nat.lt_succ_of_lt (Nat.lt_succ_of_lt hk)))).trans ((up_lt (Nat.lt_succ_of_lt (Nat.lt_succ_of_lt hk))).trans ((up_lt (Nat.lt_succ_of_lt hk)).trans (up_lt hk))))) (fun _ hk => ((up_lt (Nat.lt_succ_of_lt (Nat.lt_succ_of_lt (Nat.lt_succ_of_lt hk)))).trans ((up_lt (Nat.lt_succ_of_lt (Nat.lt_succ_of_lt hk))).trans ((up_lt (Nat.lt_succ_of_lt hk)).trans (up_lt hk)))))
              exact rt_i X hr (ad, f) B (PO_of B) ⟨rfl, ev, rfl⟩ rfl (Nat.le_of_ble_eq_true rfl) (Nat.le_of_ble_eq_true rfl) dX4_areSound_109
            | some t8 =>
              obtain ⟨z8, rfl, rfl, rfl⟩ := pw_s hw
              refine lv_ifnull hx hb dX4_areSound_82 ?_
              refine lv_aload_n hx hb dX4_areSound_85 rfl (lv_at hl 3 rfl) ?_
              refine lv_aload_n hx hb dX4_areSound_86 rfl (lv_at hl 4 rfl) ?_
              refine k_i (k := 7) (n := 21) hA B (u_S (rest := []) X (c_X4_isAlike l g (N + 1 + 1 + 1 + 1 + 1) (va_up (va_up (va_up (va_up (va_up ad N z1) (N + 1) z3) (N + 1 + 1) z5) (N + 1 + 1 + 1) z7) (N + 1 + 1 + 1 + 1) z8) (va_up (va_up (va_up (va_up (va_up f N (c_row g t1)) (N + 1) (c_row g t3)) (N + 1 + 1) (c_row g tj0)) (N + 1 + 1 + 1) (c_row g t7)) (N + 1 + 1 + 1 + 1) (c_row g t8)) j0 bj0 tj0 (Nat.lt_succ_of_lt (Nat.lt_succ_of_lt (Nat.lt_succ_of_lt (Nat.lt_succ_of_lt (Nat.lt_succ_of_lt hj0))))) ((up_lt (Nat.lt_succ_of_lt (Nat.lt_succ_of_lt (Nat.lt_succ_of_lt (Nat.lt_succ_of_lt hj0))))).trans ((up_lt (Nat.lt_succ_of_lt (Nat.lt_succ_of_lt (Nat.lt_succ_of_lt hj0)))).trans ((up_lt (Nat.lt_succ_of_lt (Nat.lt_succ_of_lt hj0))).trans ((up_lt (Nat.lt_succ_of_lt hj0)).trans ((up_lt hj0).trans hbj0))))) ((up_lt (Nat.lt_succ_of_lt (Nat.lt_succ_of_lt (Nat.lt_succ_of_lt (Nat.lt_succ_of_lt hj0))))).trans ((up_lt (Nat.lt_succ_of_lt (Nat.lt_succ_of_lt (Nat.lt_succ_of_lt hj0)))).trans ((up_lt (Nat.lt_succ_of_lt (Nat.lt_succ_of_lt hj0))).trans ((up_lt (Nat.lt_succ_of_lt hj0)).trans ((up_lt hj0).trans hfj0))))) j1 bj1 tj1 (Nat.lt_succ_of_lt (Nat.lt_succ_of_lt (Nat.lt_succ_of_lt (Nat.lt_succ_of_lt (Nat.lt_succ_of_lt hj1))))) ((up_lt (Nat.lt_succ_of_lt (Nat.lt_succ_of_lt (Nat.lt_succ_of_lt (Nat.lt_succ_of_lt hj1))))).trans ((up_lt (Nat.lt_succ_of_lt (Nat.lt_succ_of_lt (Nat.lt_succ_of_lt hj1)))).trans ((up_lt (Nat.lt_succ_of_lt (Nat.lt_succ_of_lt hj1))).trans ((up_lt (Nat.lt_succ_of_lt hj1)).trans ((up_lt hj1).trans hbj1))))) ((up_lt (Nat.lt_succ_of_lt (Nat.lt_succ_of_lt (Nat.lt_succ_of_lt (Nat.lt_succ_of_lt hj1))))).trans ((up_lt (Nat.lt_succ_of_lt (Nat.lt_succ_of_lt (Nat.lt_succ_of_lt hj1)))).trans ((up_lt (Nat.lt_succ_of_lt (Nat.lt_succ_of_lt hj1))).trans ((up_lt (Nat.lt_succ_of_lt hj1)).trans ((up_lt hj1).trans hfj1))))) H.size) mw_X4_isAlike md_X4_isAlike rfl lk_X4_162 ⟨Nat.le_of_ble_eq_true rfl, Nat.le_of_ble_eq_true rfl⟩ hA hK hT B hl.1 rfl (Nat.le_of_ble_eq_true rfl) dX4_areSound_87 ⟨Nat.le_of_ble_eq_true rfl, Nat.le_of_ble_eq_true rfl⟩) (Nat.le_of_ble_eq_true rfl) (Nat.le_of_ble_eq_true rfl) (fun r ad' f' H locs hw B => ?_)
              obtain ⟨rfl, rfl, rfl⟩ := hw
              refine lv_aload_n hx hb dX4_areSound_90 rfl (lv_at hl 3 rfl) ?_
              refine k_r (k := 9) (n := 27) hA B (u_S (rest := [.int (v_X4_isAlike tj0 tj1)]) X (c_X4_opposed l g (N + 1 + 1 + 1 + 1 + 1) (va_up (va_up (va_up (va_up (va_up ad N z1) (N + 1) z3) (N + 1 + 1) z5) (N + 1 + 1 + 1) z7) (N + 1 + 1 + 1 + 1) z8) (va_up (va_up (va_up (va_up (va_up f N (c_row g t1)) (N + 1) (c_row g t3)) (N + 1 + 1) (c_row g tj0)) (N + 1 + 1 + 1) (c_row g t7)) (N + 1 + 1 + 1 + 1) (c_row g t8)) j0 bj0 tj0 (Nat.lt_succ_of_lt (Nat.lt_succ_of_lt (Nat.lt_succ_of_lt (Nat.lt_succ_of_lt (Nat.lt_succ_of_lt hj0))))) ((up_lt (Nat.lt_succ_of_lt (Nat.lt_succ_of_lt (Nat.lt_succ_of_lt (Nat.lt_succ_of_lt hj0))))).trans ((up_lt (Nat.lt_succ_of_lt (Nat.lt_succ_of_lt (Nat.lt_succ_of_lt hj0)))).trans ((up_lt (Nat.lt_succ_of_lt (Nat.lt_succ_of_lt hj0))).trans ((up_lt (Nat.lt_succ_of_lt hj0)).trans ((up_lt hj0).trans hbj0))))) ((up_lt (Nat.lt_succ_of_lt (Nat.lt_succ_of_lt (Nat.lt_succ_of_lt (Nat.lt_succ_of_lt hj0))))).trans ((up_lt (Nat.lt_succ_of_lt (Nat.lt_succ_of_lt (Nat.lt_succ_of_lt hj0)))).trans ((up_lt (Nat.lt_succ_of_lt (Nat.lt_succ_of_lt hj0))).trans ((up_lt (Nat.lt_succ_of_lt hj0)).trans ((up_lt hj0).trans hfj0))))) H.size) mw_X4_opposed md_X4_opposed rfl lk_X4_121 ⟨Nat.le_of_ble_eq_true rfl, Nat.le_of_ble_eq_true rfl⟩ hA hK hT B hl.1 rfl (Nat.le_of_ble_eq_true rfl) dX4_areSound_91 ⟨Nat.le_of_ble_eq_true rfl, Nat.le_of_ble_eq_true rfl⟩) (Nat.le_of_ble_eq_true rfl) (Nat.le_of_ble_eq_true rfl) (fun r ad' f' H locs hw B => ?_)
              rw [o7] at hw B
              obtain ⟨z9, rfl, rfl, rfl⟩ := pw_s hw
              refine lv_aload_n hx hb dX4_areSound_94 rfl (lv_at hl 4 rfl) ?_
              refine k_r (k := 11) (n := 33) hA B (u_S (rest := [.ref z9, .int (v_X4_isAlike tj0 tj1)]) X (c_X4_opposed l g (N + 1 + 1 + 1 + 1 + 1 + 1) (va_up (va_up (va_up (va_up (va_up (va_up ad N z1) (N + 1) z3) (N + 1 + 1) z5) (N + 1 + 1 + 1) z7) (N + 1 + 1 + 1 + 1) z8) (N + 1 + 1 + 1 + 1 + 1) z9) (va_up (va_up (va_up (va_up (va_up (va_up f N (c_row g t1)) (N + 1) (c_row g t3)) (N + 1 + 1) (c_row g tj0)) (N + 1 + 1 + 1) (c_row g t7)) (N + 1 + 1 + 1 + 1) (c_row g t8)) (N + 1 + 1 + 1 + 1 + 1) (c_row g t7)) j1 bj1 tj1 (Nat.lt_succ_of_lt (Nat.lt_succ_of_lt (Nat.lt_succ_of_lt (Nat.lt_succ_of_lt (Nat.lt_succ_of_lt (Nat.lt_succ_of_lt hj1)))))) ((up_lt (Nat.lt_succ_of_lt (Nat.lt_succ_of_lt (Nat.lt_succ_of_lt (Nat.lt_succ_of_lt (Nat.lt_succ_of_lt hj1)))))).trans ((up_lt (Nat.lt_succ_of_lt (Nat.lt_succ_of_lt (Nat.lt_succ_of_lt (Nat.lt_succ_of_lt hj1))))).trans ((up_lt (Nat.lt_succ_of_lt (Nat.lt_succ_of_lt (Nat.lt_succ_of_lt hj1)))).trans ((up_lt (Nat.lt_succ_of_lt (Nat.lt_succ_of_lt hj1))).trans ((up_lt (Nat.lt_succ_of_lt hj1)).trans ((up_lt hj1).trans hbj1)))))) ((up_lt (Nat.lt_succ_of_lt (Nat.lt_succ_of_lt (Nat.lt_succ_of_lt (Nat.lt_succ_of_lt (Nat.lt_succ_of_lt hj1)))))).trans ((up_lt (Nat.lt_succ_of_lt (Nat.lt_succ_of_lt (Nat.lt_succ_of_lt (Nat.lt_succ_of_lt hj1))))).trans ((up_lt (Nat.lt_succ_of_lt (Nat.lt_succ_of_lt (Nat.lt_succ_of_lt hj1)))).trans ((up_lt (Nat.lt_succ_of_lt (Nat.lt_succ_of_lt hj1))).trans ((up_lt (Nat.lt_succ_of_lt hj1)).trans ((up_lt hj1).trans hfj1)))))) H.size) mw_X4_opposed md_X4_opposed rfl lk_X4_121 ⟨Nat.le_of_ble_eq_true rfl, Nat.le_of_ble_eq_true rfl⟩ hA hK hT B hl.1 rfl (Nat.le_of_ble_eq_true rfl) dX4_areSound_95 ⟨Nat.le_of_ble_eq_true rfl, Nat.le_of_ble_eq_true rfl⟩) (Nat.le_of_ble_eq_true rfl) (Nat.le_of_ble_eq_true rfl) (fun r ad' f' H locs hw B => ?_)
              rw [o8] at hw B
              obtain ⟨z10, rfl, rfl, rfl⟩ := pw_s hw
              refine k_i (k := 11) (n := 33) hA B (u_S (rest := [.int (v_X4_isAlike tj0 tj1)]) X (c_X4_isAlike l g (N + 1 + 1 + 1 + 1 + 1 + 1 + 1) (va_up (va_up (va_up (va_up (va_up (va_up (va_up ad N z1) (N + 1) z3) (N + 1 + 1) z5) (N + 1 + 1 + 1) z7) (N + 1 + 1 + 1 + 1) z8) (N + 1 + 1 + 1 + 1 + 1) z9) (N + 1 + 1 + 1 + 1 + 1 + 1) z10) (va_up (va_up (va_up (va_up (va_up (va_up (va_up f N (c_row g t1)) (N + 1) (c_row g t3)) (N + 1 + 1) (c_row g tj0)) (N + 1 + 1 + 1) (c_row g t7)) (N + 1 + 1 + 1 + 1) (c_row g t8)) (N + 1 + 1 + 1 + 1 + 1) (c_row g t7)) (N + 1 + 1 + 1 + 1 + 1 + 1) (c_row g t8)) (N + 1 + 1 + 1 + 1 + 1) z9 t7 (Nat.lt_succ_of_lt (Nat.lt_succ_self _)) ((up_lt (Nat.lt_succ_self _)).trans up_eq) ((up_lt (Nat.lt_succ_self _)).trans up_eq) (N + 1 + 1 + 1 + 1 + 1 + 1) z10 t8 (Nat.lt_succ_self _) up_eq up_eq H.size) mw_X4_isAlike md_X4_isAlike rfl lk_X4_162 ⟨Nat.le_of_ble_eq_true rfl, Nat.le_of_ble_eq_true rfl⟩ hA hK hT B hl.1 rfl (Nat.le_of_ble_eq_true rfl) dX4_areSound_98 ⟨Nat.le_of_ble_eq_true rfl, Nat.le_of_ble_eq_true rfl⟩) (Nat.le_of_ble_eq_true rfl) (Nat.le_of_ble_eq_true rfl) (fun r ad' f' H locs hw B => ?_)
              obtain ⟨rfl, rfl, rfl⟩ := hw
              refine lv_icmp_ne (tgt := 108) hx hb dX4_areSound_101 (by decide) (fun c11 => ?_) (fun c11 => ?_)
              · refine lv_iconst (v := 0) hx hb dX4_areSound_108 (by decide) ?_
                have ev := (show v_X4_areSound tj0 tj1 = 0 from by unfold v_X4_areSound; rw [om_some o1, om_some o3, if_neg c4, if_neg c6, om_some o7, om_some o8, if_neg c11])
                have B : WB g (aw N ad sz) s.heap N ad f H locs := B.drop (by omega) (fun _ hk => ((up_lt (Nat.lt_succ_of_lt (Nat.lt_succ_of_lt (Nat.lt_succ_of_lt (Nat.lt_succ_of_lt (Nat.lt_succ_of_lt (Nat.lt_succ_of_lt hk))))))).trans ((up_lt (Nat.lt_succ_of_lt (Nat.lt_succ_of_lt (Nat.lt_succ_of_lt (Nat.lt_succ_of_lt (Nat.lt_succ_of_lt hk)))))).trans ((up_lt (Nat.lt_succ_of_lt (Nat.lt_succ_of_lt (Nat.lt_succ_of_lt (Nat.lt_succ_of_lt hk))))).trans ((up_lt (Nat.lt_succ_of_lt (Nat.lt_succ_of_lt (Nat.lt_succ_of_lt hk)))).trans ((up_lt (Nat.lt_succ_of_lt (Nat.lt_succ_of_lt hk))).trans ((up_lt (Nat.lt_succ_of_lt hk)).trans (up_lt hk)))))))) (fun _ hk => ((up_lt (Nat.lt_succ_of_lt (Nat.lt_succ_of_lt (Nat.lt_succ_of_lt (Nat.lt_succ_of_lt (Nat.lt_succ_of_lt (Nat.lt_succ_of_lt hk))))))).trans ((up_lt (Nat.lt_succ_of_lt (Nat.lt_succ_of_lt (Nat.lt_succ_of_lt (Nat.lt_succ_of_lt (Nat.lt_succ_of_lt hk)))))).trans ((up_lt (Nat.lt_succ_of_lt (Nat.lt_succ_of_lt (Nat.lt_succ_of_lt (Nat.lt_succ_of_lt hk))))).trans ((up_lt (Nat.lt_succ_of_lt (Nat.lt_succ_of_lt (Nat.lt_succ_of_lt hk)))).trans ((up_lt (Nat.lt_succ_of_lt (Nat.lt_succ_of_lt hk))).trans ((up_lt (Nat.lt_succ_of_lt hk)).trans (up_lt hk))))))))
                exact rt_i X hr (ad, f) B (PO_of B) ⟨rfl, ev, rfl⟩ rfl (Nat.le_of_ble_eq_true rfl) (Nat.le_of_ble_eq_true rfl) dX4_areSound_109
              · refine lv_iconst (v := 1) hx hb dX4_areSound_104 (by decide) ?_
                refine lv_goto (tgt := 109) hx hb dX4_areSound_105 (by decide) ?_
                have ev := (show v_X4_areSound tj0 tj1 = 1 from by unfold v_X4_areSound; rw [om_some o1, om_some o3, if_neg c4, if_neg c6, om_some o7, om_some o8, if_pos c11])
                have B : WB g (aw N ad sz) s.heap N ad f H locs := B.drop (by omega) (fun _ hk => ((up_lt (Nat.lt_succ_of_lt (Nat.lt_succ_of_lt (Nat.lt_succ_of_lt (Nat.lt_succ_of_lt (Nat.lt_succ_of_lt (Nat.lt_succ_of_lt hk))))))).trans ((up_lt (Nat.lt_succ_of_lt (Nat.lt_succ_of_lt (Nat.lt_succ_of_lt (Nat.lt_succ_of_lt (Nat.lt_succ_of_lt hk)))))).trans ((up_lt (Nat.lt_succ_of_lt (Nat.lt_succ_of_lt (Nat.lt_succ_of_lt (Nat.lt_succ_of_lt hk))))).trans ((up_lt (Nat.lt_succ_of_lt (Nat.lt_succ_of_lt (Nat.lt_succ_of_lt hk)))).trans ((up_lt (Nat.lt_succ_of_lt (Nat.lt_succ_of_lt hk))).trans ((up_lt (Nat.lt_succ_of_lt hk)).trans (up_lt hk)))))))) (fun _ hk => ((up_lt (Nat.lt_succ_of_lt (Nat.lt_succ_of_lt (Nat.lt_succ_of_lt (Nat.lt_succ_of_lt (Nat.lt_succ_of_lt (Nat.lt_succ_of_lt hk))))))).trans ((up_lt (Nat.lt_succ_of_lt (Nat.lt_succ_of_lt (Nat.lt_succ_of_lt (Nat.lt_succ_of_lt (Nat.lt_succ_of_lt hk)))))).trans ((up_lt (Nat.lt_succ_of_lt (Nat.lt_succ_of_lt (Nat.lt_succ_of_lt (Nat.lt_succ_of_lt hk))))).trans ((up_lt (Nat.lt_succ_of_lt (Nat.lt_succ_of_lt (Nat.lt_succ_of_lt hk)))).trans ((up_lt (Nat.lt_succ_of_lt (Nat.lt_succ_of_lt hk))).trans ((up_lt (Nat.lt_succ_of_lt hk)).trans (up_lt hk))))))))
                exact rt_i X hr (ad, f) B (PO_of B) ⟨rfl, ev, rfl⟩ rfl (Nat.le_of_ble_eq_true rfl) (Nat.le_of_ble_eq_true rfl) dX4_areSound_109
end
