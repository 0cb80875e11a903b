def wX4_houseNow_7 (cr : Nat → TR) (kn : Int32) (rf : Int32) (pz : Nat) (a1 : Int32) : Nat → Int32 → Int32 → Int32 → Int32
  | 0, ci, nn, zz => 0
  | n + 1, ci, nn, zz => if 4 ≤ ci then ((upd (upd (upd (upd (upd (fun _ => 0) (0 : Int32).toNatClampNeg kn) (1 : Int32).toNatClampNeg rf) (2 : Int32).toNatClampNeg (Int32.ofNat (pz - 1))) (3 : Int32).toNatClampNeg zz) (4 : Int32).toNatClampNeg nn) a1.toNatClampNeg) else (wX4_houseNow_7 cr kn rf pz a1 n (ci + 1) (nn + (v_X4_one (v_X4_isNegativeNow cr ci))) (zz + (v_X4_one (v_X4_isZeroNow cr ci))))
def v_X4_houseNow (cr : Nat → TR) (kn : Int32) (rf : Int32) (pz : Nat) (a1 : Int32) : Int32 := wX4_houseNow_7 cr kn rf pz a1 (4 + 1) 0 0 0
set_option maxHeartbeats 4000000 in
set_option maxRecDepth 100000 in
theorem c_X4_houseNow (l : Launch) (g : GG) (N : Nat) (ad : Nat → Nat) (y : Nat → va_E) (cr dr : Nat → TR) (th kn rf : Int32) (pl : Nat → TR) (pz : Nat) (mc : Int32) (hN : 36 + pz ≤ N) (b0 : Nat) (hb0 : ad 24 = b0) (a1 : Int32) (hw5 : ¬ v_X4_isIn a1.toInt64 0 4 = 0) : KI l yX4_houseNow cX4_houseNow 5 (some .int) (rm 2 6 20) g [.ref b0, .int a1] N ad (mg g ad y cr dr th kn rf pl pz mc) N (fun r ad' f' => ad = ad' ∧ (v_X4_houseNow cr kn rf pz a1) = r ∧ mg g ad y cr dr th kn rf pl pz mc = f') := by
  intro sz
  refine mt_start (by decide) (Nat.le_of_ble_eq_true rfl) ?_
  intro p e s m args below meth c hsz X hr hnam hA hK hT H locs B ls hl
  obtain ⟨hx, hb, hml, hown, hts, hlocks⟩ := id X
  have hl : lv_has ls 5 [(0, .ref b0), (1, .int a1)] := hl
  refine lv_iconst (v := 0) hx hb dX4_houseNow_0 (by decide) ?_
  refine lv_istore_n (lv' := [(2, .int 0), (0, .ref b0), (1, .int a1)]) hx hb dX4_houseNow_1 rfl hl (by decide) rfl (fun ls hl => ?_)
  refine lv_iconst (v := 0) hx hb dX4_houseNow_2 (by decide) ?_
  refine lv_istore_n (lv' := [(3, .int 0), (2, .int 0), (0, .ref b0), (1, .int a1)]) hx hb dX4_houseNow_3 rfl hl (by decide) rfl (fun ls hl => ?_)
  refine lv_iconst (v := 0) hx hb dX4_houseNow_4 (by decide) ?_
  refine lv_istore (lv' := [(4, .int 0), (3, .int 0), (2, .int 0), (0, .ref b0), (1, .int a1)]) hx hb dX4_houseNow_5 hl (by decide) rfl (fun ls hl => ?_)
  have loop1 : ∀ (n1 : Nat) (ci : Int32) (nn : Int32) (zz : Int32) (C1 : Nat) (S1 : Nat) (H : Heap) (locs : List Loc), C1 + n1 * 1 ≤ 5 → S1 + n1 * 3 ≤ 15 → ((4 : Int32).toInt - ci.toInt).toNat < n1 → v_X4_houseNow cr kn rf pz a1 = wX4_houseNow_7 cr kn rf pz a1 n1 ci nn zz → ¬ ci < 0 → WB g (aw N ad sz) s.heap N ad (mg g ad y cr dr th kn rf pl pz mc) H locs → ∀ ls : Array Slot, lv_has ls 5 [(4, .int ci), (3, .int nn), (2, .int zz), (0, .ref b0), (1, .int a1)] → W p l e (rm 2 6 20) s m args below meth c H locs C1 S1 (MQ below (va_Qi (fun r (u : WS) => (fun r ad' f' => ad = ad' ∧ (v_X4_houseNow cr kn rf pz a1) = r ∧ mg g ad y cr dr th kn rf pl pz mc = f') r u.1 u.2) (fun u t => PO g N u.1 u.2 (aw N ad sz) t) (aw N ad sz)) args s (rm 2 6 20).cells (rm 2 6 20).slots (aw N ad sz)) (F0 m 7 ls []) := by
    intro n1
    induction n1 with
    | zero => intro ci nn zz C1 S1 H locs _ _ hn; exact absurd hn (Nat.not_lt_zero _)
    | succ n1 ih1 =>
      intro ci nn zz C1 S1 H locs hC1 hS1 hn1 he1 hk0 B ls hl
      refine lv_iload hx hb dX4_houseNow_7 (lv_at hl 0 rfl) ?_
      refine lv_iconst (v := 4) hx hb dX4_houseNow_9 (by decide) ?_
      refine lv_icmp_ge (tgt := 43) hx hb dX4_houseNow_10 (by decide) (fun c2 => ?_) (fun c2 => ?_)
      · refine W.widen (show (C1 + 0) ≤ 5 by omega) (show (S1 + 0) ≤ 15 by omega) ?_
        refine lv_iconst (v := 5) hx hb dX4_houseNow_43 (by decide) ?_
        refine h_newi (k := 5) (cz := 6) (sz := 20) X hA hK B (by decide) (by decide) (by decide) (Nat.le_of_ble_eq_true rfl) (Nat.le_of_ble_eq_true rfl) (Nat.le_of_ble_eq_true rfl) (Nat.le_of_ble_eq_true rfl) dX4_houseNow_44 (fun z3 H B => ?_)
        have B : WB g (aw N ad sz) s.heap (N + 1) (va_up ad N z3) (mg g (va_up ad N z3) (va_up y N (.inl (g.2.1 0, 5, .inl (fun _ => 0)))) cr dr th kn rf pl pz mc) H locs := WM_push (by omega) B
        refine lv_dup hx hb dX4_houseNow_46 rfl ?_
        refine lv_iconst (v := 0) hx hb dX4_houseNow_47 (by decide) ?_
        refine lv_aload_n hx hb dX4_houseNow_48 rfl (lv_at hl 3 rfl) ?_
        refine b_get (q := 24) (k := 4) ((up_lt (by omega)).trans hb0) X hK B rfl in_X4 (by omega) mg_24 (by decide) lk_X4_246 rfl rfl dX4_houseNow_49 ?_
        refine b_iast (q := N) up_eq X hK B (Nat.lt_succ_self _) ((mg_hi (by omega)).trans up_eq) (by unfold vp_in; decide) dX4_houseNow_52 (fun H locs B => ?_)
        rw [mg_yup (by omega), bx_uu] at B
        have B : WB g (aw N ad sz) s.heap (N + 1) (va_up ad N z3) (mg g (va_up ad N z3) (va_up y N (.inl (g.2.1 0, 5, .inl (upd (fun _ => 0) (0 : Int32).toNatClampNeg kn)))) cr dr th kn rf pl pz mc) H locs := B
        refine lv_dup hx hb dX4_houseNow_53 rfl ?_
        refine lv_iconst (v := 1) hx hb dX4_houseNow_54 (by decide) ?_
        refine lv_aload_n hx hb dX4_houseNow_55 rfl (lv_at hl 3 rfl) ?_
        refine b_get (q := 24) (k := 5) ((up_lt (by omega)).trans hb0) X hK B rfl in_X4 (by omega) mg_24 (by decide) lk_X4_30 rfl rfl dX4_houseNow_56 ?_
        refine b_iast (q := N) up_eq X hK B (Nat.lt_succ_self _) ((mg_hi (by omega)).trans up_eq) (by unfold vp_in; decide) dX4_houseNow_59 (fun H locs B => ?_)
        rw [mg_yup (by omega), bx_uu] at B
        have B : WB g (aw N ad sz) s.heap (N + 1) (va_up ad N z3) (mg g (va_up ad N z3) (va_up y N (.inl (g.2.1 0, 5, .inl (upd (upd (fun _ => 0) (0 : Int32).toNatClampNeg kn) (1 : Int32).toNatClampNeg rf)))) cr dr th kn rf pl pz mc) H locs := B
        refine lv_dup hx hb dX4_houseNow_60 rfl ?_
        refine lv_iconst (v := 2) hx hb dX4_houseNow_61 (by decide) ?_
        refine lv_aload_n hx hb dX4_houseNow_62 rfl (lv_at hl 3 rfl) ?_
        refine b_get (q := 24) (k := 2) ((up_lt (by omega)).trans hb0) X hK B rfl in_X4 (by omega) mg_24 (by decide) lk_X4_17 rfl rfl dX4_houseNow_63 ?_
        refine k_i (k := 6) (n := 20) hA B (b_V (q := 27) (rest := [.int 2, .ref z3, .ref z3]) rfl X (c_L_size l g (N + 1) (va_up ad N z3) (mg g (va_up ad N z3) (va_up y N (.inl (g.2.1 0, 5, .inl (upd (upd (fun _ => 0) (0 : Int32).toNatClampNeg kn) (1 : Int32).toNatClampNeg rf)))) cr dr th kn rf pl pz mc) 27 ((va_up ad N z3) 27) (by omega) rfl mc (Int32.ofNat (pz - 1)) _ mg_27 H.size) mw_Jx4a65c_size_8abf5 md_Jx4a65c_size_8abf5 rfl lk_X4_128 ⟨Nat.le_of_ble_eq_true rfl, Nat.le_of_ble_eq_true rfl⟩ hA hK hT B (by omega) mg_27 rfl rfl hl.1 rfl (Nat.le_of_ble_eq_true rfl) dX4_houseNow_66 ⟨Nat.le_of_ble_eq_true rfl, Nat.le_of_ble_eq_true rfl⟩) (Nat.le_of_ble_eq_true rfl) (Nat.le_of_ble_eq_true rfl) (fun r ad' f' H locs hw B => ?_)
        obtain ⟨rfl, rfl, rfl⟩ := hw
        refine b_iast (q := N) up_eq X hK B (Nat.lt_succ_self _) ((mg_hi (by omega)).trans up_eq) (by unfold vp_in; decide) dX4_houseNow_69 (fun H locs B => ?_)
        rw [mg_yup (by omega), bx_uu] at B
        have B : WB g (aw N ad sz) s.heap (N + 1) (va_up ad N z3) (mg g (va_up ad N z3) (va_up y N (.inl (g.2.1 0, 5, .inl (upd (upd (upd (fun _ => 0) (0 : Int32).toNatClampNeg kn) (1 : Int32).toNatClampNeg rf) (2 : Int32).toNatClampNeg (Int32.ofNat (pz - 1)))))) cr dr th kn rf pl pz mc) H locs := B
        refine lv_dup hx hb dX4_houseNow_70 rfl ?_
        refine lv_iconst (v := 3) hx hb dX4_houseNow_71 (by decide) ?_
        refine lv_iload_n hx hb dX4_houseNow_72 rfl (lv_at hl 2 rfl) ?_
        refine b_iast (q := N) up_eq X hK B (Nat.lt_succ_self _) ((mg_hi (by omega)).trans up_eq) (by unfold vp_in; decide) dX4_houseNow_73 (fun H locs B => ?_)
        rw [mg_yup (by omega), bx_uu] at B
        have B : WB g (aw N ad sz) s.heap (N + 1) (va_up ad N z3) (mg g (va_up ad N z3) (va_up y N (.inl (g.2.1 0, 5, .inl (upd (upd (upd (upd (fun _ => 0) (0 : Int32).toNatClampNeg kn) (1 : Int32).toNatClampNeg rf) (2 : Int32).toNatClampNeg (Int32.ofNat (pz - 1))) (3 : Int32).toNatClampNeg zz)))) cr dr th kn rf pl pz mc) H locs := B
        refine lv_dup hx hb dX4_houseNow_74 rfl ?_
        refine lv_iconst (v := 4) hx hb dX4_houseNow_75 (by decide) ?_
        refine lv_iload_n hx hb dX4_houseNow_76 rfl (lv_at hl 1 rfl) ?_
        refine b_iast (q := N) up_eq X hK B (Nat.lt_succ_self _) ((mg_hi (by omega)).trans up_eq) (by unfold vp_in; decide) dX4_houseNow_77 (fun H locs B => ?_)
        rw [mg_yup (by omega), bx_uu] at B
        have B : WB g (aw N ad sz) s.heap (N + 1) (va_up ad N z3) (mg g (va_up ad N z3) (va_up y N (.inl (g.2.1 0, 5, .inl (upd (upd (upd (upd (upd (fun _ => 0) (0 : Int32).toNatClampNeg kn) (1 : Int32).toNatClampNeg rf) (2 : Int32).toNatClampNeg (Int32.ofNat (pz - 1))) (3 : Int32).toNatClampNeg zz) (4 : Int32).toNatClampNeg nn)))) cr dr th kn rf pl pz mc) H locs := B
        refine lv_astore (lv' := [(4, .ref z3), (3, .int nn), (2, .int zz), (0, .ref b0), (1, .int a1)]) hx hb dX4_houseNow_78 hl (by decide) rfl (fun ls hl => ?_)
        refine lv_aload hx hb dX4_houseNow_80 (lv_at hl 0 rfl) ?_
        refine lv_iload_n hx hb dX4_houseNow_82 rfl (lv_at hl 4 rfl) ?_
        refine b_iald (q := N) up_eq X hK B (Nat.lt_succ_self _) ((mg_hi (by omega)).trans up_eq) (isin_ix (n := 5) hw5 rfl).1 dX4_houseNow_83 ?_
        have B : WB g (aw N ad sz) s.heap N ad (mg g ad y cr dr th kn rf pl pz mc) H locs := WM_drop B (by omega) (by omega) (fun _ hk => (up_lt hk)) (fun _ hk => (up_lt hk))
        have ev := (show v_X4_houseNow cr kn rf pz a1 = (upd (upd (upd (upd (upd (fun _ => 0) (0 : Int32).toNatClampNeg kn) (1 : Int32).toNatClampNeg rf) (2 : Int32).toNatClampNeg (Int32.ofNat (pz - 1))) (3 : Int32).toNatClampNeg zz) (4 : Int32).toNatClampNeg nn) a1.toNatClampNeg from he1.trans (by rw [wX4_houseNow_7, if_pos c2]))
        exact rt_i X hr (ad, mg g ad y cr dr th kn rf pl pz mc) B (PO_of B) ⟨rfl, by rw [ev], rfl⟩ rfl (Nat.le_of_ble_eq_true rfl) (Nat.le_of_ble_eq_true rfl) dX4_houseNow_84
      · refine lv_iload_n hx hb dX4_houseNow_13 rfl (lv_at hl 2 rfl) ?_
        refine lv_aload_n hx hb dX4_houseNow_14 rfl (lv_at hl 3 rfl) ?_
        refine lv_iload hx hb dX4_houseNow_15 (lv_at hl 0 rfl) ?_
        refine k_i (k := (C1 + 1)) (n := (S1 + 3)) hA B (b_V (q := 24) (rest := [.int zz]) hb0 X (c_X4_isZeroNow l g N ad y cr dr th kn rf pl pz mc (by omega) b0 hb0 ci (no_of hk0 c2) H.size) mw_X4_isZeroNow md_X4_isZeroNow rfl lk_X4_156 ⟨Nat.le_of_ble_eq_true rfl, Nat.le_of_ble_eq_true rfl⟩ hA hK hT B (by omega) mg_24 rfl rfl hl.1 rfl (Nat.le_of_ble_eq_true rfl) dX4_houseNow_17 (by dsimp only [rm]; omega)) (by dsimp only [rm]; omega) (by dsimp only [rm]; omega) (fun r4 ad4 f' H locs hw B => ?_)
        obtain ⟨rfl, rfl, rfl⟩ := hw
        refine k_i (k := (C1 + 1)) (n := (S1 + 3)) hA B (u_S (rest := [.int zz]) X (c_X4_one l g N ad (mg g ad y cr dr th kn rf pl pz mc) (v_X4_isZeroNow cr ci) H.size) mw_X4_one md_X4_one rfl lk_X4_91 ⟨Nat.le_of_ble_eq_true rfl, Nat.le_of_ble_eq_true rfl⟩ hA hK hT B hl.1 rfl (Nat.le_of_ble_eq_true rfl) dX4_houseNow_20 (by dsimp only [rm]; omega)) (by dsimp only [rm]; omega) (by dsimp only [rm]; omega) (fun r5 ad5 f' H locs hw B => ?_)
        obtain ⟨rfl, rfl, rfl⟩ := hw
        refine lv_iadd hx hb dX4_houseNow_23 ?_
        refine lv_istore_n (lv' := [(2, .int (zz + (v_X4_one (v_X4_isZeroNow cr ci)))), (4, .int ci), (3, .int nn), (0, .ref b0), (1, .int a1)]) hx hb dX4_houseNow_24 rfl hl (by decide) rfl (fun ls hl => ?_)
        refine lv_iload_n hx hb dX4_houseNow_25 rfl (lv_at hl 2 rfl) ?_
        refine lv_aload_n hx hb dX4_houseNow_26 rfl (lv_at hl 3 rfl) ?_
        refine lv_iload hx hb dX4_houseNow_27 (lv_at hl 1 rfl) ?_
        refine k_i (k := (C1 + 1)) (n := (S1 + 3)) hA B (b_V (q := 24) (rest := [.int nn]) hb0 X (c_X4_isNegativeNow l g N ad y cr dr th kn rf pl pz mc (by omega) b0 hb0 ci (no_of hk0 c2) H.size) mw_X4_isNegativeNow md_X4_isNegativeNow rfl lk_X4_159 ⟨Nat.le_of_ble_eq_true rfl, Nat.le_of_ble_eq_true rfl⟩ hA hK hT B (by omega) mg_24 rfl rfl hl.1 rfl (Nat.le_of_ble_eq_true rfl) dX4_houseNow_29 (by dsimp only [rm]; omega)) (by dsimp only [rm]; omega) (by dsimp only [rm]; omega) (fun r6 ad6 f' H locs hw B => ?_)
        obtain ⟨rfl, rfl, rfl⟩ := hw
        refine k_i (k := (C1 + 1)) (n := (S1 + 3)) hA B (u_S (rest := [.int nn]) X (c_X4_one l g N ad (mg g ad y cr dr th kn rf pl pz mc) (v_X4_isNegativeNow cr ci) H.size) mw_X4_one md_X4_one rfl lk_X4_91 ⟨Nat.le_of_ble_eq_true rfl, Nat.le_of_ble_eq_true rfl⟩ hA hK hT B hl.1 rfl (Nat.le_of_ble_eq_true rfl) dX4_houseNow_32 (by dsimp only [rm]; omega)) (by dsimp only [rm]; omega) (by dsimp only [rm]; omega) (fun r7 ad7 f' H locs hw B => ?_)
        obtain ⟨rfl, rfl, rfl⟩ := hw
        refine lv_iadd hx hb dX4_houseNow_35 ?_
        refine lv_istore_n (lv' := [(3, .int (nn + (v_X4_one (v_X4_isNegativeNow cr ci)))), (2, .int (zz + (v_X4_one (v_X4_isZeroNow cr ci)))), (4, .int ci), (0, .ref b0), (1, .int a1)]) hx hb dX4_houseNow_36 rfl hl (by decide) rfl (fun ls hl => ?_)
        refine lv_iinc (v := ci + 1) (lv' := [(4, .int (ci + 1)), (3, .int (nn + (v_X4_one (v_X4_isNegativeNow cr ci)))), (2, .int (zz + (v_X4_one (v_X4_isZeroNow cr ci)))), (0, .ref b0), (1, .int a1)]) hx hb dX4_houseNow_37 hl (k := 2) rfl rfl (by decide) rfl (fun ls hl => ?_)
        refine lv_goto (tgt := 7) hx hb dX4_houseNow_40 (by decide) ?_
        exact ih1 (ci + 1) (nn + (v_X4_one (v_X4_isNegativeNow cr ci))) (zz + (v_X4_one (v_X4_isZeroNow cr ci))) (C1 + 1) (S1 + 3) H locs (by omega) (by omega) (fu_le c2 hn1) (show v_X4_houseNow cr kn rf pz a1 = wX4_houseNow_7 cr kn rf pz a1 n1 (ci + 1) (nn + (v_X4_one (v_X4_isNegativeNow cr ci))) (zz + (v_X4_one (v_X4_isZeroNow cr ci))) from he1.trans (by rw [wX4_houseNow_7, if_neg c2])) (inc_nn hk0 c2) B ls (lv_sub hl [0, 1, 2, 3, 4] rfl)
  have hT1 : 4 + 1 ≤ 5 := (by decide)
  exact loop1 (4 + 1) 0 0 0 0 0 H locs (by omega) (by omega) (by decide) (show v_X4_houseNow cr kn rf pz a1 = wX4_houseNow_7 cr kn rf pz a1 (4 + 1) 0 0 0 from rfl) (by decide) B ls hl
def v_X4_house (cr : Nat → TR) (kn : Int32) (rf : Int32) (pz : Nat) (a1 : Int32) : Int32 × Int32 := if (v_X4_isIn a1.toInt64 0 4) = 0 then (0, 1) else ((v_X4_houseNow cr kn rf pz a1), 0)
set_option maxHeartbeats 4000000 in
set_option maxRecDepth 100000 in
theorem c_X4_house (l : Launch) (g : GG) (N : Nat) (ad : Nat → Nat) (y : Nat → va_E) (cr dr : Nat → TR) (th kn rf : Int32) (pl : Nat → TR) (pz : Nat) (mc : Int32) (hN : 36 + pz ≤ N) (b0 : Nat) (hb0 : ad 24 = b0) (a1 : Int32) : KI l yX4_house cX4_house 2 (some .int) (rm 3 6 20) g [.ref b0, .int a1] N ad (mg g ad y cr dr th kn rf pl pz mc) N (fun r ad' f' => ad = ad' ∧ (v_X4_house cr kn rf pz a1).1 = r ∧ mg g ad y cr dr (v_X4_house cr kn rf pz a1).2 kn rf pl pz mc = f') := by
  intro sz
  refine mt_start (by decide) (Nat.le_of_ble_eq_true rfl) ?_
  intro p e s m args below meth c hsz X hr hnam hA hK hT H locs B ls hl
  obtain ⟨hx, hb, hml, hown, hts, hlocks⟩ := id X
  have hl : lv_has ls 2 [(0, .ref b0), (1, .int a1)] := hl
  refine lv_aload_n hx hb dX4_house_0 rfl (lv_at hl 0 rfl) ?_
  refine lv_iconst (v := 0) hx hb dX4_house_1 (by decide) ?_
  refine lv_iconst (v := 0) hx hb dX4_house_2 (by decide) ?_
  refine k_i (k := 0) (n := 0) hA B (b_V (q := 24) (rest := []) hb0 X (c_X4_stops l g N ad y cr dr th kn rf pl pz mc (by omega) b0 hb0 0 0 H.size) mw_X4_stops md_X4_stops rfl lk_X4_99 ⟨Nat.le_of_ble_eq_true rfl, Nat.le_of_ble_eq_true rfl⟩ hA hK hT B (by omega) mg_24 rfl rfl hl.1 rfl (Nat.le_of_ble_eq_true rfl) dX4_house_3 ⟨Nat.le_of_ble_eq_true rfl, Nat.le_of_ble_eq_true rfl⟩) (Nat.le_of_ble_eq_true rfl) (Nat.le_of_ble_eq_true rfl) (fun r ad' f' H locs hw B => ?_)
  rw [st_00] at hw
  dsimp only at hw
  obtain ⟨rfl, rfl, rfl⟩ := hw
  have B : WB g (aw N ad sz) s.heap N ad (mg g ad y cr dr 0 kn rf pl pz mc) H locs := B
  refine lv_if_ne (tgt := 34) hx hb dX4_house_6 (by decide) (fun z => absurd z (by decide)) (fun _ => ?_)
  refine lv_aload_n hx hb dX4_house_9 rfl (lv_at hl 0 rfl) ?_
  refine lv_iload_n hx hb dX4_house_10 rfl (lv_at hl 1 rfl) ?_
  refine lv_i2l (v := a1.toInt64) hx hb dX4_house_11 rfl ?_
  refine lv_lconst (v := 0) hx hb dX4_house_12 (by decide) ?_
  refine lv_ldc2 hx hb hown (hts _ (List.mem_cons_of_mem _ lk_X4_249)) dX4_house_13 ?_
  refine k_i (k := 0) (n := 0) hA B (u_S (rest := [.ref b0]) X (c_X4_isIn l g N ad (mg g ad y cr dr 0 kn rf pl pz mc) a1.toInt64 0 4 H.size) mw_X4_isIn md_X4_isIn rfl lk_X4_37 ⟨Nat.le_of_ble_eq_true rfl, Nat.le_of_ble_eq_true rfl⟩ hA hK hT B hl.1 rfl (Nat.le_of_ble_eq_true rfl) dX4_house_16 ⟨Nat.le_of_ble_eq_true rfl, Nat.le_of_ble_eq_true rfl⟩) (Nat.le_of_ble_eq_true rfl) (Nat.le_of_ble_eq_true rfl) (fun r1 ad1 f' H locs hw B => ?_)
  obtain ⟨rfl, rfl, rfl⟩ := hw
  refine lv_if_ne (tgt := 26) hx hb dX4_house_19 (by decide) (fun c2 => ?_) (fun c2 => ?_)
  · refine lv_iconst (v := 0) hx hb dX4_house_26 (by decide) ?_
    refine lv_iconst (v := 0) hx hb dX4_house_27 (by decide) ?_
    refine k_i (k := 0) (n := 0) hA B (b_V (q := 24) (rest := []) hb0 X (c_X4_stops l g N ad y cr dr 0 kn rf pl pz mc (by omega) b0 hb0 0 0 H.size) mw_X4_stops md_X4_stops rfl lk_X4_99 ⟨Nat.le_of_ble_eq_true rfl, Nat.le_of_ble_eq_true rfl⟩ hA hK hT B (by omega) mg_24 rfl rfl hl.1 rfl (Nat.le_of_ble_eq_true rfl) dX4_house_28 ⟨Nat.le_of_ble_eq_true rfl, Nat.le_of_ble_eq_true rfl⟩) (Nat.le_of_ble_eq_true rfl) (Nat.le_of_ble_eq_true rfl) (fun r ad' f' H locs hw B => ?_)
    rw [st_00] at hw
    dsimp only at hw
    obtain ⟨rfl, rfl, rfl⟩ := hw
    have B : WB g (aw N ad sz) s.heap N ad (mg g ad y cr dr 0 kn rf pl pz mc) H locs := B
    refine lv_if_eq (tgt := 38) hx hb dX4_house_31 (by decide) (fun _ => ?_) (fun z => absurd z (by decide))
    refine lv_aload_n hx hb dX4_house_38 rfl (lv_at hl 0 rfl) ?_
    refine lv_iload_n hx hb dX4_house_39 rfl (lv_at hl 1 rfl) ?_
    refine k_i (k := 6) (n := 20) hA B (b_V (q := 24) (rest := []) hb0 X (c_X4_houseNow l g N ad y cr dr 0 kn rf pl pz mc (by omega) b0 hb0 a1 c2 H.size) mw_X4_houseNow md_X4_houseNow rfl lk_X4_251 ⟨Nat.le_of_ble_eq_true rfl, Nat.le_of_ble_eq_true rfl⟩ hA hK hT B (by omega) mg_24 rfl rfl hl.1 rfl (Nat.le_of_ble_eq_true rfl) dX4_house_40 ⟨Nat.le_of_ble_eq_true rfl, Nat.le_of_ble_eq_true rfl⟩) (Nat.le_of_ble_eq_true rfl) (Nat.le_of_ble_eq_true rfl) (fun r3 ad3 f' H locs hw B => ?_)
    obtain ⟨rfl, rfl, rfl⟩ := hw
    have ev := (show v_X4_house cr kn rf pz a1 = ((v_X4_houseNow cr kn rf pz a1), 0) from by unfold v_X4_house; rw [if_neg c2])
    exact rt_i X hr (ad, mg g ad y cr dr 0 kn rf pl pz mc) B (PO_of B) ⟨rfl, by rw [ev], by rw [ev]⟩ rfl (Nat.le_of_ble_eq_true rfl) (Nat.le_of_ble_eq_true rfl) dX4_house_43
  · refine lv_iconst (v := 1) hx hb dX4_house_22 (by decide) ?_
    refine lv_goto (tgt := 27) hx hb dX4_house_23 (by decide) ?_
    refine lv_iconst (v := 0) hx hb dX4_house_27 (by decide) ?_
    refine k_i (k := 0) (n := 0) hA B (b_V (q := 24) (rest := []) hb0 X (c_X4_stops l g N ad y cr dr 0 kn rf pl pz mc (by omega) b0 hb0 1 0 H.size) mw_X4_stops md_X4_stops rfl lk_X4_99 ⟨Nat.le_of_ble_eq_true rfl, Nat.le_of_ble_eq_true rfl⟩ hA hK hT B (by omega) mg_24 rfl rfl hl.1 rfl (Nat.le_of_ble_eq_true rfl) dX4_house_28 ⟨Nat.le_of_ble_eq_true rfl, Nat.le_of_ble_eq_true rfl⟩) (Nat.le_of_ble_eq_true rfl) (Nat.le_of_ble_eq_true rfl) (fun r ad' f' H locs hw B => ?_)
    rw [st_10] at hw
    dsimp only at hw
    obtain ⟨rfl, rfl, rfl⟩ := hw
    have B : WB g (aw N ad sz) s.heap N ad (mg g ad y cr dr 1 kn rf pl pz mc) H locs := B
    refine lv_if_eq (tgt := 38) hx hb dX4_house_31 (by decide) (fun z => absurd z (by decide)) (fun _ => ?_)
    refine lv_iconst (v := 0) hx hb dX4_house_34 (by decide) ?_
    refine lv_goto (tgt := 43) hx hb dX4_house_35 (by decide) ?_
    have ev := (show v_X4_house cr kn rf pz a1 = (0, 1) from by unfold v_X4_house; rw [if_pos c2])
    exact rt_i X hr (ad, mg g ad y cr dr 1 kn rf pl pz mc) B (PO_of B) ⟨rfl, by rw [ev], by rw [ev]⟩ rfl (Nat.le_of_ble_eq_true rfl) (Nat.le_of_ble_eq_true rfl) dX4_house_43
def wX4_walk_48 (cr : Nat → TR) (a1 : Int32) (a2 : Int32) (a3 : Int32) : Nat → Int32 → (Nat → TR) → Int32 × (Nat → TR) × Int32
  | 0, wk, dr9 => (0, dr9, 0)
  | n + 1, wk, dr9 => if a3 ≤ wk then (wk, dr9, 0) else (om (v_X4_onBy (dr9 a1.toNatClampNeg) (cr a2.toNatClampNeg) 1) (wk, dr9, 0) (fun t14 => wX4_walk_48 cr a1 a2 a3 n (wk + 1) (v_X4_become dr9 a1 t14).2))
def v_X4_walk (cr : Nat → TR) (dr : Nat → TR) (a1 : Int32) (a2 : Int32) (a3 : Int32) : Int32 × (Nat → TR) × Int32 := if (v_X4_isNone a1) = 0 then (if (v_X4_isNone a2) = 0 then (if (v_X4_isIn a3.toInt64 1 12) = 0 then (0, dr, 2) else (wX4_walk_48 cr a1 a2 a3 ((a3.toInt - (0 : Int32).toInt).toNat + 1) 0 dr)) else (if (v_X4_isIn a3.toInt64 1 12) = 0 then (0, dr, 1) else (0, dr, 1))) else (if (v_X4_isIn a3.toInt64 1 12) = 0 then (0, dr, 1) else (0, dr, 1))
set_option maxHeartbeats 4000000 in
set_option maxRecDepth 100000 in
theorem c_X4_walk (l : Launch) (g : GG) (N : Nat) (ad : Nat → Nat) (y : Nat → va_E) (cr dr : Nat → TR) (th kn rf : Int32) (pl : Nat → TR) (pz : Nat) (mc : Int32) (hN : 36 + pz ≤ N) (b0 : Nat) (hb0 : ad 24 = b0) (a1 : Int32) (a2 : Int32) (a3 : Int32) (hdr : ∀ i, i < 4 → okd (dr i)) : KI l yX4_walk cX4_walk 5 (some .int) (rm 4 65 195) g [.ref b0, .int a1, .int a2, .int a3] N ad (mg g ad y cr dr th kn rf pl pz mc) N (fun r ad' f' => (∀ k, k < N → k < 28 ∨ 36 ≤ k → ad' k = ad k) ∧ (v_X4_walk cr dr a1 a2 a3).1 = r ∧ mg g ad' y cr (v_X4_walk cr dr a1 a2 a3).2.1 (v_X4_walk cr dr a1 a2 a3).2.2 kn rf pl pz mc = f') := by
  intro sz
  refine mt_start (by decide) (Nat.le_of_ble_eq_true rfl) ?_
  intro p e s m args below meth c hsz X hr hnam hA hK hT H locs B ls hl
  obtain ⟨hx, hb, hml, hown, hts, hlocks⟩ := id X
  have hl : lv_has ls 5 [(0, .ref b0), (1, .int a1), (2, .int a2), (3, .int a3)] := hl
  refine lv_aload_n hx hb dX4_walk_0 rfl (lv_at hl 0 rfl) ?_
  refine lv_iload_n hx hb dX4_walk_1 rfl (lv_at hl 1 rfl) ?_
  refine k_i (k := 0) (n := 0) hA B (u_S (rest := [.ref b0]) X (c_X4_isNone l g N ad (mg g ad y cr dr th kn rf pl pz mc) a1 H.size) mw_X4_isNone md_X4_isNone rfl lk_X4_95 ⟨Nat.le_of_ble_eq_true rfl, Nat.le_of_ble_eq_true rfl⟩ hA hK hT B hl.1 rfl (Nat.le_of_ble_eq_true rfl) dX4_walk_2 ⟨Nat.le_of_ble_eq_true rfl, Nat.le_of_ble_eq_true rfl⟩) (Nat.le_of_ble_eq_true rfl) (Nat.le_of_ble_eq_true rfl) (fun r1 ad1 f' H locs hw B => ?_)
  obtain ⟨rfl, rfl, rfl⟩ := hw
  refine lv_if_ne (tgt := 15) hx hb dX4_walk_5 (by decide) (fun c2 => ?_) (fun c2 => ?_)
  · refine lv_iconst (v := 1) hx hb dX4_walk_15 (by decide) ?_
    refine lv_goto (tgt := 20) hx hb dX4_walk_16 (by decide) ?_
    refine lv_iload_n hx hb dX4_walk_20 rfl (lv_at hl 3 rfl) ?_
    refine lv_i2l (v := a3.toInt64) hx hb dX4_walk_21 rfl ?_
    refine lv_lconst (v := 1) hx hb dX4_walk_22 (by decide) ?_
    refine lv_ldc2 hx hb hown (hts _ (List.mem_cons_of_mem _ lk_X4_41)) dX4_walk_23 ?_
    refine k_i (k := 0) (n := 0) hA B (u_S (rest := [.int 1, .ref b0]) X (c_X4_isIn l g N ad (mg g ad y cr dr th kn rf pl pz mc) a3.toInt64 1 12 H.size) mw_X4_isIn md_X4_isIn rfl lk_X4_37 ⟨Nat.le_of_ble_eq_true rfl, Nat.le_of_ble_eq_true rfl⟩ hA hK hT B hl.1 rfl (Nat.le_of_ble_eq_true rfl) dX4_walk_26 ⟨Nat.le_of_ble_eq_true rfl, Nat.le_of_ble_eq_true rfl⟩) (Nat.le_of_ble_eq_true rfl) (Nat.le_of_ble_eq_true rfl) (fun r3 ad3 f' H locs hw B => ?_)
    obtain ⟨rfl, rfl, rfl⟩ := hw
    refine lv_if_ne (tgt := 36) hx hb dX4_walk_29 (by decide) (fun c4 => ?_) (fun c4 => ?_)
    · refine lv_iconst (v := 0) hx hb dX4_walk_36 (by decide) ?_
      refine k_i (k := 0) (n := 0) hA B (b_V (q := 24) (rest := []) hb0 X (c_X4_stops l g N ad y cr dr th kn rf pl pz mc (by omega) b0 hb0 1 0 H.size) mw_X4_stops md_X4_stops rfl lk_X4_99 ⟨Nat.le_of_ble_eq_true rfl, Nat.le_of_ble_eq_true rfl⟩ hA hK hT B (by omega) mg_24 rfl rfl hl.1 rfl (Nat.le_of_ble_eq_true rfl) dX4_walk_37 ⟨Nat.le_of_ble_eq_true rfl, Nat.le_of_ble_eq_true rfl⟩) (Nat.le_of_ble_eq_true rfl) (Nat.le_of_ble_eq_true rfl) (fun r ad' f' H locs hw B => ?_)
      rw [st_10] at hw
      dsimp only at hw
      obtain ⟨rfl, rfl, rfl⟩ := hw
      have B : WB g (aw N ad sz) s.heap N ad (mg g ad y cr dr 1 kn rf pl pz mc) H locs := B
      refine lv_if_eq (tgt := 45) hx hb dX4_walk_40 (by decide) (fun z => absurd z (by decide)) (fun _ => ?_)
      refine lv_iconst (v := 0) hx hb dX4_walk_43 (by decide) ?_
      have ev := (show v_X4_walk cr dr a1 a2 a3 = (0, dr, 1) from by unfold v_X4_walk; rw [if_neg c2, if_neg c4])
      exact rt_i X hr (ad, mg g ad y cr dr 1 kn rf pl pz mc) B (PO_of B) ⟨(fun _ _ _ => rfl), by rw [ev], by rw [ev]⟩ rfl (Nat.le_of_ble_eq_true rfl) (Nat.le_of_ble_eq_true rfl) dX4_walk_44
    · refine lv_iconst (v := 1) hx hb dX4_walk_32 (by decide) ?_
      refine lv_goto (tgt := 37) hx hb dX4_walk_33 (by decide) ?_
      refine k_i (k := 0) (n := 0) hA B (b_V (q := 24) (rest := []) hb0 X (c_X4_stops l g N ad y cr dr th kn rf pl pz mc (by omega) b0 hb0 1 1 H.size) mw_X4_stops md_X4_stops rfl lk_X4_99 ⟨Nat.le_of_ble_eq_true rfl, Nat.le_of_ble_eq_true rfl⟩ hA hK hT B (by omega) mg_24 rfl rfl hl.1 rfl (Nat.le_of_ble_eq_true rfl) dX4_walk_37 ⟨Nat.le_of_ble_eq_true rfl, Nat.le_of_ble_eq_true rfl⟩) (Nat.le_of_ble_eq_true rfl) (Nat.le_of_ble_eq_true rfl) (fun r ad' f' H locs hw B => ?_)
      rw [st_11] at hw
      dsimp only at hw
      obtain ⟨rfl, rfl, rfl⟩ := hw
      have B : WB g (aw N ad sz) s.heap N ad (mg g ad y cr dr 1 kn rf pl pz mc) H locs := B
      refine lv_if_eq (tgt := 45) hx hb dX4_walk_40 (by decide) (fun z => absurd z (by decide)) (fun _ => ?_)
      refine lv_iconst (v := 0) hx hb dX4_walk_43 (by decide) ?_
      have ev := (show v_X4_walk cr dr a1 a2 a3 = (0, dr, 1) from by unfold v_X4_walk; rw [if_neg c2, if_pos c4])
      exact rt_i X hr (ad, mg g ad y cr dr 1 kn rf pl pz mc) B (PO_of B) ⟨(fun _ _ _ => rfl), by rw [ev], by rw [ev]⟩ rfl (Nat.le_of_ble_eq_true rfl) (Nat.le_of_ble_eq_true rfl) dX4_walk_44
  · refine lv_iload_n hx hb dX4_walk_8 rfl (lv_at hl 2 rfl) ?_
    refine k_i (k := 0) (n := 0) hA B (u_S (rest := [.ref b0]) X (c_X4_isNone l g N ad (mg g ad y cr dr th kn rf pl pz mc) a2 H.size) mw_X4_isNone md_X4_isNone rfl lk_X4_95 ⟨Nat.le_of_ble_eq_true rfl, Nat.le_of_ble_eq_true rfl⟩ hA hK hT B hl.1 rfl (Nat.le_of_ble_eq_true rfl) dX4_walk_9 ⟨Nat.le_of_ble_eq_true rfl, Nat.le_of_ble_eq_true rfl⟩) (Nat.le_of_ble_eq_true rfl) (Nat.le_of_ble_eq_true rfl) (fun r5 ad5 f' H locs hw B => ?_)
    obtain ⟨rfl, rfl, rfl⟩ := hw
    refine lv_if_eq (tgt := 19) hx hb dX4_walk_12 (by decide) (fun c6 => ?_) (fun c6 => ?_)
    · refine lv_iconst (v := 0) hx hb dX4_walk_19 (by decide) ?_
      refine lv_iload_n hx hb dX4_walk_20 rfl (lv_at hl 3 rfl) ?_
      refine lv_i2l (v := a3.toInt64) hx hb dX4_walk_21 rfl ?_
      refine lv_lconst (v := 1) hx hb dX4_walk_22 (by decide) ?_
      refine lv_ldc2 hx hb hown (hts _ (List.mem_cons_of_mem _ lk_X4_41)) dX4_walk_23 ?_
      refine k_i (k := 0) (n := 0) hA B (u_S (rest := [.int 0, .ref b0]) X (c_X4_isIn l g N ad (mg g ad y cr dr th kn rf pl pz mc) a3.toInt64 1 12 H.size) mw_X4_isIn md_X4_isIn rfl lk_X4_37 ⟨Nat.le_of_ble_eq_true rfl, Nat.le_of_ble_eq_true rfl⟩ hA hK hT B hl.1 rfl (Nat.le_of_ble_eq_true rfl) dX4_walk_26 ⟨Nat.le_of_ble_eq_true rfl, Nat.le_of_ble_eq_true rfl⟩) (Nat.le_of_ble_eq_true rfl) (Nat.le_of_ble_eq_true rfl) (fun r7 ad7 f' H locs hw B => ?_)
      obtain ⟨rfl, rfl, rfl⟩ := hw
      refine lv_if_ne (tgt := 36) hx hb dX4_walk_29 (by decide) (fun c8 => ?_) (fun c8 => ?_)
      · refine lv_iconst (v := 0) hx hb dX4_walk_36 (by decide) ?_
        refine k_i (k := 0) (n := 0) hA B (b_V (q := 24) (rest := []) hb0 X (c_X4_stops l g N ad y cr dr th kn rf pl pz mc (by omega) b0 hb0 0 0 H.size) mw_X4_stops md_X4_stops rfl lk_X4_99 ⟨Nat.le_of_ble_eq_true rfl, Nat.le_of_ble_eq_true rfl⟩ hA hK hT B (by omega) mg_24 rfl rfl hl.1 rfl (Nat.le_of_ble_eq_true rfl) dX4_walk_37 ⟨Nat.le_of_ble_eq_true rfl, Nat.le_of_ble_eq_true rfl⟩) (Nat.le_of_ble_eq_true rfl) (Nat.le_of_ble_eq_true rfl) (fun r ad' f' H locs hw B => ?_)
        rw [st_00] at hw
        dsimp only at hw
        obtain ⟨rfl, rfl, rfl⟩ := hw
        have B : WB g (aw N ad sz) s.heap N ad (mg g ad y cr dr 0 kn rf pl pz mc) H locs := B
        refine lv_if_eq (tgt := 45) hx hb dX4_walk_40 (by decide) (fun _ => ?_) (fun z => absurd z (by decide))
        refine lv_iconst (v := 0) hx hb dX4_walk_45 (by decide) ?_
        refine lv_istore (lv' := [(4, .int 0), (0, .ref b0), (1, .int a1), (2, .int a2), (3, .int a3)]) hx hb dX4_walk_46 hl (by decide) rfl (fun ls hl => ?_)
        have loop9 : ∀ (n9 : Nat) (wk : Int32) (dr9 : Nat → TR) (adL9 : Nat → Nat) (C9 : Nat) (S9 : Nat) (H : Heap) (locs : List Loc), C9 + n9 * 5 ≤ 65 → S9 + n9 * 15 ≤ 195 → (∀ k, k < N → k < 28 ∨ 36 ≤ k → adL9 k = ad k) → adL9 24 = b0 → (a3.toInt - wk.toInt).toNat < n9 → v_X4_walk cr dr a1 a2 a3 = wX4_walk_48 cr a1 a2 a3 n9 wk dr9 → (∀ i, i < 4 → okd (dr9 i)) → WB g (aw N ad sz) s.heap N adL9 (mg g adL9 y cr dr9 0 kn rf pl pz mc) H locs → ∀ ls : Array Slot, lv_has ls 5 [(4, .int wk), (0, .ref b0), (1, .int a1), (2, .int a2), (3, .int a3)] → W p l e (rm 4 65 195) s m args below meth c H locs C9 S9 (MQ below (va_Qi (fun r (u : WS) => (fun r ad' f' => (∀ k, k < N → k < 28 ∨ 36 ≤ k → ad' k = ad k) ∧ (v_X4_walk cr dr a1 a2 a3).1 = r ∧ mg g ad' y cr (v_X4_walk cr dr a1 a2 a3).2.1 (v_X4_walk cr dr a1 a2 a3).2.2 kn rf pl pz mc = f') r u.1 u.2) (fun u t => PO g N u.1 u.2 (aw N ad sz) t) (aw N ad sz)) args s (rm 4 65 195).cells (rm 4 65 195).slots (aw N ad sz)) (F0 m 48 ls []) := by
          intro n9
          induction n9 with
          | zero => intro wk dr9 adL9 C9 S9 H locs _ _ _ _ hn; exact absurd hn (Nat.not_lt_zero _)
          | succ n9 ih9 =>
            intro wk dr9 adL9 C9 S9 H locs hC9 hS9 hkL9 nbL9 hn9 he9 hdr9 B ls hl
            refine lv_iload hx hb dX4_walk_48 (lv_at hl 0 rfl) ?_
            refine lv_iload_n hx hb dX4_walk_50 rfl (lv_at hl 4 rfl) ?_
            refine lv_icmp_ge (tgt := 101) hx hb dX4_walk_51 (by decide) (fun c10 => ?_) (fun c10 => ?_)
            · refine W.widen (show (C9 + 0) ≤ 65 by omega) (show (S9 + 0) ≤ 195 by omega) ?_
              refine lv_iload hx hb dX4_walk_101 (lv_at hl 0 rfl) ?_
              have ev := (show v_X4_walk cr dr a1 a2 a3 = (wk, dr9, 0) from he9.trans (by rw [wX4_walk_48, if_pos c10]))
              exact rt_i X hr (adL9, mg g adL9 y cr dr9 0 kn rf pl pz mc) B (PO_of B) ⟨hkL9, by rw [ev], by rw [ev]⟩ rfl (Nat.le_of_ble_eq_true rfl) (Nat.le_of_ble_eq_true rfl) dX4_walk_103
            · refine lv_aload_n hx hb dX4_walk_54 rfl (lv_at hl 1 rfl) ?_
              refine b_get (q := 24) (k := 3) nbL9 X hK B rfl in_X4 (by omega) mg_24 (by decide) lk_X4_23 rfl rfl dX4_walk_55 ?_
              refine lv_iload_n hx hb dX4_walk_58 rfl (lv_at hl 2 rfl) ?_
              refine b_aald (q := 26) (t0 := 2) (v := adL9 (32 + a1.toNatClampNeg)) rfl X hK B (by omega) mg_26 rfl rfl (no_in c2) rfl dX4_walk_59 ?_
              have g11 : a1.toNatClampNeg < 4 := (no_lt c2)
              refine lv_aload_n hx hb dX4_walk_60 rfl (lv_at hl 1 rfl) ?_
              refine b_get (q := 24) (k := 1) nbL9 X hK B rfl in_X4 (by omega) mg_24 (by decide) lk_X4_11 rfl rfl dX4_walk_61 ?_
              refine lv_iload_n hx hb dX4_walk_64 rfl (lv_at hl 3 rfl) ?_
              refine b_aald (q := 25) (t0 := 2) (v := adL9 (28 + a2.toNatClampNeg)) rfl X hK B (by omega) mg_25 rfl rfl (no_in c6) rfl dX4_walk_65 ?_
              have g12 : a2.toNatClampNeg < 4 := (no_lt c6)
              refine lv_iconst (v := 1) hx hb dX4_walk_66 (by decide) ?_
              refine k_r (k := (C9 + 2)) (n := (S9 + 6)) hA B (u_S (rest := []) X (c_X4_onBy l g N adL9 (mg g adL9 y cr dr9 0 kn rf pl pz mc) (32 + a1.toNatClampNeg) (adL9 (32 + a1.toNatClampNeg)) (dr9 a1.toNatClampNeg) (pl_dr hN g11) rfl (mg_dr g11) (28 + a2.toNatClampNeg) (adL9 (28 + a2.toNatClampNeg)) (cr a2.toNatClampNeg) (pl_cr hN g12) rfl (mg_cr g12) 1 H.size) mw_X4_onBy md_X4_onBy rfl lk_X4_215 ⟨Nat.le_of_ble_eq_true rfl, Nat.le_of_ble_eq_true rfl⟩ hA hK hT B hl.1 rfl (Nat.le_of_ble_eq_true rfl) dX4_walk_67 (by dsimp only [rm]; omega)) (by dsimp only [rm]; omega) (by dsimp only [rm]; omega) (fun r13 ad13 f' H locs hw B => ?_)
              generalize o14 : (v_X4_onBy (dr9 a1.toNatClampNeg) (cr a2.toNatClampNeg) 1) = v9 at hw B
              cases v9 with
              | none =>
                obtain ⟨rfl, rfl, rfl⟩ := pw_n hw
                refine lv_ifnullN (tgt := 101) hx hb dX4_walk_70 (by decide) ?_
                refine W.widen (show (C9 + 2) ≤ 65 by omega) (show (S9 + 6) ≤ 195 by omega) ?_
                refine lv_iload hx hb dX4_walk_101 (lv_at hl 0 rfl) ?_
                have ev := (show v_X4_walk cr dr a1 a2 a3 = (wk, dr9, 0) from he9.trans (by rw [wX4_walk_48, if_neg c10, om_none o14]))
                exact rt_i X hr (adL9, mg g adL9 y cr dr9 0 kn rf pl pz mc) B (PO_of B) ⟨hkL9, by rw [ev], by rw [ev]⟩ rfl (Nat.le_of_ble_eq_true rfl) (Nat.le_of_ble_eq_true rfl) dX4_walk_103
              | some t14 =>
                obtain ⟨z14, rfl, rfl, rfl⟩ := pw_s hw
                have B : WB g (aw N ad sz) s.heap (N + 1) (va_up adL9 N z14) (mg g (va_up adL9 N z14) (va_up y N (c_row g t14)) cr dr9 0 kn rf pl pz mc) H locs := WM_push (by omega) B
                refine lv_ifnull hx hb dX4_walk_70 ?_
                refine lv_aload_n hx hb dX4_walk_73 rfl (lv_at hl 1 rfl) ?_
                refine lv_iload_n hx hb dX4_walk_74 rfl (lv_at hl 2 rfl) ?_
                refine lv_aload_n hx hb dX4_walk_75 rfl (lv_at hl 1 rfl) ?_
                refine b_get (q := 24) (k := 3) ((up_lt (by omega)).trans nbL9) X hK B rfl in_X4 (by omega) mg_24 (by decide) lk_X4_23 rfl rfl dX4_walk_76 ?_
                refine lv_iload_n hx hb dX4_walk_79 rfl (lv_at hl 2 rfl) ?_
                refine b_aald (q := 26) (t0 := 2) (v := (va_up adL9 N z14) (32 + a1.toNatClampNeg)) rfl X hK B (by omega) mg_26 rfl rfl (no_in c2) rfl dX4_walk_80 ?_
                have g15 : a1.toNatClampNeg < 4 := (no_lt c2)
                rw [show (va_up adL9 N z14) (32 + a1.toNatClampNeg) = adL9 (32 + a1.toNatClampNeg) from (up_lt (by omega))]
                refine lv_aload_n hx hb dX4_walk_81 rfl (lv_at hl 1 rfl) ?_
                refine b_get (q := 24) (k := 1) ((up_lt (by omega)).trans nbL9) X hK B rfl in_X4 (by omega) mg_24 (by decide) lk_X4_11 rfl rfl dX4_walk_82 ?_
                refine lv_iload_n hx hb dX4_walk_85 rfl (lv_at hl 3 rfl) ?_
                refine b_aald (q := 25) (t0 := 2) (v := (va_up adL9 N z14) (28 + a2.toNatClampNeg)) rfl X hK B (by omega) mg_25 rfl rfl (no_in c6) rfl dX4_walk_86 ?_
                have g16 : a2.toNatClampNeg < 4 := (no_lt c6)
                rw [show (va_up adL9 N z14) (28 + a2.toNatClampNeg) = adL9 (28 + a2.toNatClampNeg) from (up_lt (by omega))]
                refine lv_iconst (v := 1) hx hb dX4_walk_87 (by decide) ?_
                refine k_r (k := (C9 + 4)) (n := (S9 + 12)) hA B (u_S (rest := [.int a1, .ref b0]) X (c_X4_onBy l g (N + 1) (va_up adL9 N z14) (mg g (va_up adL9 N z14) (va_up y N (c_row g t14)) cr dr9 0 kn rf pl pz mc) (32 + a1.toNatClampNeg) (adL9 (32 + a1.toNatClampNeg)) (dr9 a1.toNatClampNeg) (Nat.lt_succ_of_lt (pl_dr hN g15)) ((up_lt (pl_dr hN g15)).trans rfl) (mg_dr g15) (28 + a2.toNatClampNeg) (adL9 (28 + a2.toNatClampNeg)) (cr a2.toNatClampNeg) (Nat.lt_succ_of_lt (pl_cr hN g16)) ((up_lt (pl_cr hN g16)).trans rfl) (mg_cr g16) 1 H.size) mw_X4_onBy md_X4_onBy rfl lk_X4_215 ⟨Nat.le_of_ble_eq_true rfl, Nat.le_of_ble_eq_true rfl⟩ hA hK hT B hl.1 rfl (Nat.le_of_ble_eq_true rfl) dX4_walk_88 (by dsimp only [rm]; omega)) (by dsimp only [rm]; omega) (by dsimp only [rm]; omega) (fun r17 ad17 f' H locs hw B => ?_)
                rw [o14] at hw B
                obtain ⟨z18, rfl, rfl, rfl⟩ := pw_s hw
                have B : WB g (aw N ad sz) s.heap (N + 1 + 1) (va_up (va_up adL9 N z14) (N + 1) z18) (mg g (va_up (va_up adL9 N z14) (N + 1) z18) (va_up (va_up y N (c_row g t14)) (N + 1) (c_row g t14)) cr dr9 0 kn rf pl pz mc) H locs := WM_push (by omega) B
                refine k_i (k := (C9 + 5)) (n := (S9 + 15)) hA B (b_V (q := 24) (rest := []) ((up_lt (by omega)).trans ((up_lt (by omega)).trans nbL9)) X (c_X4_become l g (N + 1 + 1) (va_up (va_up adL9 N z14) (N + 1) z18) (va_up (va_up y N (c_row g t14)) (N + 1) (c_row g t14)) cr dr9 0 kn rf pl pz mc (by omega) b0 ((up_lt (by omega)).trans ((up_lt (by omega)).trans nbL9)) a1 (N + 1) z18 t14 (Nat.lt_succ_self _) up_eq ((mg_hi (by omega)).trans up_eq) c2 hdr9 (okd_mo (onBy_okd o14)) H.size) mw_X4_become md_X4_become rfl lk_X4_212 ⟨Nat.le_of_ble_eq_true rfl, Nat.le_of_ble_eq_true rfl⟩ hA hK hT B (by omega) mg_24 rfl rfl hl.1 rfl (Nat.le_of_ble_eq_true rfl) dX4_walk_91 (by dsimp only [rm]; omega)) (by dsimp only [rm]; omega) (by dsimp only [rm]; omega) (fun r19 ad19 f' H locs hw B => ?_)
                dsimp only at hw
                obtain ⟨mv20, rfl, rfl⟩ := hw
                have B : WB g (aw N ad sz) s.heap N ad19 (mg g ad19 y cr (v_X4_become dr9 a1 t14).2 0 kn rf pl pz mc) H locs := WM_drop B (by omega) (by omega) (fun _ _ => rfl) (fun _ hk => ((up_lt (Nat.lt_succ_of_lt hk)).trans (up_lt hk)))
                have kk21 : ∀ k, k < N → k < 28 ∨ 36 ≤ k → ad19 k = ad k := fun k hk hkq => (mv20 k (by omega) hkq).trans (((fun _ hk => ((up_lt (Nat.lt_succ_of_lt hk)).trans (up_lt hk))) k hk).trans (hkL9 k hk hkq))
                have nb22 : ad19 24 = b0 := (mv20 24 (by omega) (Or.inl (by decide))).trans ((up_lt (by omega)).trans ((up_lt (by omega)).trans nbL9))
                refine lv_pop hx hb dX4_walk_94 rfl ?_
                refine lv_iinc (v := wk + 1) (lv' := [(4, .int (wk + 1)), (0, .ref b0), (1, .int a1), (2, .int a2), (3, .int a3)]) hx hb dX4_walk_95 hl (k := 0) rfl rfl (by decide) rfl (fun ls hl => ?_)
                refine lv_goto (tgt := 48) hx hb dX4_walk_98 (by decide) ?_
                exact ih9 (wk + 1) (v_X4_become dr9 a1 t14).2 ad19 (C9 + 5) (S9 + 15) H locs (by omega) (by omega) kk21 nb22 (fu_le c10 hn9) (show v_X4_walk cr dr a1 a2 a3 = wX4_walk_48 cr a1 a2 a3 n9 (wk + 1) (v_X4_become dr9 a1 t14).2 from he9.trans (by rw [wX4_walk_48, if_neg c10, om_some o14])) (become_okd hdr9 (onBy_okd o14)) B ls (lv_sub hl [0, 1, 2, 3, 4] rfl)
        have hT9 : (a3.toInt - (0 : Int32).toInt).toNat + 1 ≤ 13 := (al_12 c8)
        exact loop9 ((a3.toInt - (0 : Int32).toInt).toNat + 1) 0 dr ad 0 0 H locs (by omega) (by omega) (fun _ _ _ => rfl) hb0 (Nat.lt_succ_self _) (show v_X4_walk cr dr a1 a2 a3 = wX4_walk_48 cr a1 a2 a3 ((a3.toInt - (0 : Int32).toInt).toNat + 1) 0 dr from by unfold v_X4_walk; rw [if_pos c2, if_pos c6, if_neg c8]) hdr B ls hl
      · refine lv_iconst (v := 1) hx hb dX4_walk_32 (by decide) ?_
        refine lv_goto (tgt := 37) hx hb dX4_walk_33 (by decide) ?_
        refine k_i (k := 0) (n := 0) hA B (b_V (q := 24) (rest := []) hb0 X (c_X4_stops l g N ad y cr dr th kn rf pl pz mc (by omega) b0 hb0 0 1 H.size) mw_X4_stops md_X4_stops rfl lk_X4_99 ⟨Nat.le_of_ble_eq_true rfl, Nat.le_of_ble_eq_true rfl⟩ hA hK hT B (by omega) mg_24 rfl rfl hl.1 rfl (Nat.le_of_ble_eq_true rfl) dX4_walk_37 ⟨Nat.le_of_ble_eq_true rfl, Nat.le_of_ble_eq_true rfl⟩) (Nat.le_of_ble_eq_true rfl) (Nat.le_of_ble_eq_true rfl) (fun r ad' f' H locs hw B => ?_)
        rw [st_01] at hw
        dsimp only at hw
        obtain ⟨rfl, rfl, rfl⟩ := hw
        have B : WB g (aw N ad sz) s.heap N ad (mg g ad y cr dr 2 kn rf pl pz mc) H locs := B
        refine lv_if_eq (tgt := 45) hx hb dX4_walk_40 (by decide) (fun z => absurd z (by decide)) (fun _ => ?_)
        refine lv_iconst (v := 0) hx hb dX4_walk_43 (by decide) ?_
        have ev := (show v_X4_walk cr dr a1 a2 a3 = (0, dr, 2) from by unfold v_X4_walk; rw [if_pos c2, if_pos c6, if_pos c8])
        exact rt_i X hr (ad, mg g ad y cr dr 2 kn rf pl pz mc) B (PO_of B) ⟨(fun _ _ _ => rfl), by rw [ev], by rw [ev]⟩ rfl (Nat.le_of_ble_eq_true rfl) (Nat.le_of_ble_eq_true rfl) dX4_walk_44
    · refine lv_iconst (v := 1) hx hb dX4_walk_15 (by decide) ?_
      refine lv_goto (tgt := 20) hx hb dX4_walk_16 (by decide) ?_
      refine lv_iload_n hx hb dX4_walk_20 rfl (lv_at hl 3 rfl) ?_
      refine lv_i2l (v := a3.toInt64) hx hb dX4_walk_21 rfl ?_
      refine lv_lconst (v := 1) hx hb dX4_walk_22 (by decide) ?_
      refine lv_ldc2 hx hb hown (hts _ (List.mem_cons_of_mem _ lk_X4_41)) dX4_walk_23 ?_
      refine k_i (k := 0) (n := 0) hA B (u_S (rest := [.int 1, .ref b0]) X (c_X4_isIn l g N ad (mg g ad y cr dr th kn rf pl pz mc) a3.toInt64 1 12 H.size) mw_X4_isIn md_X4_isIn rfl lk_X4_37 ⟨Nat.le_of_ble_eq_true rfl, Nat.le_of_ble_eq_true rfl⟩ hA hK hT B hl.1 rfl (Nat.le_of_ble_eq_true rfl) dX4_walk_26 ⟨Nat.le_of_ble_eq_true rfl, Nat.le_of_ble_eq_true rfl⟩) (Nat.le_of_ble_eq_true rfl) (Nat.le_of_ble_eq_true rfl) (fun r23 ad23 f' H locs hw B => ?_)
      obtain ⟨rfl, rfl, rfl⟩ := hw
      refine lv_if_ne (tgt := 36) hx hb dX4_walk_29 (by decide) (fun c24 => ?_) (fun c24 => ?_)
      · refine lv_iconst (v := 0) hx hb dX4_walk_36 (by decide) ?_
        refine k_i (k := 0) (n := 0) hA B (b_V (q := 24) (rest := []) hb0 X (c_X4_stops l g N ad y cr dr th kn rf pl pz mc (by omega) b0 hb0 1 0 H.size) mw_X4_stops md_X4_stops rfl lk_X4_99 ⟨Nat.le_of_ble_eq_true rfl, Nat.le_of_ble_eq_true rfl⟩ hA hK hT B (by omega) mg_24 rfl rfl hl.1 rfl (Nat.le_of_ble_eq_true rfl) dX4_walk_37 ⟨Nat.le_of_ble_eq_true rfl, Nat.le_of_ble_eq_true rfl⟩) (Nat.le_of_ble_eq_true rfl) (Nat.le_of_ble_eq_true rfl) (fun r ad' f' H locs hw B => ?_)
        rw [st_10] at hw
        dsimp only at hw
        obtain ⟨rfl, rfl, rfl⟩ := hw
        have B : WB g (aw N ad sz) s.heap N ad (mg g ad y cr dr 1 kn rf pl pz mc) H locs := B
        refine lv_if_eq (tgt := 45) hx hb dX4_walk_40 (by decide) (fun z => absurd z (by decide)) (fun _ => ?_)
        refine lv_iconst (v := 0) hx hb dX4_walk_43 (by decide) ?_
        have ev := (show v_X4_walk cr dr a1 a2 a3 = (0, dr, 1) from by unfold v_X4_walk; rw [if_pos c2, if_neg c6, if_neg c24])
        exact rt_i X hr (ad, mg g ad y cr dr 1 kn rf pl pz mc) B (PO_of B) ⟨(fun _ _ _ => rfl), by rw [ev], by rw [ev]⟩ rfl (Nat.le_of_ble_eq_true rfl) (Nat.le_of_ble_eq_true rfl) dX4_walk_44
      · refine lv_iconst (v := 1) hx hb dX4_walk_32 (by decide) ?_
        refine lv_goto (tgt := 37) hx hb dX4_walk_33 (by decide) ?_
        refine k_i (k := 0) (n := 0) hA B (b_V (q := 24) (rest := []) hb0 X (c_X4_stops l g N ad y cr dr th kn rf pl pz mc (by omega) b0 hb0 1 1 H.size) mw_X4_stops md_X4_stops rfl lk_X4_99 ⟨Nat.le_of_ble_eq_true rfl, Nat.le_of_ble_eq_true rfl⟩ hA hK hT B (by omega) mg_24 rfl rfl hl.1 rfl (Nat.le_of_ble_eq_true rfl) dX4_walk_37 ⟨Nat.le_of_ble_eq_true rfl, Nat.le_of_ble_eq_true rfl⟩) (Nat.le_of_ble_eq_true rfl) (Nat.le_of_ble_eq_true rfl) (fun r ad' f' H locs hw B => ?_)
        rw [st_11] at hw
        dsimp only at hw
        obtain ⟨rfl, rfl, rfl⟩ := hw
        have B : WB g (aw N ad sz) s.heap N ad (mg g ad y cr dr 1 kn rf pl pz mc) H locs := B
        refine lv_if_eq (tgt := 45) hx hb dX4_walk_40 (by decide) (fun z => absurd z (by decide)) (fun _ => ?_)
        refine lv_iconst (v := 0) hx hb dX4_walk_43 (by decide) ?_
        have ev := (show v_X4_walk cr dr a1 a2 a3 = (0, dr, 1) from by unfold v_X4_walk; rw [if_pos c2, if_neg c6, if_pos c24])
        exact rt_i X hr (ad, mg g ad y cr dr 1 kn rf pl pz mc) B (PO_of B) ⟨(fun _ _ _ => rfl), by rw [ev], by rw [ev]⟩ rfl (Nat.le_of_ble_eq_true rfl) (Nat.le_of_ble_eq_true rfl) dX4_walk_44
def v_X4_getK (cr : Nat → TR) (a1 : Int32) (tj2 : TR) : Int32 × (Nat → TR) := if (v_X4_isSame (cr a1.toNatClampNeg) tj2) = 0 then ((v_X4_one 1), va_up cr a1.toNatClampNeg (tj2.1, tj2.2.1, tj2.2.2)) else ((v_X4_one 0), va_up cr a1.toNatClampNeg (tj2.1, tj2.2.1, tj2.2.2))
set_option maxHeartbeats 4000000 in
set_option maxRecDepth 100000 in
theorem c_X4_getK (l : Launch) (g : GG) (N : Nat) (ad : Nat → Nat) (y : Nat → va_E) (cr dr : Nat → TR) (th kn rf : Int32) (pl : Nat → TR) (pz : Nat) (mc : Int32) (hN : 36 + pz ≤ N) (b0 : Nat) (hb0 : ad 24 = b0) (a1 : Int32) (j2 bj2 : Nat) (tj2 : TR) (hj2 : j2 < N) (hbj2 : ad j2 = bj2) (hfj2 : mg g ad y cr dr th kn rf pl pz mc j2 = c_row g tj2) (hza1 : v_X4_isNone a1 = 0) : KI l yX4_get cX4_get 4 (some .int) (rm 1 1 3) g [.ref b0, .int a1, .ref bj2] N ad (mg g ad y cr dr th kn rf pl pz mc) (N + 1) (fun r ad' f' => (∀ k, k < N → k < 28 ∨ 36 ≤ k → ad' k = ad k) ∧ ad' N = ad (28 + a1.toNatClampNeg) ∧ (v_X4_getK cr a1 tj2).1 = r ∧ mg g ad' (va_up y N (c_row g (cr a1.toNatClampNeg))) (v_X4_getK cr a1 tj2).2 dr th kn rf pl pz mc = f') := by
  intro sz
  refine mt_start (by decide) (Nat.le_of_ble_eq_true rfl) ?_
  intro p e s m args below meth c hsz X hr hnam hA hK hT H locs B ls hl
  obtain ⟨hx, hb, hml, hown, hts, hlocks⟩ := id X
  have hl : lv_has ls 4 [(0, .ref b0), (1, .int a1), (2, .ref bj2)] := hl
  refine lv_aload_n hx hb dX4_get_0 rfl (lv_at hl 2 rfl) ?_
  refine lv_ifnonnull (tgt := 9) hx hb dX4_get_1 (by decide) ?_
  refine lv_aload_n hx hb dX4_get_9 rfl (lv_at hl 0 rfl) ?_
  refine b_get (q := 24) (k := 1) hb0 X hK B rfl in_X4 (by omega) mg_24 (by decide) lk_X4_11 rfl rfl dX4_get_10 ?_
  refine lv_iload_n hx hb dX4_get_13 rfl (lv_at hl 1 rfl) ?_
  refine b_aald (q := 25) (t0 := 2) (v := ad (28 + a1.toNatClampNeg)) rfl X hK B (by omega) mg_25 rfl rfl (no_in hza1) rfl dX4_get_14 ?_
  have g1 : a1.toNatClampNeg < 4 := (no_lt hza1)
  refine lv_aload_n hx hb dX4_get_15 rfl (lv_at hl 2 rfl) ?_
  refine k_i (k := 0) (n := 0) hA B (u_S (rest := []) X (c_X4_isSame l g N ad (mg g ad y cr dr th kn rf pl pz mc) (28 + a1.toNatClampNeg) (ad (28 + a1.toNatClampNeg)) (cr a1.toNatClampNeg) (pl_cr hN g1) rfl (mg_cr g1) j2 bj2 tj2 hj2 hbj2 (mg_row hfj2 rfl) H.size) mw_X4_isSame md_X4_isSame rfl lk_X4_87 ⟨Nat.le_of_ble_eq_true rfl, Nat.le_of_ble_eq_true rfl⟩ hA hK hT B hl.1 rfl (Nat.le_of_ble_eq_true rfl) dX4_get_16 ⟨Nat.le_of_ble_eq_true rfl, Nat.le_of_ble_eq_true rfl⟩) (Nat.le_of_ble_eq_true rfl) (Nat.le_of_ble_eq_true rfl) (fun r2 ad2 f' H locs hw B => ?_)
  obtain ⟨rfl, rfl, rfl⟩ := hw
  refine lv_if_ne (tgt := 26) hx hb dX4_get_19 (by decide) (fun c3 => ?_) (fun c3 => ?_)
  · refine lv_iconst (v := 0) hx hb dX4_get_26 (by decide) ?_
    refine k_i (k := 0) (n := 0) hA B (u_S (rest := []) X (c_X4_one l g N ad (mg g ad y cr dr th kn rf pl pz mc) 0 H.size) mw_X4_one md_X4_one rfl lk_X4_91 ⟨Nat.le_of_ble_eq_true rfl, Nat.le_of_ble_eq_true rfl⟩ hA hK hT B hl.1 rfl (Nat.le_of_ble_eq_true rfl) dX4_get_27 ⟨Nat.le_of_ble_eq_true rfl, Nat.le_of_ble_eq_true rfl⟩) (Nat.le_of_ble_eq_true rfl) (Nat.le_of_ble_eq_true rfl) (fun r4 ad4 f' H locs hw B => ?_)
    obtain ⟨rfl, rfl, rfl⟩ := hw
    refine lv_istore_n (lv' := [(3, .int (v_X4_one 0)), (0, .ref b0), (1, .int a1), (2, .ref bj2)]) hx hb dX4_get_30 rfl hl (by decide) rfl (fun ls hl => ?_)
    refine lv_aload_n hx hb dX4_get_31 rfl (lv_at hl 1 rfl) ?_
    refine b_get (q := 24) (k := 1) hb0 X hK B rfl in_X4 (by omega) mg_24 (by decide) lk_X4_11 rfl rfl dX4_get_32 ?_
    refine lv_iload_n hx hb dX4_get_35 rfl (lv_at hl 2 rfl) ?_
    refine lv_iconst (v := 3) hx hb dX4_get_36 (by decide) ?_
    refine h_new3 (cz := 1) (sz := 3) X hA hK B (Nat.le_of_ble_eq_true rfl) (Nat.le_of_ble_eq_true rfl) (Nat.le_of_ble_eq_true rfl) (Nat.le_of_ble_eq_true rfl) dX4_get_37 (fun z5 H B => ?_)
    have B : WB g (aw N ad sz) s.heap (N + 1) (va_up ad N z5) (mg g (va_up ad N z5) (va_up y N (c_row g (0, 0, 0))) cr dr th kn rf pl pz mc) H locs := WM_push (by omega) B
    refine lv_dup hx hb dX4_get_39 rfl ?_
    refine lv_iconst (v := 0) hx hb dX4_get_40 (by decide) ?_
    refine lv_aload_n hx hb dX4_get_41 rfl (lv_at hl 3 rfl) ?_
    refine lv_iconst (v := 0) hx hb dX4_get_42 (by decide) ?_
    refine h_ld0 X hK B (Nat.lt_succ_of_lt hj2) ((up_lt hj2).trans hbj2) (mg_row hfj2 ((up_lt hj2).trans rfl)) dX4_get_43 ?_
    refine h_st (t := (0, 0, 0)) (t' := (tj2.1, 0, 0)) X hK B (Nat.lt_succ_self _) up_eq ((mg_hi (by omega)).trans up_eq) (by unfold vp_in; decide) (rw3_s0 _ _) dX4_get_44 (fun H locs B => ?_)
    rw [mg_yup (by omega), bx_uu] at B
    refine lv_dup hx hb dX4_get_45 rfl ?_
    refine lv_iconst (v := 1) hx hb dX4_get_46 (by decide) ?_
    refine lv_aload_n hx hb dX4_get_47 rfl (lv_at hl 3 rfl) ?_
    refine lv_iconst (v := 1) hx hb dX4_get_48 (by decide) ?_
    refine h_ld1 X hK B (Nat.lt_succ_of_lt hj2) ((up_lt hj2).trans hbj2) (mg_row hfj2 ((up_lt hj2).trans rfl)) dX4_get_49 ?_
    refine h_st (t := (tj2.1, 0, 0)) (t' := (tj2.1, tj2.2.1, 0)) X hK B (Nat.lt_succ_self _) up_eq ((mg_hi (by omega)).trans up_eq) (by unfold vp_in; decide) (rw3_s1 _ _) dX4_get_50 (fun H locs B => ?_)
    rw [mg_yup (by omega), bx_uu] at B
    refine lv_dup hx hb dX4_get_51 rfl ?_
    refine lv_iconst (v := 2) hx hb dX4_get_52 (by decide) ?_
    refine lv_aload_n hx hb dX4_get_53 rfl (lv_at hl 3 rfl) ?_
    refine lv_iconst (v := 2) hx hb dX4_get_54 (by decide) ?_
    refine h_ld2 X hK B (Nat.lt_succ_of_lt hj2) ((up_lt hj2).trans hbj2) (mg_row hfj2 ((up_lt hj2).trans rfl)) dX4_get_55 ?_
    refine h_st (t := (tj2.1, tj2.2.1, 0)) (t' := (tj2.1, tj2.2.1, tj2.2.2)) X hK B (Nat.lt_succ_self _) up_eq ((mg_hi (by omega)).trans up_eq) (by unfold vp_in; decide) (rw3_s2 _ _) dX4_get_56 (fun H locs B => ?_)
    rw [mg_yup (by omega), bx_uu] at B
    have g6 : a1.toNatClampNeg < 4 := (no_lt hza1)
    refine b_aast (q := 25) (qv := N) (up_lt (by omega)) X hK hT B (by omega) mg_25 (Nat.lt_succ_self _) up_eq ((mg_hi (by omega)).trans up_eq) (no_in hza1) dX4_get_57 (fun H locs B => ?_)
    have B : WB g (aw N ad sz) s.heap (N + 1) (va_up (va_up ad (28 + a1.toNatClampNeg) z5) N (ad (28 + a1.toNatClampNeg))) (mg g (va_up (va_up ad (28 + a1.toNatClampNeg) z5) N (ad (28 + a1.toNatClampNeg))) (va_up y N (c_row g (cr a1.toNatClampNeg))) (va_up cr a1.toNatClampNeg (tj2.1, tj2.2.1, tj2.2.2)) dr th kn rf pl pz mc) H locs := WM_crK B (fun _ => rfl) hN g6
    have kko : ∀ k, k < N → k < 28 ∨ 36 ≤ k → (va_up (va_up ad (28 + a1.toNatClampNeg) z5) N (ad (28 + a1.toNatClampNeg))) k = ad k := fun k hk hkq => (va_up_ne _ _ (by omega)).trans (va_up_ne _ _ (by omega))
    have nbo : (va_up (va_up ad (28 + a1.toNatClampNeg) z5) N (ad (28 + a1.toNatClampNeg))) 24 = b0 := (va_up_ne _ _ (by omega)).trans ((va_up_ne _ _ (by omega)).trans hb0)
    refine lv_iload_n hx hb dX4_get_58 rfl (lv_at hl 0 rfl) ?_
    have ev := (show v_X4_getK cr a1 tj2 = ((v_X4_one 0), va_up cr a1.toNatClampNeg (tj2.1, tj2.2.1, tj2.2.2)) from by unfold v_X4_getK; rw [if_neg c3])
    exact rt_i X hr (va_up (va_up ad (28 + a1.toNatClampNeg) z5) N (ad (28 + a1.toNatClampNeg)), mg g (va_up (va_up ad (28 + a1.toNatClampNeg) z5) N (ad (28 + a1.toNatClampNeg))) (va_up y N (c_row g (cr a1.toNatClampNeg))) (va_up cr a1.toNatClampNeg (tj2.1, tj2.2.1, tj2.2.2)) dr th kn rf pl pz mc) B (PO_of B) ⟨kko, va_up_self _ _ _, by rw [ev], by rw [ev]⟩ rfl (Nat.le_of_ble_eq_true rfl) (Nat.le_of_ble_eq_true rfl) dX4_get_59
  · refine lv_iconst (v := 1) hx hb dX4_get_22 (by decide) ?_
    refine lv_goto (tgt := 27) hx hb dX4_get_23 (by decide) ?_
    refine k_i (k := 0) (n := 0) hA B (u_S (rest := []) X (c_X4_one l g N ad (mg g ad y cr dr th kn rf pl pz mc) 1 H.size) mw_X4_one md_X4_one rfl lk_X4_91 ⟨Nat.le_of_ble_eq_true rfl, Nat.le_of_ble_eq_true rfl⟩ hA hK hT B hl.1 rfl (Nat.le_of_ble_eq_true rfl) dX4_get_27 ⟨Nat.le_of_ble_eq_true rfl, Nat.le_of_ble_eq_true rfl⟩) (Nat.le_of_ble_eq_true rfl) (Nat.le_of_ble_eq_true rfl) (fun r7 ad7 f' H locs hw B => ?_)
    obtain ⟨rfl, rfl, rfl⟩ := hw
    refine lv_istore_n (lv' := [(3, .int (v_X4_one 1)), (0, .ref b0), (1, .int a1), (2, .ref bj2)]) hx hb dX4_get_30 rfl hl (by decide) rfl (fun ls hl => ?_)
    refine lv_aload_n hx hb dX4_get_31 rfl (lv_at hl 1 rfl) ?_
    refine b_get (q := 24) (k := 1) hb0 X hK B rfl in_X4 (by omega) mg_24 (by decide) lk_X4_11 rfl rfl dX4_get_32 ?_
    refine lv_iload_n hx hb dX4_get_35 rfl (lv_at hl 2 rfl) ?_
    refine lv_iconst (v := 3) hx hb dX4_get_36 (by decide) ?_
    refine h_new3 (cz := 1) (sz := 3) X hA hK B (Nat.le_of_ble_eq_true rfl) (Nat.le_of_ble_eq_true rfl) (Nat.le_of_ble_eq_true rfl) (Nat.le_of_ble_eq_true rfl) dX4_get_37 (fun z8 H B => ?_)
    have B : WB g (aw N ad sz) s.heap (N + 1) (va_up ad N z8) (mg g (va_up ad N z8) (va_up y N (c_row g (0, 0, 0))) cr dr th kn rf pl pz mc) H locs := WM_push (by omega) B
    refine lv_dup hx hb dX4_get_39 rfl ?_
    refine lv_iconst (v := 0) hx hb dX4_get_40 (by decide) ?_
    refine lv_aload_n hx hb dX4_get_41 rfl (lv_at hl 3 rfl) ?_
    refine lv_iconst (v := 0) hx hb dX4_get_42 (by decide) ?_
    refine h_ld0 X hK B (Nat.lt_succ_of_lt hj2) ((up_lt hj2).trans hbj2) (mg_row hfj2 ((up_lt hj2).trans rfl)) dX4_get_43 ?_
    refine h_st (t := (0, 0, 0)) (t' := (tj2.1, 0, 0)) X hK B (Nat.lt_succ_self _) up_eq ((mg_hi (by omega)).trans up_eq) (by unfold vp_in; decide) (rw3_s0 _ _) dX4_get_44 (fun H locs B => ?_)
    rw [mg_yup (by omega), bx_uu] at B
    refine lv_dup hx hb dX4_get_45 rfl ?_
    refine lv_iconst (v := 1) hx hb dX4_get_46 (by decide) ?_
    refine lv_aload_n hx hb dX4_get_47 rfl (lv_at hl 3 rfl) ?_
    refine lv_iconst (v := 1) hx hb dX4_get_48 (by decide) ?_
    refine h_ld1 X hK B (Nat.lt_succ_of_lt hj2) ((up_lt hj2).trans hbj2) (mg_row hfj2 ((up_lt hj2).trans rfl)) dX4_get_49 ?_
    refine h_st (t := (tj2.1, 0, 0)) (t' := (tj2.1, tj2.2.1, 0)) X hK B (Nat.lt_succ_self _) up_eq ((mg_hi (by omega)).trans up_eq) (by unfold vp_in; decide) (rw3_s1 _ _) dX4_get_50 (fun H locs B => ?_)
    rw [mg_yup (by omega), bx_uu] at B
    refine lv_dup hx hb dX4_get_51 rfl ?_
    refine lv_iconst (v := 2) hx hb dX4_get_52 (by decide) ?_
    refine lv_aload_n hx hb dX4_get_53 rfl (lv_at hl 3 rfl) ?_
    refine lv_iconst (v := 2) hx hb dX4_get_54 (by decide) ?_
    refine h_ld2 X hK B (Nat.lt_succ_of_lt hj2) ((up_lt hj2).trans hbj2) (mg_row hfj2 ((up_lt hj2).trans rfl)) dX4_get_55 ?_
    refine h_st (t := (tj2.1, tj2.2.1, 0)) (t' := (tj2.1, tj2.2.1, tj2.2.2)) X hK B (Nat.lt_succ_self _) up_eq ((mg_hi (by omega)).trans up_eq) (by unfold vp_in; decide) (rw3_s2 _ _) dX4_get_56 (fun H locs B => ?_)
    rw [mg_yup (by omega), bx_uu] at B
    have g9 : a1.toNatClampNeg < 4 := (no_lt hza1)
    refine b_aast (q := 25) (qv := N) (up_lt (by omega)) X hK hT B (by omega) mg_25 (Nat.lt_succ_self _) up_eq ((mg_hi (by omega)).trans up_eq) (no_in hza1) dX4_get_57 (fun H locs B => ?_)
    have B : WB g (aw N ad sz) s.heap (N + 1) (va_up (va_up ad (28 + a1.toNatClampNeg) z8) N (ad (28 + a1.toNatClampNeg))) (mg g (va_up (va_up ad (28 + a1.toNatClampNeg) z8) N (ad (28 + a1.toNatClampNeg))) (va_up y N (c_row g (cr a1.toNatClampNeg))) (va_up cr a1.toNatClampNeg (tj2.1, tj2.2.1, tj2.2.2)) dr th kn rf pl pz mc) H locs := WM_crK B (fun _ => rfl) hN g9
    have kko : ∀ k, k < N → k < 28 ∨ 36 ≤ k → (va_up (va_up ad (28 + a1.toNatClampNeg) z8) N (ad (28 + a1.toNatClampNeg))) k = ad k := fun k hk hkq => (va_up_ne _ _ (by omega)).trans (va_up_ne _ _ (by omega))
    have nbo : (va_up (va_up ad (28 + a1.toNatClampNeg) z8) N (ad (28 + a1.toNatClampNeg))) 24 = b0 := (va_up_ne _ _ (by omega)).trans ((va_up_ne _ _ (by omega)).trans hb0)
    refine lv_iload_n hx hb dX4_get_58 rfl (lv_at hl 0 rfl) ?_
    have ev := (show v_X4_getK cr a1 tj2 = ((v_X4_one 1), va_up cr a1.toNatClampNeg (tj2.1, tj2.2.1, tj2.2.2)) from by unfold v_X4_getK; rw [if_pos c3])
    exact rt_i X hr (va_up (va_up ad (28 + a1.toNatClampNeg) z8) N (ad (28 + a1.toNatClampNeg)), mg g (va_up (va_up ad (28 + a1.toNatClampNeg) z8) N (ad (28 + a1.toNatClampNeg))) (va_up y N (c_row g (cr a1.toNatClampNeg))) (va_up cr a1.toNatClampNeg (tj2.1, tj2.2.1, tj2.2.2)) dr th kn rf pl pz mc) B (PO_of B) ⟨kko, va_up_self _ _ _, by rw [ev], by rw [ev]⟩ rfl (Nat.le_of_ble_eq_true rfl) (Nat.le_of_ble_eq_true rfl) dX4_get_59
def v_X4_swap (cr : Nat → TR) (a1 : Int32) (a2 : Int32) : Int32 × (Nat → TR) × Int32 := if (v_X4_isNone a1) = 0 then (if (v_X4_isNone a2) = 0 then ((v_X4_getK cr a1 (cr a2.toNatClampNeg)).1, (v_X4_get (v_X4_getK cr a1 (cr a2.toNatClampNeg)).2 a2 (cr a1.toNatClampNeg)).2, 0) else (0, cr, 1)) else (0, cr, 1)
set_option maxHeartbeats 4000000 in
set_option maxRecDepth 100000 in
theorem c_X4_swap (l : Launch) (g : GG) (N : Nat) (ad : Nat → Nat) (y : Nat → va_E) (cr dr : Nat → TR) (th kn rf : Int32) (pl : Nat → TR) (pz : Nat) (mc : Int32) (hN : 36 + pz ≤ N) (b0 : Nat) (hb0 : ad 24 = b0) (a1 : Int32) (a2 : Int32) : KI l yX4_swap cX4_swap 5 (some .int) (rm 2 2 6) g [.ref b0, .int a1, .int a2] N ad (mg g ad y cr dr th kn rf pl pz mc) N (fun r ad' f' => (∀ k, k < N → k < 28 ∨ 36 ≤ k → ad' k = ad k) ∧ (v_X4_swap cr a1 a2).1 = r ∧ mg g ad' y (v_X4_swap cr a1 a2).2.1 dr (v_X4_swap cr a1 a2).2.2 kn rf pl pz mc = f') := by
  intro sz
  refine mt_start (by decide) (Nat.le_of_ble_eq_true rfl) ?_
  intro p e s m args below meth c hsz X hr hnam hA hK hT H locs B ls hl
  obtain ⟨hx, hb, hml, hown, hts, hlocks⟩ := id X
  have hl : lv_has ls 5 [(0, .ref b0), (1, .int a1), (2, .int a2)] := hl
  refine lv_aload_n hx hb dX4_swap_0 rfl (lv_at hl 0 rfl) ?_
  refine lv_iload_n hx hb dX4_swap_1 rfl (lv_at hl 1 rfl) ?_
  refine k_i (k := 0) (n := 0) hA B (u_S (rest := [.ref b0]) X (c_X4_isNone l g N ad (mg g ad y cr dr th kn rf pl pz mc) a1 H.size) mw_X4_isNone md_X4_isNone rfl lk_X4_95 ⟨Nat.le_of_ble_eq_true rfl, Nat.le_of_ble_eq_true rfl⟩ hA hK hT B hl.1 rfl (Nat.le_of_ble_eq_true rfl) dX4_swap_2 ⟨Nat.le_of_ble_eq_true rfl, Nat.le_of_ble_eq_true rfl⟩) (Nat.le_of_ble_eq_true rfl) (Nat.le_of_ble_eq_true rfl) (fun r1 ad1 f' H locs hw B => ?_)
  obtain ⟨rfl, rfl, rfl⟩ := hw
  refine lv_if_ne (tgt := 15) hx hb dX4_swap_5 (by decide) (fun c2 => ?_) (fun c2 => ?_)
  · refine lv_iconst (v := 1) hx hb dX4_swap_15 (by decide) ?_
    refine lv_goto (tgt := 20) hx hb dX4_swap_16 (by decide) ?_
    refine lv_iconst (v := 0) hx hb dX4_swap_20 (by decide) ?_
    refine k_i (k := 0) (n := 0) hA B (b_V (q := 24) (rest := []) hb0 X (c_X4_stops l g N ad y cr dr th kn rf pl pz mc (by omega) b0 hb0 1 0 H.size) mw_X4_stops md_X4_stops rfl lk_X4_99 ⟨Nat.le_of_ble_eq_true rfl, Nat.le_of_ble_eq_true rfl⟩ hA hK hT B (by omega) mg_24 rfl rfl hl.1 rfl (Nat.le_of_ble_eq_true rfl) dX4_swap_21 ⟨Nat.le_of_ble_eq_true rfl, Nat.le_of_ble_eq_true rfl⟩) (Nat.le_of_ble_eq_true rfl) (Nat.le_of_ble_eq_true rfl) (fun r ad' f' H locs hw B => ?_)
    rw [st_10] at hw
    dsimp only at hw
    obtain ⟨rfl, rfl, rfl⟩ := hw
    have B : WB g (aw N ad sz) s.heap N ad (mg g ad y cr dr 1 kn rf pl pz mc) H locs := B
    refine lv_if_eq (tgt := 29) hx hb dX4_swap_24 (by decide) (fun z => absurd z (by decide)) (fun _ => ?_)
    refine lv_iconst (v := 0) hx hb dX4_swap_27 (by decide) ?_
    have ev := (show v_X4_swap cr a1 a2 = (0, cr, 1) from by unfold v_X4_swap; rw [if_neg c2])
    exact rt_i X hr (ad, mg g ad y cr dr 1 kn rf pl pz mc) B (PO_of B) ⟨(fun _ _ _ => rfl), by rw [ev], by rw [ev]⟩ rfl (Nat.le_of_ble_eq_true rfl) (Nat.le_of_ble_eq_true rfl) dX4_swap_28
  · refine lv_iload_n hx hb dX4_swap_8 rfl (lv_at hl 2 rfl) ?_
    refine k_i (k := 0) (n := 0) hA B (u_S (rest := [.ref b0]) X (c_X4_isNone l g N ad (mg g ad y cr dr th kn rf pl pz mc) a2 H.size) mw_X4_isNone md_X4_isNone rfl lk_X4_95 ⟨Nat.le_of_ble_eq_true rfl, Nat.le_of_ble_eq_true rfl⟩ hA hK hT B hl.1 rfl (Nat.le_of_ble_eq_true rfl) dX4_swap_9 ⟨Nat.le_of_ble_eq_true rfl, Nat.le_of_ble_eq_true rfl⟩) (Nat.le_of_ble_eq_true rfl) (Nat.le_of_ble_eq_true rfl) (fun r3 ad3 f' H locs hw B => ?_)
    obtain ⟨rfl, rfl, rfl⟩ := hw
    refine lv_if_eq (tgt := 19) hx hb dX4_swap_12 (by decide) (fun c4 => ?_) (fun c4 => ?_)
    · refine lv_iconst (v := 0) hx hb dX4_swap_19 (by decide) ?_
      refine lv_iconst (v := 0) hx hb dX4_swap_20 (by decide) ?_
      refine k_i (k := 0) (n := 0) hA B (b_V (q := 24) (rest := []) hb0 X (c_X4_stops l g N ad y cr dr th kn rf pl pz mc (by omega) b0 hb0 0 0 H.size) mw_X4_stops md_X4_stops rfl lk_X4_99 ⟨Nat.le_of_ble_eq_true rfl, Nat.le_of_ble_eq_true rfl⟩ hA hK hT B (by omega) mg_24 rfl rfl hl.1 rfl (Nat.le_of_ble_eq_true rfl) dX4_swap_21 ⟨Nat.le_of_ble_eq_true rfl, Nat.le_of_ble_eq_true rfl⟩) (Nat.le_of_ble_eq_true rfl) (Nat.le_of_ble_eq_true rfl) (fun r ad' f' H locs hw B => ?_)
      rw [st_00] at hw
      dsimp only at hw
      obtain ⟨rfl, rfl, rfl⟩ := hw
      have B : WB g (aw N ad sz) s.heap N ad (mg g ad y cr dr 0 kn rf pl pz mc) H locs := B
      refine lv_if_eq (tgt := 29) hx hb dX4_swap_24 (by decide) (fun _ => ?_) (fun z => absurd z (by decide))
      refine lv_aload_n hx hb dX4_swap_29 rfl (lv_at hl 0 rfl) ?_
      refine b_get (q := 24) (k := 1) hb0 X hK B rfl in_X4 (by omega) mg_24 (by decide) lk_X4_11 rfl rfl dX4_swap_30 ?_
      refine lv_iload_n hx hb dX4_swap_33 rfl (lv_at hl 1 rfl) ?_
      refine b_aald (q := 25) (t0 := 2) (v := ad (28 + a1.toNatClampNeg)) rfl X hK B (by omega) mg_25 rfl rfl (no_in c2) rfl dX4_swap_34 ?_
      have g5 : a1.toNatClampNeg < 4 := (no_lt c2)
      refine lv_astore_n (lv' := [(3, .ref (ad (28 + a1.toNatClampNeg))), (0, .ref b0), (1, .int a1), (2, .int a2)]) hx hb dX4_swap_35 rfl hl (by decide) rfl (fun ls hl => ?_)
      refine lv_aload_n hx hb dX4_swap_36 rfl (lv_at hl 1 rfl) ?_
      refine lv_iload_n hx hb dX4_swap_37 rfl (lv_at hl 2 rfl) ?_
      refine lv_aload_n hx hb dX4_swap_38 rfl (lv_at hl 1 rfl) ?_
      refine b_get (q := 24) (k := 1) hb0 X hK B rfl in_X4 (by omega) mg_24 (by decide) lk_X4_11 rfl rfl dX4_swap_39 ?_
      refine lv_iload_n hx hb dX4_swap_42 rfl (lv_at hl 3 rfl) ?_
      refine b_aald (q := 25) (t0 := 2) (v := ad (28 + a2.toNatClampNeg)) rfl X hK B (by omega) mg_25 rfl rfl (no_in c4) rfl dX4_swap_43 ?_
      have g6 : a2.toNatClampNeg < 4 := (no_lt c4)
      refine k_i (k := 1) (n := 3) hA B (b_V (q := 24) (rest := []) hb0 X (c_X4_getK l g N ad y cr dr 0 kn rf pl pz mc (by omega) b0 hb0 a1 (28 + a2.toNatClampNeg) (ad (28 + a2.toNatClampNeg)) (cr a2.toNatClampNeg) (pl_cr hN g6) rfl (mg_cr g6) c2 H.size) mw_X4_get md_X4_get rfl lk_X4_103 ⟨Nat.le_of_ble_eq_true rfl, Nat.le_of_ble_eq_true rfl⟩ hA hK hT B (by omega) mg_24 rfl rfl hl.1 rfl (Nat.le_of_ble_eq_true rfl) dX4_swap_44 ⟨Nat.le_of_ble_eq_true rfl, Nat.le_of_ble_eq_true rfl⟩) (Nat.le_of_ble_eq_true rfl) (Nat.le_of_ble_eq_true rfl) (fun r7 ad7 f' H locs hw B => ?_)
      dsimp only at hw
      obtain ⟨kkw, hnw, rfl, rfl⟩ := hw
      have B : WB g (aw N ad sz) s.heap (N + 1) (va_up ad7 N (ad (28 + a1.toNatClampNeg))) (mg g (va_up ad7 N (ad (28 + a1.toNatClampNeg))) (va_up y N (c_row g (cr a1.toNatClampNeg))) (v_X4_getK cr a1 (cr a2.toNatClampNeg)).2 dr 0 kn rf pl pz mc) H locs := WM_re B hnw
      have nbw : ad7 24 = b0 := (kkw 24 (by omega) (Or.inl (by decide))).trans hb0
      refine lv_istore (lv' := [(4, .int (v_X4_getK cr a1 (cr a2.toNatClampNeg)).1), (3, .ref (ad (28 + a1.toNatClampNeg))), (0, .ref b0), (1, .int a1), (2, .int a2)]) hx hb dX4_swap_47 hl (by decide) rfl (fun ls hl => ?_)
      refine lv_aload_n hx hb dX4_swap_49 rfl (lv_at hl 2 rfl) ?_
      refine lv_iload_n hx hb dX4_swap_50 rfl (lv_at hl 4 rfl) ?_
      refine lv_aload_n hx hb dX4_swap_51 rfl (lv_at hl 1 rfl) ?_
      refine k_i (k := 2) (n := 6) hA B (b_V (q := 24) (rest := []) ((up_lt (by omega)).trans nbw) X (c_X4_get l g (N + 1) (va_up ad7 N (ad (28 + a1.toNatClampNeg))) (va_up y N (c_row g (cr a1.toNatClampNeg))) (v_X4_getK cr a1 (cr a2.toNatClampNeg)).2 dr 0 kn rf pl pz mc (by omega) b0 ((up_lt (by omega)).trans nbw) a2 N (ad (28 + a1.toNatClampNeg)) (cr a1.toNatClampNeg) (Nat.lt_succ_self _) up_eq ((mg_hi (by omega)).trans up_eq) c4 H.size) mw_X4_get md_X4_get rfl lk_X4_103 ⟨Nat.le_of_ble_eq_true rfl, Nat.le_of_ble_eq_true rfl⟩ hA hK hT B (by omega) mg_24 rfl rfl hl.1 rfl (Nat.le_of_ble_eq_true rfl) dX4_swap_52 ⟨Nat.le_of_ble_eq_true rfl, Nat.le_of_ble_eq_true rfl⟩) (Nat.le_of_ble_eq_true rfl) (Nat.le_of_ble_eq_true rfl) (fun r8 ad8 f' H locs hw B => ?_)
      dsimp only at hw
      obtain ⟨mv9, rfl, rfl⟩ := hw
      have B : WB g (aw N ad sz) s.heap N ad8 (mg g ad8 y (v_X4_get (v_X4_getK cr a1 (cr a2.toNatClampNeg)).2 a2 (cr a1.toNatClampNeg)).2 dr 0 kn rf pl pz mc) H locs := WM_drop B (by omega) (by omega) (fun _ _ => rfl) (fun _ hk => (up_lt hk))
      have kk10 : ∀ k, k < N → k < 28 ∨ 36 ≤ k → ad8 k = ad k := fun k hk hkq => (mv9 k (by omega) hkq).trans (((fun _ hk => (up_lt hk)) k hk).trans (kkw k hk hkq))
      have nb11 : ad8 24 = b0 := (mv9 24 (by omega) (Or.inl (by decide))).trans ((up_lt (by omega)).trans nbw)
      refine lv_pop hx hb dX4_swap_55 rfl ?_
      refine lv_iload hx hb dX4_swap_56 (lv_at hl 0 rfl) ?_
      have ev := (show v_X4_swap cr a1 a2 = ((v_X4_getK cr a1 (cr a2.toNatClampNeg)).1, (v_X4_get (v_X4_getK cr a1 (cr a2.toNatClampNeg)).2 a2 (cr a1.toNatClampNeg)).2, 0) from by unfold v_X4_swap; rw [if_pos c2, if_pos c4])
      exact rt_i X hr (ad8, mg g ad8 y (v_X4_get (v_X4_getK cr a1 (cr a2.toNatClampNeg)).2 a2 (cr a1.toNatClampNeg)).2 dr 0 kn rf pl pz mc) B (PO_of B) ⟨kk10, by rw [ev], by rw [ev]⟩ rfl (Nat.le_of_ble_eq_true rfl) (Nat.le_of_ble_eq_true rfl) dX4_swap_58
    · refine lv_iconst (v := 1) hx hb dX4_swap_15 (by decide) ?_
      refine lv_goto (tgt := 20) hx hb dX4_swap_16 (by decide) ?_
      refine lv_iconst (v := 0) hx hb dX4_swap_20 (by decide) ?_
      refine k_i (k := 0) (n := 0) hA B (b_V (q := 24) (rest := []) hb0 X (c_X4_stops l g N ad y cr dr th kn rf pl pz mc (by omega) b0 hb0 1 0 H.size) mw_X4_stops md_X4_stops rfl lk_X4_99 ⟨Nat.le_of_ble_eq_true rfl, Nat.le_of_ble_eq_true rfl⟩ hA hK hT B (by omega) mg_24 rfl rfl hl.1 rfl (Nat.le_of_ble_eq_true rfl) dX4_swap_21 ⟨Nat.le_of_ble_eq_true rfl, Nat.le_of_ble_eq_true rfl⟩) (Nat.le_of_ble_eq_true rfl) (Nat.le_of_ble_eq_true rfl) (fun r ad' f' H locs hw B => ?_)
      rw [st_10] at hw
      dsimp only at hw
      obtain ⟨rfl, rfl, rfl⟩ := hw
      have B : WB g (aw N ad sz) s.heap N ad (mg g ad y cr dr 1 kn rf pl pz mc) H locs := B
      refine lv_if_eq (tgt := 29) hx hb dX4_swap_24 (by decide) (fun z => absurd z (by decide)) (fun _ => ?_)
      refine lv_iconst (v := 0) hx hb dX4_swap_27 (by decide) ?_
      have ev := (show v_X4_swap cr a1 a2 = (0, cr, 1) from by unfold v_X4_swap; rw [if_pos c2, if_neg c4])
      exact rt_i X hr (ad, mg g ad y cr dr 1 kn rf pl pz mc) B (PO_of B) ⟨(fun _ _ _ => rfl), by rw [ev], by rw [ev]⟩ rfl (Nat.le_of_ble_eq_true rfl) (Nat.le_of_ble_eq_true rfl) dX4_swap_28
def v_X4_lay (cr : Nat → TR) (rf : Int32) (pl : Nat → TR) (pz : Nat) (mc : Int32) (a1 : Int32) : Int32 × Int32 × Int32 × (Nat → TR) × Nat × Int32 := if v_X4_isNone a1 = 0 then (if (Int32.ofNat (pz - 1)) = 8 then ((v_X4_refuse rf).1, 0, (v_X4_refuse rf).2, pl, pz, mc) else (if pz = 0 then (Int32.ofNat (2 - 1), 0, rf, va_up pl 0 ((cr a1.toNatClampNeg).1, (cr a1.toNatClampNeg).2.1, (cr a1.toNatClampNeg).2.2), 2, mc + 1) else (Int32.ofNat ((pz + 1) - 1), 0, rf, va_up pl (pz - 1) ((cr a1.toNatClampNeg).1, (cr a1.toNatClampNeg).2.1, (cr a1.toNatClampNeg).2.2), (pz + 1), mc + 1))) else (0, 1, rf, pl, pz, mc)
set_option maxHeartbeats 4000000 in
set_option maxRecDepth 100000 in
theorem c_X4_lay (l : Launch) (g : GG) (N : Nat) (ad : Nat → Nat) (y : Nat → va_E) (cr dr : Nat → TR) (th kn rf : Int32) (pl : Nat → TR) (pz : Nat) (mc : Int32) (hN : 36 + pz ≤ N) (b0 : Nat) (hb0 : ad 24 = b0) (a1 : Int32) (hz : pz ≤ 9) (hNe : N = 36 + pz) : KI l yX4_lay cX4_lay 2 (some .int) (rm 5 2 13) g [.ref b0, .int a1] N ad (mg g ad y cr dr th kn rf pl pz mc) (36 + (v_X4_lay cr rf pl pz mc a1).2.2.2.2.1) (fun r ad' f' => (∀ k, k < N → k < 28 ∨ 36 ≤ k → ad' k = ad k) ∧ (v_X4_lay cr rf pl pz mc a1).1 = r ∧ mg g ad' y cr dr (v_X4_lay cr rf pl pz mc a1).2.1 kn (v_X4_lay cr rf pl pz mc a1).2.2.1 (v_X4_lay cr rf pl pz mc a1).2.2.2.1 (v_X4_lay cr rf pl pz mc a1).2.2.2.2.1 (v_X4_lay cr rf pl pz mc a1).2.2.2.2.2 = f') := by
  intro sz
  refine mt_start (by decide) (Nat.le_of_ble_eq_true rfl) ?_
  intro p e s m args below meth c hsz X hr hnam hA hK hT H locs B ls hl
  obtain ⟨hx, hb, hml, hown, hts, hlocks⟩ := id X
  have hl : lv_has ls 2 [(0, .ref b0), (1, .int a1)] := hl
  refine lv_aload_n hx hb dX4_lay_0 rfl (lv_at hl 0 rfl) ?_
  refine lv_iload_n hx hb dX4_lay_1 rfl (lv_at hl 1 rfl) ?_
  refine k_i (k := 0) (n := 0) hA B (u_S (rest := [.ref b0]) X (c_X4_isNone l g N ad (mg g ad y cr dr th kn rf pl pz mc) a1 H.size) mw_X4_isNone md_X4_isNone rfl lk_X4_95 ⟨Nat.le_of_ble_eq_true rfl, Nat.le_of_ble_eq_true rfl⟩ hA hK hT B hl.1 rfl (Nat.le_of_ble_eq_true rfl) dX4_lay_2 ⟨Nat.le_of_ble_eq_true rfl, Nat.le_of_ble_eq_true rfl⟩) (Nat.le_of_ble_eq_true rfl) (Nat.le_of_ble_eq_true rfl) (fun r1 ad1 f' H locs hw B => ?_)
  obtain ⟨rfl, rfl, rfl⟩ := hw
  refine lv_iconst (v := 0) hx hb dX4_lay_5 (by decide) ?_
  by_cases s2 : v_X4_isNone a1 = 0
  · rw [s2]
    refine k_i (k := 0) (n := 0) hA B (b_V (q := 24) (rest := []) hb0 X (c_X4_stops l g N ad y cr dr th kn rf pl pz mc (by omega) b0 hb0 0 0 H.size) mw_X4_stops md_X4_stops rfl lk_X4_99 ⟨Nat.le_of_ble_eq_true rfl, Nat.le_of_ble_eq_true rfl⟩ hA hK hT B (by omega) mg_24 rfl rfl hl.1 rfl (Nat.le_of_ble_eq_true rfl) dX4_lay_6 ⟨Nat.le_of_ble_eq_true rfl, Nat.le_of_ble_eq_true rfl⟩) (Nat.le_of_ble_eq_true rfl) (Nat.le_of_ble_eq_true rfl) (fun r ad' f' H locs hw B => ?_)
    rw [st_00] at hw
    dsimp only at hw
    obtain ⟨rfl, rfl, rfl⟩ := hw
    have B : WB g (aw N ad sz) s.heap N ad (mg g ad y cr dr 0 kn rf pl pz mc) H locs := B
    refine lv_if_eq (tgt := 14) hx hb dX4_lay_9 (by decide) (fun _ => ?_) (fun z => absurd z (by decide))
    refine lv_aload_n hx hb dX4_lay_14 rfl (lv_at hl 0 rfl) ?_
    refine b_get (q := 24) (k := 2) hb0 X hK B rfl in_X4 (by omega) mg_24 (by decide) lk_X4_17 rfl rfl dX4_lay_15 ?_
    refine k_i (k := 0) (n := 0) hA B (b_V (q := 27) (rest := []) rfl X (c_L_size l g N ad (mg g ad y cr dr 0 kn rf pl pz mc) 27 (ad 27) (by omega) rfl mc (Int32.ofNat (pz - 1)) _ mg_27 H.size) mw_Jx4a65c_size_8abf5 md_Jx4a65c_size_8abf5 rfl lk_X4_128 ⟨Nat.le_of_ble_eq_true rfl, Nat.le_of_ble_eq_true rfl⟩ hA hK hT B (by omega) mg_27 rfl rfl hl.1 rfl (Nat.le_of_ble_eq_true rfl) dX4_lay_18 ⟨Nat.le_of_ble_eq_true rfl, Nat.le_of_ble_eq_true rfl⟩) (Nat.le_of_ble_eq_true rfl) (Nat.le_of_ble_eq_true rfl) (fun r ad' f' H locs hw B => ?_)
    obtain ⟨rfl, rfl, rfl⟩ := hw
    refine lv_bipush (v := 8) hx hb dX4_lay_21 (by decide) ?_
    refine lv_icmp_ne (tgt := 31) hx hb dX4_lay_23 (by decide) (fun c3 => ?_) (fun c3 => ?_)
    · refine lv_aload_n hx hb dX4_lay_31 rfl (lv_at hl 0 rfl) ?_
      refine b_get (q := 24) (k := 2) hb0 X hK B rfl in_X4 (by omega) mg_24 (by decide) lk_X4_17 rfl rfl dX4_lay_32 ?_
      refine lv_iconst (v := 3) hx hb dX4_lay_35 (by decide) ?_
      refine h_new3 (cz := 1) (sz := 3) X hA hK B (Nat.le_of_ble_eq_true rfl) (Nat.le_of_ble_eq_true rfl) (Nat.le_of_ble_eq_true rfl) (Nat.le_of_ble_eq_true rfl) dX4_lay_36 (fun z4 H B => ?_)
      have B : WB g (aw N ad sz) s.heap (N + 1) (va_up ad N z4) (mg g (va_up ad N z4) (va_up y N (c_row g (0, 0, 0))) cr dr 0 kn rf pl pz mc) H locs := WM_push (by omega) B
      refine lv_dup hx hb dX4_lay_38 rfl ?_
      refine lv_iconst (v := 0) hx hb dX4_lay_39 (by decide) ?_
      refine lv_aload_n hx hb dX4_lay_40 rfl (lv_at hl 0 rfl) ?_
      refine b_get (q := 24) (k := 1) ((up_lt (by omega)).trans hb0) X hK B rfl in_X4 (by omega) mg_24 (by decide) lk_X4_11 rfl rfl dX4_lay_41 ?_
      refine lv_iload_n hx hb dX4_lay_44 rfl (lv_at hl 1 rfl) ?_
      refine b_aald (q := 25) (t0 := 2) (v := (va_up ad N z4) (28 + a1.toNatClampNeg)) rfl X hK B (by omega) mg_25 rfl rfl (no_in s2) rfl dX4_lay_45 ?_
      have g5 : a1.toNatClampNeg < 4 := (no_lt s2)
      rw [show (va_up ad N z4) (28 + a1.toNatClampNeg) = ad (28 + a1.toNatClampNeg) from (up_lt (by omega))]
      refine lv_iconst (v := 0) hx hb dX4_lay_46 (by decide) ?_
      refine h_ld0 X hK B (Nat.lt_succ_of_lt (pl_cr hN g5)) ((up_lt (pl_cr hN g5)).trans rfl) (mg_cr g5) dX4_lay_47 ?_
      refine h_st (t := (0, 0, 0)) (t' := ((cr a1.toNatClampNeg).1, 0, 0)) X hK B (Nat.lt_succ_self _) up_eq ((mg_hi (by omega)).trans up_eq) (by unfold vp_in; decide) (rw3_s0 _ _) dX4_lay_48 (fun H locs B => ?_)
      rw [mg_yup (by omega), bx_uu] at B
      refine lv_dup hx hb dX4_lay_49 rfl ?_
      refine lv_iconst (v := 1) hx hb dX4_lay_50 (by decide) ?_
      refine lv_aload_n hx hb dX4_lay_51 rfl (lv_at hl 0 rfl) ?_
      refine b_get (q := 24) (k := 1) ((up_lt (by omega)).trans hb0) X hK B rfl in_X4 (by omega) mg_24 (by decide) lk_X4_11 rfl rfl dX4_lay_52 ?_
      refine lv_iload_n hx hb dX4_lay_55 rfl (lv_at hl 1 rfl) ?_
      refine b_aald (q := 25) (t0 := 2) (v := (va_up ad N z4) (28 + a1.toNatClampNeg)) rfl X hK B (by omega) mg_25 rfl rfl (no_in s2) rfl dX4_lay_56 ?_
      have g6 : a1.toNatClampNeg < 4 := (no_lt s2)
      rw [show (va_up ad N z4) (28 + a1.toNatClampNeg) = ad (28 + a1.toNatClampNeg) from (up_lt (by omega))]
      refine lv_iconst (v := 1) hx hb dX4_lay_57 (by decide) ?_
      refine h_ld1 X hK B (Nat.lt_succ_of_lt (pl_cr hN g6)) ((up_lt (pl_cr hN g6)).trans rfl) (mg_cr g6) dX4_lay_58 ?_
      refine h_st (t := ((cr a1.toNatClampNeg).1, 0, 0)) (t' := ((cr a1.toNatClampNeg).1, (cr a1.toNatClampNeg).2.1, 0)) X hK B (Nat.lt_succ_self _) up_eq ((mg_hi (by omega)).trans up_eq) (by unfold vp_in; decide) (rw3_s1 _ _) dX4_lay_59 (fun H locs B => ?_)
      rw [mg_yup (by omega), bx_uu] at B
      refine lv_dup hx hb dX4_lay_60 rfl ?_
      refine lv_iconst (v := 2) hx hb dX4_lay_61 (by decide) ?_
      refine lv_aload_n hx hb dX4_lay_62 rfl (lv_at hl 0 rfl) ?_
      refine b_get (q := 24) (k := 1) ((up_lt (by omega)).trans hb0) X hK B rfl in_X4 (by omega) mg_24 (by decide) lk_X4_11 rfl rfl dX4_lay_63 ?_
      refine lv_iload_n hx hb dX4_lay_66 rfl (lv_at hl 1 rfl) ?_
      refine b_aald (q := 25) (t0 := 2) (v := (va_up ad N z4) (28 + a1.toNatClampNeg)) rfl X hK B (by omega) mg_25 rfl rfl (no_in s2) rfl dX4_lay_67 ?_
      have g7 : a1.toNatClampNeg < 4 := (no_lt s2)
      rw [show (va_up ad N z4) (28 + a1.toNatClampNeg) = ad (28 + a1.toNatClampNeg) from (up_lt (by omega))]
      refine lv_iconst (v := 2) hx hb dX4_lay_68 (by decide) ?_
      refine h_ld2 X hK B (Nat.lt_succ_of_lt (pl_cr hN g7)) ((up_lt (pl_cr hN g7)).trans rfl) (mg_cr g7) dX4_lay_69 ?_
      refine h_st (t := ((cr a1.toNatClampNeg).1, (cr a1.toNatClampNeg).2.1, 0)) (t' := ((cr a1.toNatClampNeg).1, (cr a1.toNatClampNeg).2.1, (cr a1.toNatClampNeg).2.2)) X hK B (Nat.lt_succ_self _) up_eq ((mg_hi (by omega)).trans up_eq) (by unfold vp_in; decide) (rw3_s2 _ _) dX4_lay_70 (fun H locs B => ?_)
      rw [mg_yup (by omega), bx_uu] at B
      by_cases hp : pz = 0
      · refine k_i (k := 2) (n := 13) hA B (b_V (q := 27) (rest := []) (up_lt (by omega)) X (c_L_addZ l g (N + 1) (va_up ad N z4) (mg g (va_up ad N z4) (va_up y N (c_row g ((cr a1.toNatClampNeg).1, (cr a1.toNatClampNeg).2.1, (cr a1.toNatClampNeg).2.2))) cr dr 0 kn rf pl pz mc) 27 (ad 27) (by omega) (up_lt (by omega)) mc (mg_27z hp) N z4 ((cr a1.toNatClampNeg).1, (cr a1.toNatClampNeg).2.1, (cr a1.toNatClampNeg).2.2) (Nat.lt_succ_self _) up_eq ((mg_hi (by omega)).trans up_eq) (by omega) H.size) mw_Jx4a65c_add_9ea2d md_Jx4a65c_add_9ea2d rfl lk_X4_131 ⟨Nat.le_of_ble_eq_true rfl, Nat.le_of_ble_eq_true rfl⟩ hA hK hT B (by omega) (mg_27z hp) rfl rfl hl.1 rfl (Nat.le_of_ble_eq_true rfl) dX4_lay_71 ⟨Nat.le_of_ble_eq_true rfl, Nat.le_of_ble_eq_true rfl⟩) (Nat.le_of_ble_eq_true rfl) (Nat.le_of_ble_eq_true rfl) (fun r ad' f' H locs hw B => ?_)
        obtain ⟨zz8, rfl, rfl⟩ := hw
        have B : WB g (aw N ad sz) s.heap (36 + 2) (va_up (va_up ad 36 zz8) 37 z4) (mg g (va_up (va_up ad 36 zz8) 37 z4) y cr dr 0 kn rf (va_up pl 0 ((cr a1.toNatClampNeg).1, (cr a1.toNatClampNeg).2.1, (cr a1.toNatClampNeg).2.2)) 2 (mc + 1)) H locs := WM_layZ (t := ((cr a1.toNatClampNeg).1, (cr a1.toNatClampNeg).2.1, (cr a1.toNatClampNeg).2.2)) (hh := va_up (fun _ => none) (0 : Int32).toNatClampNeg (some z4)) (a := z4) (z := zz8) (adA := (va_up ad N z4)) (yA := (va_up y N (c_row g ((cr a1.toNatClampNeg).1, (cr a1.toNatClampNeg).2.1, (cr a1.toNatClampNeg).2.2)))) (show N = 36 by omega) B ((va_up_ne _ _ (by omega)).trans (va_up_self _ _ _)) (va_up_self _ _ _) (by decide) (fun k hk => (va_up_ne _ _ (by omega)).trans (va_up_ne _ _ (by omega))) (fun k hk => va_up_ne _ _ (by omega)) (fun k hk => va_up_ne _ _ (by omega)) (va_up_self _ _ _) ((va_up_ne _ _ (by omega)).trans (va_up_self _ _ _)) (by rw [show (0 : Int32).toNatClampNeg = 0 from by decide, va_up_self]) (fun j hj => by rw [show (0 : Int32).toNatClampNeg = 0 from by decide]; exact va_up_ne _ _ (by omega)) (by rw [va_up_ne _ _ (by omega), va_up_ne _ _ (by omega), va_up_ne _ _ (by omega), va_up_ne _ _ (by omega), va_up_ne _ _ (by omega), mg_hi (by omega), va_up_self]) (fun k hk h7 => by rw [va_up_ne _ _ (by omega), va_up_ne _ _ (by omega), va_up_ne _ _ (by omega), va_up_ne _ _ (by omega), va_up_ne _ _ (by omega)])
        have hkm : ∀ k, k < N → k < 28 ∨ 36 ≤ k → (va_up (va_up ad 36 zz8) 37 z4) k = ad k := fun k hk _ => (va_up_ne _ _ (by omega)).trans (va_up_ne _ _ (by omega))
        have hbm : (va_up (va_up ad 36 zz8) 37 z4) 24 = b0 := ((va_up_ne _ _ (by omega)).trans (va_up_ne _ _ (by omega))).trans hb0
        refine lv_pop hx hb dX4_lay_74 rfl ?_
        refine lv_aload_n hx hb dX4_lay_75 rfl (lv_at hl 0 rfl) ?_
        refine b_get (q := 24) (k := 2) hbm X hK B rfl in_X4 (by omega) mg_24 (by decide) lk_X4_17 rfl rfl dX4_lay_76 ?_
        refine k_i (k := 2) (n := 13) hA B (b_V (q := 27) (rest := []) rfl X (c_L_size l g (36 + 2) (va_up (va_up ad 36 zz8) 37 z4) (mg g (va_up (va_up ad 36 zz8) 37 z4) y cr dr 0 kn rf (va_up pl 0 ((cr a1.toNatClampNeg).1, (cr a1.toNatClampNeg).2.1, (cr a1.toNatClampNeg).2.2)) 2 (mc + 1)) 27 ((va_up (va_up ad 36 zz8) 37 z4) 27) (by omega) rfl (mc + 1) (Int32.ofNat (2 - 1)) _ mg_27 H.size) mw_Jx4a65c_size_8abf5 md_Jx4a65c_size_8abf5 rfl lk_X4_128 ⟨Nat.le_of_ble_eq_true rfl, Nat.le_of_ble_eq_true rfl⟩ hA hK hT B (by omega) mg_27 rfl rfl hl.1 rfl (Nat.le_of_ble_eq_true rfl) dX4_lay_79 ⟨Nat.le_of_ble_eq_true rfl, Nat.le_of_ble_eq_true rfl⟩) (Nat.le_of_ble_eq_true rfl) (Nat.le_of_ble_eq_true rfl) (fun r ad' f' H locs hw B => ?_)
        obtain ⟨rfl, rfl, rfl⟩ := hw
        have ev := (show v_X4_lay cr rf pl pz mc a1 = (Int32.ofNat (2 - 1), 0, rf, va_up pl 0 ((cr a1.toNatClampNeg).1, (cr a1.toNatClampNeg).2.1, (cr a1.toNatClampNeg).2.2), 2, mc + 1) from by unfold v_X4_lay; rw [if_pos s2, if_neg c3, if_pos hp])
        exact rt_i X hr ((va_up (va_up ad 36 zz8) 37 z4), mg g (va_up (va_up ad 36 zz8) 37 z4) y cr dr 0 kn rf (va_up pl 0 ((cr a1.toNatClampNeg).1, (cr a1.toNatClampNeg).2.1, (cr a1.toNatClampNeg).2.2)) 2 (mc + 1)) B (by rw [ev]; exact PO_of B) ⟨hkm, by rw [ev], by rw [ev]⟩ rfl (Nat.le_of_ble_eq_true rfl) (Nat.le_of_ble_eq_true rfl) dX4_lay_82
      · have hp8 : pz ≤ 8 := sz_ne hz c3
        refine k_i (k := 1) (n := 3) hA B (b_V (q := 27) (rest := []) (up_lt (by omega)) X (c_L_add l g (N + 1) (va_up ad N z4) (mg g (va_up ad N z4) (va_up y N (c_row g ((cr a1.toNatClampNeg).1, (cr a1.toNatClampNeg).2.1, (cr a1.toNatClampNeg).2.2))) cr dr 0 kn rf pl pz mc) 27 (ad 27) (by omega) (up_lt (by omega)) mc (Int32.ofNat (pz - 1)) ((va_up ad N z4) 36) (mg_27p (by omega)) 36 10 (fun j => if j + 1 < pz then some ((va_up ad N z4) (37 + j)) else none) (by omega) rfl (mg_ed (by omega)) (by decide) N z4 ((cr a1.toNatClampNeg).1, (cr a1.toNatClampNeg).2.1, (cr a1.toNatClampNeg).2.2) (Nat.lt_succ_self _) up_eq ((mg_hi (by omega)).trans up_eq) (by omega) (by omega) (sz_full (by omega)) (sz_in (by omega)) H.size) mw_Jx4a65c_add_9ea2d md_Jx4a65c_add_9ea2d rfl lk_X4_131 ⟨Nat.le_of_ble_eq_true rfl, Nat.le_of_ble_eq_true rfl⟩ hA hK hT B (by omega) (mg_27p (by omega)) rfl rfl hl.1 rfl (Nat.le_of_ble_eq_true rfl) dX4_lay_71 ⟨Nat.le_of_ble_eq_true rfl, Nat.le_of_ble_eq_true rfl⟩) (Nat.le_of_ble_eq_true rfl) (Nat.le_of_ble_eq_true rfl) (fun r ad' f' H locs hw B => ?_)
        obtain ⟨rfl, rfl⟩ := hw
        have B : WB g (aw N ad sz) s.heap (36 + (pz + 1)) (va_up ad N z4) (mg g (va_up ad N z4) y cr dr 0 kn rf (va_up pl (pz - 1) ((cr a1.toNatClampNeg).1, (cr a1.toNatClampNeg).2.1, (cr a1.toNatClampNeg).2.2)) (pz + 1) (mc + 1)) H locs := WM_lay (t := ((cr a1.toNatClampNeg).1, (cr a1.toNatClampNeg).2.1, (cr a1.toNatClampNeg).2.2)) (a := z4) (adA := (va_up ad N z4)) (yA := (va_up y N (c_row g ((cr a1.toNatClampNeg).1, (cr a1.toNatClampNeg).2.1, (cr a1.toNatClampNeg).2.2)))) (show 0 < pz by omega) hp8 hNe B (va_up_self _ _ _) (va_up_ne _ _ (show (36 : Nat) ≠ N by omega)).symm (fun k hk => va_up_ne _ _ (by omega)) (fun k hk => va_up_ne _ _ (by omega)) (fun k hk => va_up_ne _ _ (by omega)) (va_up_self _ _ _) ((va_up_ne _ _ (by decide)).trans (va_up_self _ _ _)) (by rw [sz_clamp (by omega), va_up_self]) (fun j hj => by rw [sz_clamp (by omega), va_up_ne _ _ hj]; exact ite_pl (fun hj2 => va_up_ne _ _ (by omega))) (by rw [va_up_ne _ _ (by omega), va_up_ne _ _ (by omega), va_up_ne _ _ (by omega), mg_hi (by omega), va_up_self]) (fun k hk h7 h6 => by rw [va_up_ne _ _ (by omega), va_up_ne _ _ (by omega), va_up_ne _ _ (by omega)])
        have hkm : ∀ k, k < N → k < 28 ∨ 36 ≤ k → (va_up ad N z4) k = ad k := fun k hk _ => va_up_ne _ _ (by omega)
        have hbm : (va_up ad N z4) 24 = b0 := (va_up_ne _ _ (by omega)).trans hb0
        refine lv_pop hx hb dX4_lay_74 rfl ?_
        refine lv_aload_n hx hb dX4_lay_75 rfl (lv_at hl 0 rfl) ?_
        refine b_get (q := 24) (k := 2) hbm X hK B rfl in_X4 (by omega) mg_24 (by decide) lk_X4_17 rfl rfl dX4_lay_76 ?_
        refine k_i (k := 1) (n := 3) hA B (b_V (q := 27) (rest := []) rfl X (c_L_size l g (36 + (pz + 1)) (va_up ad N z4) (mg g (va_up ad N z4) y cr dr 0 kn rf (va_up pl (pz - 1) ((cr a1.toNatClampNeg).1, (cr a1.toNatClampNeg).2.1, (cr a1.toNatClampNeg).2.2)) (pz + 1) (mc + 1)) 27 ((va_up ad N z4) 27) (by omega) rfl (mc + 1) (Int32.ofNat ((pz + 1) - 1)) _ mg_27 H.size) mw_Jx4a65c_size_8abf5 md_Jx4a65c_size_8abf5 rfl lk_X4_128 ⟨Nat.le_of_ble_eq_true rfl, Nat.le_of_ble_eq_true rfl⟩ hA hK hT B (by omega) mg_27 rfl rfl hl.1 rfl (Nat.le_of_ble_eq_true rfl) dX4_lay_79 ⟨Nat.le_of_ble_eq_true rfl, Nat.le_of_ble_eq_true rfl⟩) (Nat.le_of_ble_eq_true rfl) (Nat.le_of_ble_eq_true rfl) (fun r ad' f' H locs hw B => ?_)
        obtain ⟨rfl, rfl, rfl⟩ := hw
        have ev := (show v_X4_lay cr rf pl pz mc a1 = (Int32.ofNat ((pz + 1) - 1), 0, rf, va_up pl (pz - 1) ((cr a1.toNatClampNeg).1, (cr a1.toNatClampNeg).2.1, (cr a1.toNatClampNeg).2.2), (pz + 1), mc + 1) from by unfold v_X4_lay; rw [if_pos s2, if_neg c3, if_neg hp])
        exact rt_i X hr ((va_up ad N z4), mg g (va_up ad N z4) y cr dr 0 kn rf (va_up pl (pz - 1) ((cr a1.toNatClampNeg).1, (cr a1.toNatClampNeg).2.1, (cr a1.toNatClampNeg).2.2)) (pz + 1) (mc + 1)) B (by rw [ev]; exact PO_of B) ⟨hkm, by rw [ev], by rw [ev]⟩ rfl (Nat.le_of_ble_eq_true rfl) (Nat.le_of_ble_eq_true rfl) dX4_lay_82
    · refine lv_aload_n hx hb dX4_lay_26 rfl (lv_at hl 0 rfl) ?_
      refine k_i (k := 0) (n := 0) hA B (b_V (q := 24) (rest := []) hb0 X (c_X4_refuse l g N ad y cr dr 0 kn rf pl pz mc (by omega) b0 hb0 H.size) mw_X4_refuse md_X4_refuse rfl lk_X4_83 ⟨Nat.le_of_ble_eq_true rfl, Nat.le_of_ble_eq_true rfl⟩ hA hK hT B (by omega) mg_24 rfl rfl hl.1 rfl (Nat.le_of_ble_eq_true rfl) dX4_lay_27 ⟨Nat.le_of_ble_eq_true rfl, Nat.le_of_ble_eq_true rfl⟩) (Nat.le_of_ble_eq_true rfl) (Nat.le_of_ble_eq_true rfl) (fun r9 ad9 f' H locs hw B => ?_)
      obtain ⟨rfl, rfl, rfl⟩ := hw
      have B : WB g (aw N ad sz) s.heap (36 + pz) ad (mg g ad y cr dr 0 kn (v_X4_refuse rf).2 pl pz mc) H locs := WM_drop B (by omega) (by omega) (fun _ _ => rfl) (fun _ _ => rfl)
      have ev := (show v_X4_lay cr rf pl pz mc a1 = ((v_X4_refuse rf).1, 0, (v_X4_refuse rf).2, pl, pz, mc) from by unfold v_X4_lay; rw [if_pos s2, if_pos c3])
      exact rt_i X hr (ad, mg g ad y cr dr 0 kn (v_X4_refuse rf).2 pl pz mc) B (by rw [ev]; exact PO_of B) ⟨(fun _ _ _ => rfl), by rw [ev], by rw [ev]⟩ rfl (Nat.le_of_ble_eq_true rfl) (Nat.le_of_ble_eq_true rfl) dX4_lay_30
  · have s2x : (v_X4_isNone a1) = 1 := (b01_X4_isNone).resolve_left s2
    rw [s2x]
    refine k_i (k := 0) (n := 0) hA B (b_V (q := 24) (rest := []) hb0 X (c_X4_stops l g N ad y cr dr th kn rf pl pz mc (by omega) b0 hb0 1 0 H.size) mw_X4_stops md_X4_stops rfl lk_X4_99 ⟨Nat.le_of_ble_eq_true rfl, Nat.le_of_ble_eq_true rfl⟩ hA hK hT B (by omega) mg_24 rfl rfl hl.1 rfl (Nat.le_of_ble_eq_true rfl) dX4_lay_6 ⟨Nat.le_of_ble_eq_true rfl, Nat.le_of_ble_eq_true rfl⟩) (Nat.le_of_ble_eq_true rfl) (Nat.le_of_ble_eq_true rfl) (fun r ad' f' H locs hw B => ?_)
    rw [st_10] at hw
    dsimp only at hw
    obtain ⟨rfl, rfl, rfl⟩ := hw
    have B : WB g (aw N ad sz) s.heap N ad (mg g ad y cr dr 1 kn rf pl pz mc) H locs := B
    refine lv_if_eq (tgt := 14) hx hb dX4_lay_9 (by decide) (fun z => absurd z (by decide)) (fun _ => ?_)
    refine lv_iconst (v := 0) hx hb dX4_lay_12 (by decide) ?_
    have B : WB g (aw N ad sz) s.heap (36 + pz) ad (mg g ad y cr dr 1 kn rf pl pz mc) H locs := WM_drop B (by omega) (by omega) (fun _ _ => rfl) (fun _ _ => rfl)
    have ev := (show v_X4_lay cr rf pl pz mc a1 = (0, 1, rf, pl, pz, mc) from by unfold v_X4_lay; rw [if_neg s2])
    exact rt_i X hr (ad, mg g ad y cr dr 1 kn rf pl pz mc) B (by rw [ev]; exact PO_of B) ⟨(fun _ _ _ => rfl), by rw [ev], by rw [ev]⟩ rfl (Nat.le_of_ble_eq_true rfl) (Nat.le_of_ble_eq_true rfl) dX4_lay_13
def v_X4_take (cr : Nat → TR) (rf : Int32) (pl : Nat → TR) (pz : Nat) (mc : Int32) (a1 : Int32) : Int32 × (Nat → TR) × Int32 × Int32 × Nat × Int32 := if v_X4_isNone a1 = 0 then (if (if Int32.ofNat (pz - 1) = 0 then (1 : Int32) else 0) = 0 then (Int32.ofNat ((pz - 1) - 1), (v_X4_get cr a1 (pl (pz - 1 - 1))).2, 0, rf, (pz - 1), mc + 1) else ((v_X4_refuse rf).1, cr, 0, (v_X4_refuse rf).2, pz, mc)) else (0, cr, 1, rf, pz, mc)
set_option maxHeartbeats 4000000 in
set_option maxRecDepth 100000 in
theorem c_X4_take (l : Launch) (g : GG) (N : Nat) (ad : Nat → Nat) (y : Nat → va_E) (cr dr : Nat → TR) (th kn rf : Int32) (pl : Nat → TR) (pz : Nat) (mc : Int32) (hN : 36 + pz ≤ N) (b0 : Nat) (hb0 : ad 24 = b0) (a1 : Int32) (hz : pz ≤ 9) (hNe : N = 36 + pz) : KI l yX4_take cX4_take 2 (some .int) (rm 3 1 3) g [.ref b0, .int a1] N ad (mg g ad y cr dr th kn rf pl pz mc) (36 + (v_X4_take cr rf pl pz mc a1).2.2.2.2.1) (fun r ad' f' => (∀ k, k < N → k < 28 ∨ 36 ≤ k → ad' k = ad k) ∧ (v_X4_take cr rf pl pz mc a1).1 = r ∧ mg g ad' y (v_X4_take cr rf pl pz mc a1).2.1 dr (v_X4_take cr rf pl pz mc a1).2.2.1 kn (v_X4_take cr rf pl pz mc a1).2.2.2.1 pl (v_X4_take cr rf pl pz mc a1).2.2.2.2.1 (v_X4_take cr rf pl pz mc a1).2.2.2.2.2 = f') := by
  intro sz
  refine mt_start (by decide) (Nat.le_of_ble_eq_true rfl) ?_
  intro p e s m args below meth c hsz X hr hnam hA hK hT H locs B ls hl
  obtain ⟨hx, hb, hml, hown, hts, hlocks⟩ := id X
  have hl : lv_has ls 2 [(0, .ref b0), (1, .int a1)] := hl
  refine lv_aload_n hx hb dX4_take_0 rfl (lv_at hl 0 rfl) ?_
  refine lv_iload_n hx hb dX4_take_1 rfl (lv_at hl 1 rfl) ?_
  refine k_i (k := 0) (n := 0) hA B (u_S (rest := [.ref b0]) X (c_X4_isNone l g N ad (mg g ad y cr dr th kn rf pl pz mc) a1 H.size) mw_X4_isNone md_X4_isNone rfl lk_X4_95 ⟨Nat.le_of_ble_eq_true rfl, Nat.le_of_ble_eq_true rfl⟩ hA hK hT B hl.1 rfl (Nat.le_of_ble_eq_true rfl) dX4_take_2 ⟨Nat.le_of_ble_eq_true rfl, Nat.le_of_ble_eq_true rfl⟩) (Nat.le_of_ble_eq_true rfl) (Nat.le_of_ble_eq_true rfl) (fun r1 ad1 f' H locs hw B => ?_)
  obtain ⟨rfl, rfl, rfl⟩ := hw
  refine lv_iconst (v := 0) hx hb dX4_take_5 (by decide) ?_
  by_cases s2 : v_X4_isNone a1 = 0
  · rw [s2]
    refine k_i (k := 0) (n := 0) hA B (b_V (q := 24) (rest := []) hb0 X (c_X4_stops l g N ad y cr dr th kn rf pl pz mc (by omega) b0 hb0 0 0 H.size) mw_X4_stops md_X4_stops rfl lk_X4_99 ⟨Nat.le_of_ble_eq_true rfl, Nat.le_of_ble_eq_true rfl⟩ hA hK hT B (by omega) mg_24 rfl rfl hl.1 rfl (Nat.le_of_ble_eq_true rfl) dX4_take_6 ⟨Nat.le_of_ble_eq_true rfl, Nat.le_of_ble_eq_true rfl⟩) (Nat.le_of_ble_eq_true rfl) (Nat.le_of_ble_eq_true rfl) (fun r ad' f' H locs hw B => ?_)
    rw [st_00] at hw
    dsimp only at hw
    obtain ⟨rfl, rfl, rfl⟩ := hw
    have B : WB g (aw N ad sz) s.heap N ad (mg g ad y cr dr 0 kn rf pl pz mc) H locs := B
    refine lv_if_eq (tgt := 14) hx hb dX4_take_9 (by decide) (fun _ => ?_) (fun z => absurd z (by decide))
    refine lv_aload_n hx hb dX4_take_14 rfl (lv_at hl 0 rfl) ?_
    refine b_get (q := 24) (k := 2) hb0 X hK B rfl in_X4 (by omega) mg_24 (by decide) lk_X4_17 rfl rfl dX4_take_15 ?_
    refine k_i (k := 0) (n := 0) hA B (b_V (q := 27) (rest := []) rfl X (c_L_isEmpty l g N ad (mg g ad y cr dr 0 kn rf pl pz mc) 27 (ad 27) (by omega) rfl mc (Int32.ofNat (pz - 1)) _ mg_27 H.size) mw_Jx4a65c_isEmpty_aae02 md_Jx4a65c_isEmpty_aae02 rfl lk_X4_135 ⟨Nat.le_of_ble_eq_true rfl, Nat.le_of_ble_eq_true rfl⟩ hA hK hT B (by omega) mg_27 rfl rfl hl.1 rfl (Nat.le_of_ble_eq_true rfl) dX4_take_18 ⟨Nat.le_of_ble_eq_true rfl, Nat.le_of_ble_eq_true rfl⟩) (Nat.le_of_ble_eq_true rfl) (Nat.le_of_ble_eq_true rfl) (fun r ad' f' H locs hw B => ?_)
    obtain ⟨rfl, rfl, rfl⟩ := hw
    refine lv_if_eq (tgt := 29) hx hb dX4_take_21 (by decide) (fun c3 => ?_) (fun c3 => ?_)
    · refine lv_aload_n hx hb dX4_take_29 rfl (lv_at hl 0 rfl) ?_
      refine lv_iload_n hx hb dX4_take_30 rfl (lv_at hl 1 rfl) ?_
      refine lv_aload_n hx hb dX4_take_31 rfl (lv_at hl 0 rfl) ?_
      refine b_get (q := 24) (k := 2) hb0 X hK B rfl in_X4 (by omega) mg_24 (by decide) lk_X4_17 rfl rfl dX4_take_32 ?_
      refine lv_aload_n hx hb dX4_take_35 rfl (lv_at hl 0 rfl) ?_
      refine b_get (q := 24) (k := 2) hb0 X hK B rfl in_X4 (by omega) mg_24 (by decide) lk_X4_17 rfl rfl dX4_take_36 ?_
      refine k_i (k := 0) (n := 0) hA B (b_V (q := 27) (rest := [.ref (ad 27), .int a1, .ref b0]) rfl X (c_L_size l g N ad (mg g ad y cr dr 0 kn rf pl pz mc) 27 (ad 27) (by omega) rfl mc (Int32.ofNat (pz - 1)) _ mg_27 H.size) mw_Jx4a65c_size_8abf5 md_Jx4a65c_size_8abf5 rfl lk_X4_128 ⟨Nat.le_of_ble_eq_true rfl, Nat.le_of_ble_eq_true rfl⟩ hA hK hT B (by omega) mg_27 rfl rfl hl.1 rfl (Nat.le_of_ble_eq_true rfl) dX4_take_39 ⟨Nat.le_of_ble_eq_true rfl, Nat.le_of_ble_eq_true rfl⟩) (Nat.le_of_ble_eq_true rfl) (Nat.le_of_ble_eq_true rfl) (fun r ad' f' H locs hw B => ?_)
      obtain ⟨rfl, rfl, rfl⟩ := hw
      refine lv_iconst (v := 1) hx hb dX4_take_42 (by decide) ?_
      refine lv_isub hx hb dX4_take_43 ?_
      have h2z : 2 ≤ pz := sz_zero c3
      have hpd : Int32.ofNat (pz - 1) - 1 = Int32.ofNat (pz - 1 - 1) := sz_pred (by omega)
      rw [hpd]
      refine k_r (k := 0) (n := 0) hA B (b_V (q := 27) (rest := [.int a1, .ref b0]) rfl X (c_L_remove l g N ad (mg g ad y cr dr 0 kn rf pl pz mc) 27 (ad 27) (by omega) rfl mc (Int32.ofNat (pz - 1)) (ad 36) (mg_27p (by omega)) 36 10 (fun j => if j + 1 < pz then some (ad (37 + j)) else none) (by omega) rfl (mg_ed (by omega)) (by decide) (Int32.ofNat (pz - 1 - 1)) (ad (N - 1)) (sz_in (by omega)) (by rw [sz_clamp (by omega)]; exact (if_pos (by omega)).trans (congrArg (fun j => some (ad j)) (show 37 + (pz - 1 - 1) = N - 1 by omega))) (sz_nn (by omega)) (nI_lt (a := pz - 1 - 1) (b := pz - 1) (by omega) (by omega)) (by rw [hpd]; exact Int32.le_refl _) (by rw [hpd]; exact sz_in (by omega)) H.size) mw_Jx4a65c_remove_915e3 md_Jx4a65c_remove_915e3 rfl lk_X4_139 ⟨Nat.le_of_ble_eq_true rfl, Nat.le_of_ble_eq_true rfl⟩ hA hK hT B (by omega) (mg_27p (by omega)) rfl rfl hl.1 rfl (Nat.le_of_ble_eq_true rfl) dX4_take_44 ⟨Nat.le_of_ble_eq_true rfl, Nat.le_of_ble_eq_true rfl⟩) (Nat.le_of_ble_eq_true rfl) (Nat.le_of_ble_eq_true rfl) (fun r ad' f' H locs hw B => ?_)
      obtain ⟨rfl, rfl, rfl⟩ := hw
      have B : WB g (aw N ad sz) s.heap N ad (mg g ad (va_up y (N - 1) (c_row g (pl (pz - 1 - 1)))) cr dr 0 kn rf pl (pz - 1) (mc + 1)) H locs := WM_take (pz := pz) (mc1 := mc + 1) h2z hz hNe B ((va_up_ne _ _ (by decide)).trans (va_up_self _ _ _)) (va_up_self _ _ _) (by rw [hpd, sz_clamp (by omega), va_up_self]) (fun j hj => by rw [hpd, sz_clamp (by omega), va_up_ne _ _ hj]) (fun k _ h7 h6 => (va_up_ne _ _ h6).trans (va_up_ne _ _ h7))
      refine b_castR (q := (N - 1)) rfl X hK B (by omega) ((mg_hi (by omega)).trans (va_up_self _ _ _)) lk_X4_21 dX4_take_47 ?_
      refine k_i (k := 1) (n := 3) hA B (b_V (q := 24) (rest := []) hb0 X (c_X4_get l g N ad (va_up y (N - 1) (c_row g (pl (pz - 1 - 1)))) cr dr 0 kn rf pl (pz - 1) (mc + 1) (by omega) b0 hb0 a1 (N - 1) (ad (N - 1)) (pl (pz - 1 - 1)) (by omega) rfl ((mg_hi (by omega)).trans (va_up_self _ _ _)) s2 H.size) mw_X4_get md_X4_get rfl lk_X4_103 ⟨Nat.le_of_ble_eq_true rfl, Nat.le_of_ble_eq_true rfl⟩ hA hK hT B (by omega) mg_24 rfl rfl hl.1 rfl (Nat.le_of_ble_eq_true rfl) dX4_take_50 ⟨Nat.le_of_ble_eq_true rfl, Nat.le_of_ble_eq_true rfl⟩) (Nat.le_of_ble_eq_true rfl) (Nat.le_of_ble_eq_true rfl) (fun r4 ad4 f' H locs hw B => ?_)
      dsimp only at hw
      obtain ⟨mv5, rfl, rfl⟩ := hw
      have kk6 : ∀ k, k < N → k < 28 ∨ 36 ≤ k → ad4 k = ad k := fun k hk hkq => (mv5 k (by omega) hkq).trans (rfl.trans rfl)
      have nb7 : ad4 24 = b0 := (mv5 24 (by omega) (Or.inl (by decide))).trans hb0
      refine lv_pop hx hb dX4_take_53 rfl ?_
      refine lv_aload_n hx hb dX4_take_54 rfl (lv_at hl 0 rfl) ?_
      refine b_get (q := 24) (k := 2) nb7 X hK B rfl in_X4 (by omega) mg_24 (by decide) lk_X4_17 rfl rfl dX4_take_55 ?_
      refine k_i (k := 1) (n := 3) hA B (b_V (q := 27) (rest := []) rfl X (c_L_size l g N ad4 (mg g ad4 (va_up y (N - 1) (c_row g (pl (pz - 1 - 1)))) (v_X4_get cr a1 (pl (pz - 1 - 1))).2 dr 0 kn rf pl (pz - 1) (mc + 1)) 27 (ad4 27) (by omega) rfl (mc + 1) (Int32.ofNat ((pz - 1) - 1)) _ mg_27 H.size) mw_Jx4a65c_size_8abf5 md_Jx4a65c_size_8abf5 rfl lk_X4_128 ⟨Nat.le_of_ble_eq_true rfl, Nat.le_of_ble_eq_true rfl⟩ hA hK hT B (by omega) mg_27 rfl rfl hl.1 rfl (Nat.le_of_ble_eq_true rfl) dX4_take_58 ⟨Nat.le_of_ble_eq_true rfl, Nat.le_of_ble_eq_true rfl⟩) (Nat.le_of_ble_eq_true rfl) (Nat.le_of_ble_eq_true rfl) (fun r ad' f' H locs hw B => ?_)
      obtain ⟨rfl, rfl, rfl⟩ := hw
      have B : WB g (aw N ad sz) s.heap (36 + (pz - 1)) ad4 (mg g ad4 y (v_X4_get cr a1 (pl (pz - 1 - 1))).2 dr 0 kn rf pl (pz - 1) (mc + 1)) H locs := WM_drop B (by omega) (by omega) (fun _ _ => rfl) (fun k hk => va_up_ne _ _ (show k ≠ N - 1 by omega))
      have ev := (show v_X4_take cr rf pl pz mc a1 = (Int32.ofNat ((pz - 1) - 1), (v_X4_get cr a1 (pl (pz - 1 - 1))).2, 0, rf, (pz - 1), mc + 1) from by unfold v_X4_take; rw [if_pos s2, if_pos c3])
      exact rt_i X hr (ad4, mg g ad4 y (v_X4_get cr a1 (pl (pz - 1 - 1))).2 dr 0 kn rf pl (pz - 1) (mc + 1)) B (by rw [ev]; exact PO_of B) ⟨kk6, by rw [ev], by rw [ev]⟩ rfl (Nat.le_of_ble_eq_true rfl) (Nat.le_of_ble_eq_true rfl) dX4_take_61
    · refine lv_aload_n hx hb dX4_take_24 rfl (lv_at hl 0 rfl) ?_
      refine k_i (k := 0) (n := 0) hA B (b_V (q := 24) (rest := []) hb0 X (c_X4_refuse l g N ad y cr dr 0 kn rf pl pz mc (by omega) b0 hb0 H.size) mw_X4_refuse md_X4_refuse rfl lk_X4_83 ⟨Nat.le_of_ble_eq_true rfl, Nat.le_of_ble_eq_true rfl⟩ hA hK hT B (by omega) mg_24 rfl rfl hl.1 rfl (Nat.le_of_ble_eq_true rfl) dX4_take_25 ⟨Nat.le_of_ble_eq_true rfl, Nat.le_of_ble_eq_true rfl⟩) (Nat.le_of_ble_eq_true rfl) (Nat.le_of_ble_eq_true rfl) (fun r8 ad8 f' H locs hw B => ?_)
      obtain ⟨rfl, rfl, rfl⟩ := hw
      have B : WB g (aw N ad sz) s.heap (36 + pz) ad (mg g ad y cr dr 0 kn (v_X4_refuse rf).2 pl pz mc) H locs := WM_drop B (by omega) (by omega) (fun _ _ => rfl) (fun _ _ => rfl)
      have ev := (show v_X4_take cr rf pl pz mc a1 = ((v_X4_refuse rf).1, cr, 0, (v_X4_refuse rf).2, pz, mc) from by unfold v_X4_take; rw [if_pos s2, if_neg c3])
      exact rt_i X hr (ad, mg g ad y cr dr 0 kn (v_X4_refuse rf).2 pl pz mc) B (by rw [ev]; exact PO_of B) ⟨(fun _ _ _ => rfl), by rw [ev], by rw [ev]⟩ rfl (Nat.le_of_ble_eq_true rfl) (Nat.le_of_ble_eq_true rfl) dX4_take_28
  · have s2x : (v_X4_isNone a1) = 1 := (b01_X4_isNone).resolve_left s2
    rw [s2x]
    refine k_i (k := 0) (n := 0) hA B (b_V (q := 24) (rest := []) hb0 X (c_X4_stops l g N ad y cr dr th kn rf pl pz mc (by omega) b0 hb0 1 0 H.size) mw_X4_stops md_X4_stops rfl lk_X4_99 ⟨Nat.le_of_ble_eq_true rfl, Nat.le_of_ble_eq_true rfl⟩ hA hK hT B (by omega) mg_24 rfl rfl hl.1 rfl (Nat.le_of_ble_eq_true rfl) dX4_take_6 ⟨Nat.le_of_ble_eq_true rfl, Nat.le_of_ble_eq_true rfl⟩) (Nat.le_of_ble_eq_true rfl) (Nat.le_of_ble_eq_true rfl) (fun r ad' f' H locs hw B => ?_)
    rw [st_10] at hw
    dsimp only at hw
    obtain ⟨rfl, rfl, rfl⟩ := hw
    have B : WB g (aw N ad sz) s.heap N ad (mg g ad y cr dr 1 kn rf pl pz mc) H locs := B
    refine lv_if_eq (tgt := 14) hx hb dX4_take_9 (by decide) (fun z => absurd z (by decide)) (fun _ => ?_)
    refine lv_iconst (v := 0) hx hb dX4_take_12 (by decide) ?_
    have B : WB g (aw N ad sz) s.heap (36 + pz) ad (mg g ad y cr dr 1 kn rf pl pz mc) H locs := WM_drop B (by omega) (by omega) (fun _ _ => rfl) (fun _ _ => rfl)
    have ev := (show v_X4_take cr rf pl pz mc a1 = (0, cr, 1, rf, pz, mc) from by unfold v_X4_take; rw [if_neg s2])
    exact rt_i X hr (ad, mg g ad y cr dr 1 kn rf pl pz mc) B (by rw [ev]; exact PO_of B) ⟨(fun _ _ _ => rfl), by rw [ev], by rw [ev]⟩ rfl (Nat.le_of_ble_eq_true rfl) (Nat.le_of_ble_eq_true rfl) dX4_take_13
def wX4_sum__20 (cr : Nat → TR) (rf : Int32) (pl : Nat → TR) (pz : Nat) (a1 : Int32) : Nat → Int32 → TR → Int32 × (Nat → TR) × Int32 × Int32
  | 0, kk, tm => (0, (fun _ => (0, 0, 0)), 0, 0)
  | n + 1, kk, tm => if (Int32.ofNat (pz - 1)) ≤ kk then ((v_X4_get cr a1 tm).1, (v_X4_get cr a1 tm).2, 0, rf) else (om (v_X4_sum tm 1 (pl kk.toNatClampNeg)) (if (Int32.ofNat (pz - 1)) ≤ (kk + 1) then ((v_X4_getN rf).1, cr, 0, (v_X4_getN rf).2) else ((v_X4_getN rf).1, cr, 0, (v_X4_getN rf).2)) (fun t13 => wX4_sum__20 cr rf pl pz a1 n (kk + 1) t13))
def v_X4_sum_ (cr : Nat → TR) (rf : Int32) (pl : Nat → TR) (pz : Nat) (a1 : Int32) : Int32 × (Nat → TR) × Int32 × Int32 := if v_X4_isNone a1 = 0 then (wX4_sum__20 cr rf pl pz a1 (((Int32.ofNat (pz - 1)).toInt - (0 : Int32).toInt).toNat + 1) 0 (v_X4_nothing)) else (0, cr, 1, rf)
set_option maxHeartbeats 4000000 in
set_option maxRecDepth 100000 in
theorem c_X4_sum_ (l : Launch) (g : GG) (N : Nat) (ad : Nat → Nat) (y : Nat → va_E) (cr dr : Nat → TR) (th kn rf : Int32) (pl : Nat → TR) (pz : Nat) (mc : Int32) (hN : 36 + pz ≤ N) (b0 : Nat) (hb0 : ad 24 = b0) (a1 : Int32) (hz : pz ≤ 9) : KI l yX4_sum_ cX4_sum_ 4 (some .int) (rm 3 11 33) g [.ref b0, .int a1] N ad (mg g ad y cr dr th kn rf pl pz mc) N (fun r ad' f' => (∀ k, k < N → k < 28 ∨ 36 ≤ k → ad' k = ad k) ∧ (v_X4_sum_ cr rf pl pz a1).1 = r ∧ mg g ad' y (v_X4_sum_ cr rf pl pz a1).2.1 dr (v_X4_sum_ cr rf pl pz a1).2.2.1 kn (v_X4_sum_ cr rf pl pz a1).2.2.2 pl pz mc = f') := by
  intro sz
  refine mt_start (by decide) (Nat.le_of_ble_eq_true rfl) ?_
  intro p e s m args below meth c hsz X hr hnam hA hK hT H locs B ls hl
  obtain ⟨hx, hb, hml, hown, hts, hlocks⟩ := id X
  have hl : lv_has ls 4 [(0, .ref b0), (1, .int a1)] := hl
  refine lv_aload_n hx hb dX4_sum__0 rfl (lv_at hl 0 rfl) ?_
  refine lv_iload_n hx hb dX4_sum__1 rfl (lv_at hl 1 rfl) ?_
  refine k_i (k := 0) (n := 0) hA B (u_S (rest := [.ref b0]) X (c_X4_isNone l g N ad (mg g ad y cr dr th kn rf pl pz mc) a1 H.size) mw_X4_isNone md_X4_isNone rfl lk_X4_95 ⟨Nat.le_of_ble_eq_true rfl, Nat.le_of_ble_eq_true rfl⟩ hA hK hT B hl.1 rfl (Nat.le_of_ble_eq_true rfl) dX4_sum__2 ⟨Nat.le_of_ble_eq_true rfl, Nat.le_of_ble_eq_true rfl⟩) (Nat.le_of_ble_eq_true rfl) (Nat.le_of_ble_eq_true rfl) (fun r1 ad1 f' H locs hw B => ?_)
  obtain ⟨rfl, rfl, rfl⟩ := hw
  refine lv_iconst (v := 0) hx hb dX4_sum__5 (by decide) ?_
  by_cases s2 : v_X4_isNone a1 = 0
  · rw [s2]
    refine k_i (k := 0) (n := 0) hA B (b_V (q := 24) (rest := []) hb0 X (c_X4_stops l g N ad y cr dr th kn rf pl pz mc (by omega) b0 hb0 0 0 H.size) mw_X4_stops md_X4_stops rfl lk_X4_99 ⟨Nat.le_of_ble_eq_true rfl, Nat.le_of_ble_eq_true rfl⟩ hA hK hT B (by omega) mg_24 rfl rfl hl.1 rfl (Nat.le_of_ble_eq_true rfl) dX4_sum__6 ⟨Nat.le_of_ble_eq_true rfl, Nat.le_of_ble_eq_true rfl⟩) (Nat.le_of_ble_eq_true rfl) (Nat.le_of_ble_eq_true rfl) (fun r ad' f' H locs hw B => ?_)
    rw [st_00] at hw
    dsimp only at hw
    obtain ⟨rfl, rfl, rfl⟩ := hw
    have B : WB g (aw N ad sz) s.heap N ad (mg g ad y cr dr 0 kn rf pl pz mc) H locs := B
    refine lv_if_eq (tgt := 14) hx hb dX4_sum__9 (by decide) (fun _ => ?_) (fun z => absurd z (by decide))
    refine k_r (k := 1) (n := 3) hA B (u_S (rest := []) X (c_X4_nothing l g N ad (mg g ad y cr dr 0 kn rf pl pz mc) H.size) mw_X4_nothing md_X4_nothing rfl lk_X4_51 ⟨Nat.le_of_ble_eq_true rfl, Nat.le_of_ble_eq_true rfl⟩ hA hK hT B hl.1 rfl (Nat.le_of_ble_eq_true rfl) dX4_sum__14 ⟨Nat.le_of_ble_eq_true rfl, Nat.le_of_ble_eq_true rfl⟩) (Nat.le_of_ble_eq_true rfl) (Nat.le_of_ble_eq_true rfl) (fun r3 ad3 f' H locs hw B => ?_)
    obtain ⟨z4, rfl, rfl, rfl⟩ := hw
    have B : WB g (aw N ad sz) s.heap (N + 1) (va_up ad N z4) (mg g (va_up ad N z4) (va_up y N (c_row g (v_X4_nothing))) cr dr 0 kn rf pl pz mc) H locs := WM_push (by omega) B
    refine lv_astore_n (lv' := [(2, .ref z4), (0, .ref b0), (1, .int a1)]) hx hb dX4_sum__17 rfl hl (by decide) rfl (fun ls hl => ?_)
    refine lv_iconst (v := 0) hx hb dX4_sum__18 (by decide) ?_
    refine lv_istore_n (lv' := [(3, .int 0), (2, .ref z4), (0, .ref b0), (1, .int a1)]) hx hb dX4_sum__19 rfl hl (by decide) rfl (fun ls hl => ?_)
    have loop5 : ∀ (n5 : Nat) (kk : Int32) (tm : TR) (atm : Nat) (C5 : Nat) (S5 : Nat) (H : Heap) (locs : List Loc), C5 + n5 * 1 ≤ 10 → S5 + n5 * 3 ≤ 30 → ((Int32.ofNat (pz - 1)).toInt - kk.toInt).toNat < n5 → v_X4_sum_ cr rf pl pz a1 = wX4_sum__20 cr rf pl pz a1 n5 kk tm → ¬ kk < 0 → WB g (aw N ad sz) s.heap (N + 1) (va_up ad N atm) (mg g (va_up ad N atm) (va_up y N (c_row g tm)) cr dr 0 kn rf pl pz mc) H locs → ∀ ls : Array Slot, lv_has ls 4 [(3, .int kk), (2, .ref atm), (0, .ref b0), (1, .int a1)] → W p l e (rm 3 11 33) s m args below meth c H locs C5 S5 (MQ below (va_Qi (fun r (u : WS) => (fun r ad' f' => (∀ k, k < N → k < 28 ∨ 36 ≤ k → ad' k = ad k) ∧ (v_X4_sum_ cr rf pl pz a1).1 = r ∧ mg g ad' y (v_X4_sum_ cr rf pl pz a1).2.1 dr (v_X4_sum_ cr rf pl pz a1).2.2.1 kn (v_X4_sum_ cr rf pl pz a1).2.2.2 pl pz mc = f') r u.1 u.2) (fun u t => PO g N u.1 u.2 (aw N ad sz) t) (aw N ad sz)) args s (rm 3 11 33).cells (rm 3 11 33).slots (aw N ad sz)) (F0 m 20 ls []) := by
      intro n5
      induction n5 with
      | zero => intro kk tm atm C5 S5 H locs _ _ hn; exact absurd hn (Nat.not_lt_zero _)
      | succ n5 ih5 =>
        intro kk tm atm C5 S5 H locs hC5 hS5 hn5 he5 hk0 B ls hl
        refine lv_iload_n hx hb dX4_sum__20 rfl (lv_at hl 0 rfl) ?_
        refine lv_aload_n hx hb dX4_sum__21 rfl (lv_at hl 2 rfl) ?_
        refine b_get (q := 24) (k := 2) ((up_lt (by omega)).trans hb0) X hK B rfl in_X4 (by omega) mg_24 (by decide) lk_X4_17 rfl rfl dX4_sum__22 ?_
        refine k_i (k := (C5 + 0)) (n := (S5 + 0)) hA B (b_V (q := 27) (rest := [.int kk]) rfl X (c_L_size l g (N + 1) (va_up ad N atm) (mg g (va_up ad N atm) (va_up y N (c_row g tm)) cr dr 0 kn rf pl pz mc) 27 ((va_up ad N atm) 27) (by omega) rfl mc (Int32.ofNat (pz - 1)) _ mg_27 H.size) mw_Jx4a65c_size_8abf5 md_Jx4a65c_size_8abf5 rfl lk_X4_128 ⟨Nat.le_of_ble_eq_true rfl, Nat.le_of_ble_eq_true rfl⟩ hA hK hT B (by omega) mg_27 rfl rfl hl.1 rfl (Nat.le_of_ble_eq_true rfl) dX4_sum__25 (by dsimp only [rm]; omega)) (by dsimp only [rm]; omega) (by dsimp only [rm]; omega) (fun r ad' f' H locs hw B => ?_)
        obtain ⟨rfl, rfl, rfl⟩ := hw
        refine lv_icmp_ge (tgt := 58) hx hb dX4_sum__28 (by decide) (fun c6 => ?_) (fun c6 => ?_)
        · refine W.widen (show (C5 + 0) ≤ 10 by omega) (show (S5 + 0) ≤ 30 by omega) ?_
          refine lv_aload_n hx hb dX4_sum__58 rfl (lv_at hl 2 rfl) ?_
          refine lv_iload_n hx hb dX4_sum__59 rfl (lv_at hl 3 rfl) ?_
          refine lv_aload_n hx hb dX4_sum__60 rfl (lv_at hl 1 rfl) ?_
          refine k_i (k := 11) (n := 33) hA B (b_V (q := 24) (rest := []) ((up_lt (by omega)).trans hb0) X (c_X4_get l g (N + 1) (va_up ad N atm) (va_up y N (c_row g tm)) cr dr 0 kn rf pl pz mc (by omega) b0 ((up_lt (by omega)).trans hb0) a1 N atm tm (Nat.lt_succ_self _) up_eq ((mg_hi (by omega)).trans up_eq) s2 H.size) mw_X4_get md_X4_get rfl lk_X4_103 ⟨Nat.le_of_ble_eq_true rfl, Nat.le_of_ble_eq_true rfl⟩ hA hK hT B (by omega) mg_24 rfl rfl hl.1 rfl (Nat.le_of_ble_eq_true rfl) dX4_sum__61 ⟨Nat.le_of_ble_eq_true rfl, Nat.le_of_ble_eq_true rfl⟩) (Nat.le_of_ble_eq_true rfl) (Nat.le_of_ble_eq_true rfl) (fun r7 ad7 f' H locs hw B => ?_)
          dsimp only at hw
          obtain ⟨mv8, rfl, rfl⟩ := hw
          have B : WB g (aw N ad sz) s.heap N ad7 (mg g ad7 y (v_X4_get cr a1 tm).2 dr 0 kn rf pl pz mc) H locs := WM_drop B (by omega) (by omega) (fun _ _ => rfl) (fun _ hk => (up_lt hk))
          have kk9 : ∀ k, k < N → k < 28 ∨ 36 ≤ k → ad7 k = ad k := fun k hk hkq => (mv8 k (by omega) hkq).trans (((fun _ hk => (up_lt hk)) k hk).trans rfl)
          have nb10 : ad7 24 = b0 := (mv8 24 (by omega) (Or.inl (by decide))).trans ((up_lt (by omega)).trans hb0)
          have ev := (show v_X4_sum_ cr rf pl pz a1 = ((v_X4_get cr a1 tm).1, (v_X4_get cr a1 tm).2, 0, rf) from he5.trans (by rw [wX4_sum__20, if_pos c6]))
          exact rt_i X hr (ad7, mg g ad7 y (v_X4_get cr a1 tm).2 dr 0 kn rf pl pz mc) B (PO_of B) ⟨kk9, by rw [ev], by rw [ev]⟩ rfl (Nat.le_of_ble_eq_true rfl) (Nat.le_of_ble_eq_true rfl) dX4_sum__64
        · refine lv_aload_n hx hb dX4_sum__31 rfl (lv_at hl 1 rfl) ?_
          refine lv_ifnull hx hb dX4_sum__32 ?_
          refine lv_aload_n hx hb dX4_sum__35 rfl (lv_at hl 1 rfl) ?_
          refine lv_lconst (v := 1) hx hb dX4_sum__36 (by decide) ?_
          refine lv_aload_n hx hb dX4_sum__37 rfl (lv_at hl 2 rfl) ?_
          refine b_get (q := 24) (k := 2) ((up_lt (by omega)).trans hb0) X hK B rfl in_X4 (by omega) mg_24 (by decide) lk_X4_17 rfl rfl dX4_sum__38 ?_
          refine lv_iload_n hx hb dX4_sum__41 rfl (lv_at hl 0 rfl) ?_
          have g11 : kk.toNatClampNeg + 1 < pz := pl_ix hz hk0 c6
          refine k_r (k := (C5 + 0)) (n := (S5 + 0)) hA B (b_V (q := 27) (rest := [.long 1, .ref atm]) rfl X (c_L_get l g (N + 1) (va_up ad N atm) (mg g (va_up ad N atm) (va_up y N (c_row g tm)) cr dr 0 kn rf pl pz mc) 27 ((va_up ad N atm) 27) (by omega) rfl mc (Int32.ofNat (pz - 1)) ((va_up ad N atm) 36) (mg_27p (by omega)) 36 10 (fun j => if j + 1 < pz then some ((va_up ad N atm) (37 + j)) else none) (by omega) rfl (mg_ed (by omega)) (by decide) kk (ad (37 + kk.toNatClampNeg)) (pl_in hz hk0 g11) ((if_pos g11).trans (congrArg some (up_lt (by omega)))) hk0 (Int32.not_le.mp c6) H.size) mw_Jx4a65c_get_915e3 md_Jx4a65c_get_915e3 rfl lk_X4_143 ⟨Nat.le_of_ble_eq_true rfl, Nat.le_of_ble_eq_true rfl⟩ hA hK hT B (by omega) (mg_27p (by omega)) rfl rfl hl.1 rfl (Nat.le_of_ble_eq_true rfl) dX4_sum__42 (by dsimp only [rm]; omega)) (by dsimp only [rm]; omega) (by dsimp only [rm]; omega) (fun r ad' f' H locs hw B => ?_)
          obtain ⟨rfl, rfl, rfl⟩ := hw
          refine b_castR (q := (37 + kk.toNatClampNeg)) ((up_lt (pl_pl hN g11)).trans rfl) X hK B (Nat.lt_succ_of_lt (pl_pl hN g11)) (mg_pl g11) lk_X4_21 dX4_sum__45 ?_
          refine k_r (k := (C5 + 1)) (n := (S5 + 3)) hA B (u_S (rest := []) X (c_X4_sum l g (N + 1) (va_up ad N atm) (mg g (va_up ad N atm) (va_up y N (c_row g tm)) cr dr 0 kn rf pl pz mc) N atm tm (Nat.lt_succ_self _) up_eq ((mg_hi (by omega)).trans up_eq) 1 (37 + kk.toNatClampNeg) (ad (37 + kk.toNatClampNeg)) (pl kk.toNatClampNeg) (Nat.lt_succ_of_lt (pl_pl hN g11)) ((up_lt (pl_pl hN g11)).trans rfl) (mg_pl g11) H.size) mw_X4_sum md_X4_sum rfl lk_X4_57 ⟨Nat.le_of_ble_eq_true rfl, Nat.le_of_ble_eq_true rfl⟩ hA hK hT B hl.1 rfl (Nat.le_of_ble_eq_true rfl) dX4_sum__48 (by dsimp only [rm]; omega)) (by dsimp only [rm]; omega) (by dsimp only [rm]; omega) (fun r12 ad12 f' H locs hw B => ?_)
          generalize o13 : (v_X4_sum tm 1 (pl kk.toNatClampNeg)) = v9 at hw B
          cases v9 with
          | none =>
            obtain ⟨rfl, rfl, rfl⟩ := pw_n hw
            refine lv_astore_nN (lv' := [(2, .null), (3, .int kk), (0, .ref b0), (1, .int a1)]) hx hb dX4_sum__51 rfl hl (by decide) rfl (fun ls hl => ?_)
            refine lv_iinc (v := kk + 1) (lv' := [(3, .int (kk + 1)), (2, .null), (0, .ref b0), (1, .int a1)]) hx hb dX4_sum__52 hl (k := 1) rfl rfl (by decide) rfl (fun ls hl => ?_)
            refine lv_goto (tgt := 20) hx hb dX4_sum__55 (by decide) ?_
            refine lv_iload_n hx hb dX4_sum__20 rfl (lv_at hl 0 rfl) ?_
            refine lv_aload_n hx hb dX4_sum__21 rfl (lv_at hl 2 rfl) ?_
            refine b_get (q := 24) (k := 2) ((up_lt (by omega)).trans hb0) X hK B rfl in_X4 (by omega) mg_24 (by decide) lk_X4_17 rfl rfl dX4_sum__22 ?_
            refine k_i (k := (C5 + 1)) (n := (S5 + 3)) hA B (b_V (q := 27) (rest := [.int (kk + 1)]) rfl X (c_L_size l g (N + 1) (va_up ad N atm) (mg g (va_up ad N atm) (va_up y N (c_row g tm)) cr dr 0 kn rf pl pz mc) 27 ((va_up ad N atm) 27) (by omega) rfl mc (Int32.ofNat (pz - 1)) _ mg_27 H.size) mw_Jx4a65c_size_8abf5 md_Jx4a65c_size_8abf5 rfl lk_X4_128 ⟨Nat.le_of_ble_eq_true rfl, Nat.le_of_ble_eq_true rfl⟩ hA hK hT B (by omega) mg_27 rfl rfl hl.1 rfl (Nat.le_of_ble_eq_true rfl) dX4_sum__25 (by dsimp only [rm]; omega)) (by dsimp only [rm]; omega) (by dsimp only [rm]; omega) (fun r ad' f' H locs hw B => ?_)
            obtain ⟨rfl, rfl, rfl⟩ := hw
            refine lv_icmp_ge (tgt := 58) hx hb dX4_sum__28 (by decide) (fun c14 => ?_) (fun c14 => ?_)
            · refine W.widen (show (C5 + 1) ≤ 10 by omega) (show (S5 + 3) ≤ 30 by omega) ?_
              refine lv_aload_n hx hb dX4_sum__58 rfl (lv_at hl 2 rfl) ?_
              refine lv_iload_n hx hb dX4_sum__59 rfl (lv_at hl 3 rfl) ?_
              refine lv_aload_nN hx hb dX4_sum__60 rfl (lv_at hl 1 rfl) ?_
              refine k_i (k := 10) (n := 30) hA B (b_V (q := 24) (rest := []) ((up_lt (by omega)).trans hb0) X (c_X4_getN l g (N + 1) (va_up ad N atm) (va_up y N (c_row g tm)) cr dr 0 kn rf pl pz mc (by omega) b0 ((up_lt (by omega)).trans hb0) a1 H.size) mw_X4_get md_X4_get rfl lk_X4_103 ⟨Nat.le_of_ble_eq_true rfl, Nat.le_of_ble_eq_true rfl⟩ hA hK hT B (by omega) mg_24 rfl rfl hl.1 rfl (Nat.le_of_ble_eq_true rfl) dX4_sum__61 ⟨Nat.le_of_ble_eq_true rfl, Nat.le_of_ble_eq_true rfl⟩) (Nat.le_of_ble_eq_true rfl) (Nat.le_of_ble_eq_true rfl) (fun r15 ad15 f' H locs hw B => ?_)
              obtain ⟨rfl, rfl, rfl⟩ := hw
              have B : WB g (aw N ad sz) s.heap N ad (mg g ad y cr dr 0 kn (v_X4_getN rf).2 pl pz mc) H locs := WM_drop B (by omega) (by omega) (fun _ hk => (up_lt hk)) (fun _ hk => (up_lt hk))
              have ev := (show v_X4_sum_ cr rf pl pz a1 = ((v_X4_getN rf).1, cr, 0, (v_X4_getN rf).2) from he5.trans (by rw [wX4_sum__20, if_neg c6, om_none o13, if_pos c14]))
              exact rt_i X hr (ad, mg g ad y cr dr 0 kn (v_X4_getN rf).2 pl pz mc) B (PO_of B) ⟨(fun _ _ _ => rfl), by rw [ev], by rw [ev]⟩ rfl (Nat.le_of_ble_eq_true rfl) (Nat.le_of_ble_eq_true rfl) dX4_sum__64
            · refine lv_aload_nN hx hb dX4_sum__31 rfl (lv_at hl 1 rfl) ?_
              refine lv_ifnullN (tgt := 58) hx hb dX4_sum__32 (by decide) ?_
              refine W.widen (show (C5 + 1) ≤ 10 by omega) (show (S5 + 3) ≤ 30 by omega) ?_
              refine lv_aload_n hx hb dX4_sum__58 rfl (lv_at hl 2 rfl) ?_
              refine lv_iload_n hx hb dX4_sum__59 rfl (lv_at hl 3 rfl) ?_
              refine lv_aload_nN hx hb dX4_sum__60 rfl (lv_at hl 1 rfl) ?_
              refine k_i (k := 10) (n := 30) hA B (b_V (q := 24) (rest := []) ((up_lt (by omega)).trans hb0) X (c_X4_getN l g (N + 1) (va_up ad N atm) (va_up y N (c_row g tm)) cr dr 0 kn rf pl pz mc (by omega) b0 ((up_lt (by omega)).trans hb0) a1 H.size) mw_X4_get md_X4_get rfl lk_X4_103 ⟨Nat.le_of_ble_eq_true rfl, Nat.le_of_ble_eq_true rfl⟩ hA hK hT B (by omega) mg_24 rfl rfl hl.1 rfl (Nat.le_of_ble_eq_true rfl) dX4_sum__61 ⟨Nat.le_of_ble_eq_true rfl, Nat.le_of_ble_eq_true rfl⟩) (Nat.le_of_ble_eq_true rfl) (Nat.le_of_ble_eq_true rfl) (fun r16 ad16 f' H locs hw B => ?_)
              obtain ⟨rfl, rfl, rfl⟩ := hw
              have B : WB g (aw N ad sz) s.heap N ad (mg g ad y cr dr 0 kn (v_X4_getN rf).2 pl pz mc) H locs := WM_drop B (by omega) (by omega) (fun _ hk => (up_lt hk)) (fun _ hk => (up_lt hk))
              have ev := (show v_X4_sum_ cr rf pl pz a1 = ((v_X4_getN rf).1, cr, 0, (v_X4_getN rf).2) from he5.trans (by rw [wX4_sum__20, if_neg c6, om_none o13, if_neg c14]))
              exact rt_i X hr (ad, mg g ad y cr dr 0 kn (v_X4_getN rf).2 pl pz mc) B (PO_of B) ⟨(fun _ _ _ => rfl), by rw [ev], by rw [ev]⟩ rfl (Nat.le_of_ble_eq_true rfl) (Nat.le_of_ble_eq_true rfl) dX4_sum__64
          | some t13 =>
            obtain ⟨z13, rfl, rfl, rfl⟩ := pw_s hw
            have B : WB g (aw N ad sz) s.heap (N + 1 + 1) (va_up (va_up ad N atm) (N + 1) z13) (mg g (va_up (va_up ad N atm) (N + 1) z13) (va_up (va_up y N (c_row g tm)) (N + 1) (c_row g t13)) cr dr 0 kn rf pl pz mc) H locs := WM_push (by omega) B
            refine lv_astore_n (lv' := [(2, .ref z13), (3, .int kk), (0, .ref b0), (1, .int a1)]) hx hb dX4_sum__51 rfl hl (by decide) rfl (fun ls hl => ?_)
            refine lv_iinc (v := kk + 1) (lv' := [(3, .int (kk + 1)), (2, .ref z13), (0, .ref b0), (1, .int a1)]) hx hb dX4_sum__52 hl (k := 1) rfl rfl (by decide) rfl (fun ls hl => ?_)
            refine lv_goto (tgt := 20) hx hb dX4_sum__55 (by decide) ?_
            have B : WB g (aw N ad sz) s.heap (N + 1) (va_up ad N z13) (mg g (va_up ad N z13) (va_up y N (c_row g t13)) cr dr 0 kn rf pl pz mc) H locs := WM_pick (q := N + 1) (ad := ad) (y := y) B (by omega) (by omega) (by omega) up_eq up_eq (fun _ hk => ((up_lt (Nat.lt_succ_of_lt hk)).trans (up_lt hk))) (fun _ hk => ((up_lt (Nat.lt_succ_of_lt hk)).trans (up_lt hk)))
            exact ih5 (kk + 1) t13 z13 (C5 + 1) (S5 + 3) H locs (by omega) (by omega) (fu_le c6 hn5) (show v_X4_sum_ cr rf pl pz a1 = wX4_sum__20 cr rf pl pz a1 n5 (kk + 1) t13 from he5.trans (by rw [wX4_sum__20, if_neg c6, om_some o13])) (inc_nn hk0 c6) B ls (lv_sub hl [0, 1, 2, 3] rfl)
    have hT5 : ((Int32.ofNat (pz - 1)).toInt - (0 : Int32).toInt).toNat + 1 ≤ 9 := al_sz hz
    exact loop5 (((Int32.ofNat (pz - 1)).toInt - (0 : Int32).toInt).toNat + 1) 0 (v_X4_nothing) z4 1 3 H locs (by omega) (by omega) (Nat.lt_succ_self _) (show v_X4_sum_ cr rf pl pz a1 = wX4_sum__20 cr rf pl pz a1 (((Int32.ofNat (pz - 1)).toInt - (0 : Int32).toInt).toNat + 1) 0 (v_X4_nothing) from by unfold v_X4_sum_; rw [if_pos s2]) (by decide) B ls hl
  · have s2x : (v_X4_isNone a1) = 1 := (b01_X4_isNone).resolve_left s2
    rw [s2x]
    refine k_i (k := 0) (n := 0) hA B (b_V (q := 24) (rest := []) hb0 X (c_X4_stops l g N ad y cr dr th kn rf pl pz mc (by omega) b0 hb0 1 0 H.size) mw_X4_stops md_X4_stops rfl lk_X4_99 ⟨Nat.le_of_ble_eq_true rfl, Nat.le_of_ble_eq_true rfl⟩ hA hK hT B (by omega) mg_24 rfl rfl hl.1 rfl (Nat.le_of_ble_eq_true rfl) dX4_sum__6 ⟨Nat.le_of_ble_eq_true rfl, Nat.le_of_ble_eq_true rfl⟩) (Nat.le_of_ble_eq_true rfl) (Nat.le_of_ble_eq_true rfl) (fun r ad' f' H locs hw B => ?_)
    rw [st_10] at hw
    dsimp only at hw
    obtain ⟨rfl, rfl, rfl⟩ := hw
    have B : WB g (aw N ad sz) s.heap N ad (mg g ad y cr dr 1 kn rf pl pz mc) H locs := B
    refine lv_if_eq (tgt := 14) hx hb dX4_sum__9 (by decide) (fun z => absurd z (by decide)) (fun _ => ?_)
    refine lv_iconst (v := 0) hx hb dX4_sum__12 (by decide) ?_
    have ev := (show v_X4_sum_ cr rf pl pz a1 = (0, cr, 1, rf) from by unfold v_X4_sum_; rw [if_neg s2])
    exact rt_i X hr (ad, mg g ad y cr dr 1 kn rf pl pz mc) B (PO_of B) ⟨(fun _ _ _ => rfl), by rw [ev], by rw [ev]⟩ rfl (Nat.le_of_ble_eq_true rfl) (Nat.le_of_ble_eq_true rfl) dX4_sum__13
set_option maxHeartbeats 4000000 in
set_option maxRecDepth 100000 in
theorem c_X4_isSoundNow (l : Launch) (g : GG) (N : Nat) (ad : Nat → Nat) (y : Nat → va_E) (cr dr : Nat → TR) (th kn rf : Int32) (pl : Nat → TR) (pz : Nat) (mc : Int32) (hN : 36 + pz ≤ N) (b0 : Nat) (hb0 : ad 24 = b0) (hdr : ∀ i, i < 4 → okd (dr i)) : KI l yX4_isSoundNow cX4_isSoundNow 4 (some .boolean) (rm 5 465 1395) g [.ref b0] N ad (mg g ad y cr dr th kn rf pl pz mc) N (fun r ad' f' => ad = ad' ∧ (r = 0 ∨ r = 1) ∧ mg g ad y cr dr th kn rf pl pz mc = f') := by
  intro sz
  refine mt_start (by decide) (Nat.le_of_ble_eq_true rfl) ?_
  intro p e s m args below meth c hsz X hr hnam hA hK hT H locs B ls hl
  obtain ⟨hx, hb, hml, hown, hts, hlocks⟩ := id X
  have hl : lv_has ls 4 [(0, .ref b0)] := hl
  refine lv_iconst (v := 1) hx hb dX4_isSoundNow_0 (by decide) ?_
  refine lv_istore_n (lv' := [(1, .int 1), (0, .ref b0)]) hx hb dX4_isSoundNow_1 rfl hl (by decide) rfl (fun ls hl => ?_)
  refine lv_iconst (v := 0) hx hb dX4_isSoundNow_2 (by decide) ?_
  refine lv_istore_n (lv' := [(2, .int 0), (1, .int 1), (0, .ref b0)]) hx hb dX4_isSoundNow_3 rfl hl (by decide) rfl (fun ls hl => ?_)
  have loop1 : ∀ (n1 : Nat) (sa : Int32) (us : Int32) (C1 : Nat) (S1 : Nat) (H : Heap) (locs : List Loc), C1 + n1 * 93 ≤ 465 → S1 + n1 * 279 ≤ 1395 → ((4 : Int32).toInt - sa.toInt).toNat < n1 → (us = 0 ∨ us = 1) → ¬ sa < 0 → WB g (aw N ad sz) s.heap N ad (mg g ad y cr dr th kn rf pl pz mc) H locs → ∀ ls : Array Slot, lv_has ls 4 [(2, .int sa), (1, .int us), (0, .ref b0)] → W p l e (rm 5 465 1395) s m args below meth c H locs C1 S1 (MQ below (va_Qi (fun r (u : WS) => (fun r ad' f' => ad = ad' ∧ (r = 0 ∨ r = 1) ∧ mg g ad y cr dr th kn rf pl pz mc = f') r u.1 u.2) (fun u t => PO g N u.1 u.2 (aw N ad sz) t) (aw N ad sz)) args s (rm 5 465 1395).cells (rm 5 465 1395).slots (aw N ad sz)) (F0 m 4 ls []) := by
    intro n1
    induction n1 with
    | zero => intro sa us C1 S1 H locs _ _ hn; exact absurd hn (Nat.not_lt_zero _)
    | succ n1 ih1 =>
      intro sa us C1 S1 H locs hC1 hS1 hn1 hus hks B ls hl
      refine lv_iload_n hx hb dX4_isSoundNow_4 rfl (lv_at hl 0 rfl) ?_
      refine lv_iconst (v := 4) hx hb dX4_isSoundNow_5 (by decide) ?_
      refine lv_icmp_ge (tgt := 93) hx hb dX4_isSoundNow_6 (by decide) (fun c2 => ?_) (fun c2 => ?_)
      · refine W.widen (show (C1 + 0) ≤ 465 by omega) (show (S1 + 0) ≤ 1395 by omega) ?_
        refine lv_iload_n hx hb dX4_isSoundNow_93 rfl (lv_at hl 1 rfl) ?_
        exact rt_i X hr (ad, mg g ad y cr dr th kn rf pl pz mc) B (PO_of B) ⟨rfl, hus, rfl⟩ (nb_of hus) (Nat.le_of_ble_eq_true rfl) (Nat.le_of_ble_eq_true rfl) dX4_isSoundNow_94
      · refine lv_iload_n hx hb dX4_isSoundNow_9 rfl (lv_at hl 1 rfl) ?_
        refine lv_aload_n hx hb dX4_isSoundNow_10 rfl (lv_at hl 2 rfl) ?_
        refine b_get (q := 24) (k := 1) hb0 X hK B rfl in_X4 (by omega) mg_24 (by decide) lk_X4_11 rfl rfl dX4_isSoundNow_11 ?_
        refine lv_iload_n hx hb dX4_isSoundNow_14 rfl (lv_at hl 0 rfl) ?_
        refine b_aald (q := 25) (t0 := 2) (v := ad (28 + sa.toNatClampNeg)) rfl X hK B (by omega) mg_25 rfl rfl (ix_in (n := 4) hks c2 rfl) rfl dX4_isSoundNow_15 ?_
        have g3 : sa.toNatClampNeg < 4 := (ix_lt (n := 4) hks c2 rfl)
        refine k_i (k := (C1 + 8)) (n := (S1 + 24)) hA B (u_S (rest := [.int us]) X (c_X4_isSpanSound l g N ad (mg g ad y cr dr th kn rf pl pz mc) (28 + sa.toNatClampNeg) (ad (28 + sa.toNatClampNeg)) (cr sa.toNatClampNeg) (pl_cr hN g3) rfl (mg_cr g3) H.size) mw_X4_isSpanSound md_X4_isSpanSound rfl lk_X4_254 ⟨Nat.le_of_ble_eq_true rfl, Nat.le_of_ble_eq_true rfl⟩ hA hK hT B hl.1 rfl (Nat.le_of_ble_eq_true rfl) dX4_isSoundNow_16 (by dsimp only [rm]; omega)) (by dsimp only [rm]; omega) (by dsimp only [rm]; omega) (fun r4 ad4 f' H locs hw B => ?_)
        obtain ⟨rfl, rfl, rfl⟩ := hw
        refine lv_iand hx hb dX4_isSoundNow_19 ?_
        refine lv_istore_n (lv' := [(1, .int (us &&& (v_X4_isSpanSound (cr sa.toNatClampNeg)))), (2, .int sa), (0, .ref b0)]) hx hb dX4_isSoundNow_20 rfl hl (by decide) rfl (fun ls hl => ?_)
        refine lv_iconst (v := 0) hx hb dX4_isSoundNow_21 (by decide) ?_
        refine lv_istore_n (lv' := [(3, .int 0), (1, .int (us &&& (v_X4_isSpanSound (cr sa.toNatClampNeg)))), (2, .int sa), (0, .ref b0)]) hx hb dX4_isSoundNow_22 rfl hl (by decide) rfl (fun ls hl => ?_)
        have loop5 : ∀ (n5 : Nat) (sb : Int32) (ut : Int32) (C5 : Nat) (S5 : Nat) (H : Heap) (locs : List Loc), C5 + n5 * 17 ≤ (C1 + 93) → S5 + n5 * 51 ≤ (S1 + 279) → ((4 : Int32).toInt - sb.toInt).toNat < n5 → (ut = 0 ∨ ut = 1) → ¬ sb < 0 → WB g (aw N ad sz) s.heap N ad (mg g ad y cr dr th kn rf pl pz mc) H locs → ∀ ls : Array Slot, lv_has ls 4 [(3, .int sb), (1, .int ut), (2, .int sa), (0, .ref b0)] → W p l e (rm 5 465 1395) s m args below meth c H locs C5 S5 (MQ below (va_Qi (fun r (u : WS) => (fun r ad' f' => ad = ad' ∧ (r = 0 ∨ r = 1) ∧ mg g ad y cr dr th kn rf pl pz mc = f') r u.1 u.2) (fun u t => PO g N u.1 u.2 (aw N ad sz) t) (aw N ad sz)) args s (rm 5 465 1395).cells (rm 5 465 1395).slots (aw N ad sz)) (F0 m 23 ls []) := by
          intro n5
          induction n5 with
          | zero => intro sb ut C5 S5 H locs _ _ hn; exact absurd hn (Nat.not_lt_zero _)
          | succ n5 ih5 =>
            intro sb ut C5 S5 H locs hC5 hS5 hn5 hut hkt B ls hl
            refine lv_iload_n hx hb dX4_isSoundNow_23 rfl (lv_at hl 0 rfl) ?_
            refine lv_iconst (v := 4) hx hb dX4_isSoundNow_24 (by decide) ?_
            refine lv_icmp_ge (tgt := 87) hx hb dX4_isSoundNow_25 (by decide) (fun c6 => ?_) (fun c6 => ?_)
            · refine W.widen (show (C5 + 0) ≤ (C1 + 93) by omega) (show (S5 + 0) ≤ (S1 + 279) by omega) ?_
              refine lv_iinc (v := sa + 1) (lv' := [(2, .int (sa + 1)), (3, .int sb), (1, .int ut), (0, .ref b0)]) hx hb dX4_isSoundNow_87 hl (k := 2) rfl rfl (by decide) rfl (fun ls hl => ?_)
              refine lv_goto (tgt := 4) hx hb dX4_isSoundNow_90 (by decide) ?_
              exact ih1 (sa + 1) ut (C1 + 93) (S1 + 279) H locs (by omega) (by omega) (fu_le c2 hn1) hut (inc_nn hks c2) B ls (lv_sub hl [0, 2, 3] rfl)
            · refine lv_iload_n hx hb dX4_isSoundNow_28 rfl (lv_at hl 1 rfl) ?_
              refine lv_aload_n hx hb dX4_isSoundNow_29 rfl (lv_at hl 3 rfl) ?_
              refine b_get (q := 24) (k := 1) hb0 X hK B rfl in_X4 (by omega) mg_24 (by decide) lk_X4_11 rfl rfl dX4_isSoundNow_30 ?_
              refine lv_iload_n hx hb dX4_isSoundNow_33 rfl (lv_at hl 2 rfl) ?_
              refine b_aald (q := 25) (t0 := 2) (v := ad (28 + sa.toNatClampNeg)) rfl X hK B (by omega) mg_25 rfl rfl (ix_in (n := 4) hks c2 rfl) rfl dX4_isSoundNow_34 ?_
              have g7 : sa.toNatClampNeg < 4 := (ix_lt (n := 4) hks c2 rfl)
              refine lv_aload_n hx hb dX4_isSoundNow_35 rfl (lv_at hl 3 rfl) ?_
              refine b_get (q := 24) (k := 1) hb0 X hK B rfl in_X4 (by omega) mg_24 (by decide) lk_X4_11 rfl rfl dX4_isSoundNow_36 ?_
              refine lv_iload_n hx hb dX4_isSoundNow_39 rfl (lv_at hl 0 rfl) ?_
              refine b_aald (q := 25) (t0 := 2) (v := ad (28 + sb.toNatClampNeg)) rfl X hK B (by omega) mg_25 rfl rfl (ix_in (n := 4) hkt c6 rfl) rfl dX4_isSoundNow_40 ?_
              have g8 : sb.toNatClampNeg < 4 := (ix_lt (n := 4) hkt c6 rfl)
              refine k_i (k := (C5 + 11)) (n := (S5 + 33)) hA B (u_S (rest := [.int ut]) X (c_X4_areSound l g N ad (mg g ad y cr dr th kn rf pl pz mc) (28 + sa.toNatClampNeg) (ad (28 + sa.toNatClampNeg)) (cr sa.toNatClampNeg) (pl_cr hN g7) rfl (mg_cr g7) (28 + sb.toNatClampNeg) (ad (28 + sb.toNatClampNeg)) (cr sb.toNatClampNeg) (pl_cr hN g8) rfl (mg_cr g8) H.size) mw_X4_areSound md_X4_areSound rfl lk_X4_258 ⟨Nat.le_of_ble_eq_true rfl, Nat.le_of_ble_eq_true rfl⟩ hA hK hT B hl.1 rfl (Nat.le_of_ble_eq_true rfl) dX4_isSoundNow_41 (by dsimp only [rm]; omega)) (by dsimp only [rm]; omega) (by dsimp only [rm]; omega) (fun r9 ad9 f' H locs hw B => ?_)
              obtain ⟨rfl, rfl, rfl⟩ := hw
              refine lv_if_eq (tgt := 78) hx hb dX4_isSoundNow_44 (by decide) (fun c10 => ?_) (fun c10 => ?_)
              · refine lv_iconst (v := 0) hx hb dX4_isSoundNow_78 (by decide) ?_
                refine lv_iand hx hb dX4_isSoundNow_79 ?_
                refine lv_istore_n (lv' := [(1, .int (ut &&& 0)), (3, .int sb), (2, .int sa), (0, .ref b0)]) hx hb dX4_isSoundNow_80 rfl hl (by decide) rfl (fun ls hl => ?_)
                refine lv_iinc (v := sb + 1) (lv' := [(3, .int (sb + 1)), (1, .int (ut &&& 0)), (2, .int sa), (0, .ref b0)]) hx hb dX4_isSoundNow_81 hl (k := 1) rfl rfl (by decide) rfl (fun ls hl => ?_)
                refine lv_goto (tgt := 23) hx hb dX4_isSoundNow_84 (by decide) ?_
                exact ih5 (sb + 1) (ut &&& 0) (C5 + 11) (S5 + 33) H locs (by omega) (by omega) (fu_le c6 hn5) (and01 hut (Or.inl rfl)) (inc_nn hkt c6) B ls (lv_sub hl [0, 1, 2, 3] rfl)
              · refine lv_aload_n hx hb dX4_isSoundNow_47 rfl (lv_at hl 3 rfl) ?_
                refine b_get (q := 24) (k := 3) hb0 X hK B rfl in_X4 (by omega) mg_24 (by decide) lk_X4_23 rfl rfl dX4_isSoundNow_48 ?_
                refine lv_iload_n hx hb dX4_isSoundNow_51 rfl (lv_at hl 2 rfl) ?_
                refine b_aald (q := 26) (t0 := 2) (v := ad (32 + sa.toNatClampNeg)) rfl X hK B (by omega) mg_26 rfl rfl (ix_in (n := 4) hks c2 rfl) rfl dX4_isSoundNow_52 ?_
                have g11 : sa.toNatClampNeg < 4 := (ix_lt (n := 4) hks c2 rfl)
                refine lv_aload_n hx hb dX4_isSoundNow_53 rfl (lv_at hl 3 rfl) ?_
                refine b_get (q := 24) (k := 3) hb0 X hK B rfl in_X4 (by omega) mg_24 (by decide) lk_X4_23 rfl rfl dX4_isSoundNow_54 ?_
                refine lv_iload_n hx hb dX4_isSoundNow_57 rfl (lv_at hl 0 rfl) ?_
                refine b_aald (q := 26) (t0 := 2) (v := ad (32 + sb.toNatClampNeg)) rfl X hK B (by omega) mg_26 rfl rfl (ix_in (n := 4) hkt c6 rfl) rfl dX4_isSoundNow_58 ?_
                have g12 : sb.toNatClampNeg < 4 := (ix_lt (n := 4) hkt c6 rfl)
                refine k_r (k := (C5 + 13)) (n := (S5 + 39)) hA B (u_S (rest := [.int ut]) X (c_X4_apart l g N ad (mg g ad y cr dr th kn rf pl pz mc) (32 + sa.toNatClampNeg) (ad (32 + sa.toNatClampNeg)) (dr sa.toNatClampNeg) (pl_dr hN g11) rfl (mg_dr g11) (32 + sb.toNatClampNeg) (ad (32 + sb.toNatClampNeg)) (dr sb.toNatClampNeg) (pl_dr hN g12) rfl (mg_dr g12) (hdr _ g11) (hdr _ g12) H.size) mw_X4_apart md_X4_apart rfl lk_X4_219 ⟨Nat.le_of_ble_eq_true rfl, Nat.le_of_ble_eq_true rfl⟩ hA hK hT B hl.1 rfl (Nat.le_of_ble_eq_true rfl) dX4_isSoundNow_59 (by dsimp only [rm]; omega)) (by dsimp only [rm]; omega) (by dsimp only [rm]; omega) (fun r13 ad13 f' H locs hw B => ?_)
                generalize o14 : (v_X4_apart (dr sa.toNatClampNeg) (dr sb.toNatClampNeg)) = v9 at hw B
                cases v9 with
                | none =>
                  obtain ⟨rfl, rfl, rfl⟩ := pw_n hw
                  refine lv_ifnullN (tgt := 74) hx hb dX4_isSoundNow_62 (by decide) ?_
                  refine lv_iconst (v := 1) hx hb dX4_isSoundNow_74 (by decide) ?_
                  refine lv_goto (tgt := 79) hx hb dX4_isSoundNow_75 (by decide) ?_
                  refine lv_iand hx hb dX4_isSoundNow_79 ?_
                  refine lv_istore_n (lv' := [(1, .int (ut &&& 1)), (3, .int sb), (2, .int sa), (0, .ref b0)]) hx hb dX4_isSoundNow_80 rfl hl (by decide) rfl (fun ls hl => ?_)
                  refine lv_iinc (v := sb + 1) (lv' := [(3, .int (sb + 1)), (1, .int (ut &&& 1)), (2, .int sa), (0, .ref b0)]) hx hb dX4_isSoundNow_81 hl (k := 1) rfl rfl (by decide) rfl (fun ls hl => ?_)
                  refine lv_goto (tgt := 23) hx hb dX4_isSoundNow_84 (by decide) ?_
                  exact ih5 (sb + 1) (ut &&& 1) (C5 + 13) (S5 + 39) H locs (by omega) (by omega) (fu_le c6 hn5) (and01 hut (Or.inr rfl)) (inc_nn hkt c6) B ls (lv_sub hl [0, 1, 2, 3] rfl)
                | some t14 =>
                  obtain ⟨z14, rfl, rfl, rfl⟩ := pw_s hw
                  have B : WB g (aw N ad sz) s.heap (N + 1) (va_up ad N z14) (mg g (va_up ad N z14) (va_up y N (c_row g t14)) cr dr th kn rf pl pz mc) H locs := WM_push (by omega) B
                  refine lv_ifnull hx hb dX4_isSoundNow_62 ?_
                  refine lv_aload_n hx hb dX4_isSoundNow_65 rfl (lv_at hl 3 rfl) ?_
                  refine lv_iload_n hx hb dX4_isSoundNow_66 rfl (lv_at hl 2 rfl) ?_
                  refine lv_iload_n hx hb dX4_isSoundNow_67 rfl (lv_at hl 0 rfl) ?_
                  refine k_i (k := (C5 + 17)) (n := (S5 + 51)) hA B (b_V (q := 24) (rest := [.int ut]) ((up_lt (by omega)).trans hb0) X (c_X4_leadsBack l g (N + 1) (va_up ad N z14) (va_up y N (c_row g t14)) cr dr th kn rf pl pz mc (by omega) b0 ((up_lt (by omega)).trans hb0) sa sb (no_of hks c2) (no_of hkt c6) hdr H.size) mw_X4_leadsBack md_X4_leadsBack rfl lk_X4_239 ⟨Nat.le_of_ble_eq_true rfl, Nat.le_of_ble_eq_true rfl⟩ hA hK hT B (by omega) mg_24 rfl rfl hl.1 rfl (Nat.le_of_ble_eq_true rfl) dX4_isSoundNow_68 (by dsimp only [rm]; omega)) (by dsimp only [rm]; omega) (by dsimp only [rm]; omega) (fun r15 ad15 f' H locs hw B => ?_)
                  obtain ⟨rfl, rfl, rfl⟩ := hw
                  refine lv_if_eq (tgt := 78) hx hb dX4_isSoundNow_71 (by decide) (fun c16 => ?_) (fun c16 => ?_)
                  · refine lv_iconst (v := 0) hx hb dX4_isSoundNow_78 (by decide) ?_
                    refine lv_iand hx hb dX4_isSoundNow_79 ?_
                    refine lv_istore_n (lv' := [(1, .int (ut &&& 0)), (3, .int sb), (2, .int sa), (0, .ref b0)]) hx hb dX4_isSoundNow_80 rfl hl (by decide) rfl (fun ls hl => ?_)
                    refine lv_iinc (v := sb + 1) (lv' := [(3, .int (sb + 1)), (1, .int (ut &&& 0)), (2, .int sa), (0, .ref b0)]) hx hb dX4_isSoundNow_81 hl (k := 1) rfl rfl (by decide) rfl (fun ls hl => ?_)
                    refine lv_goto (tgt := 23) hx hb dX4_isSoundNow_84 (by decide) ?_
                    have B : WB g (aw N ad sz) s.heap N ad (mg g ad y cr dr th kn rf pl pz mc) H locs := WM_drop B (by omega) (by omega) (fun _ hk => (up_lt hk)) (fun _ hk => (up_lt hk))
                    exact ih5 (sb + 1) (ut &&& 0) (C5 + 17) (S5 + 51) H locs (by omega) (by omega) (fu_le c6 hn5) (and01 hut (Or.inl rfl)) (inc_nn hkt c6) B ls (lv_sub hl [0, 1, 2, 3] rfl)
                  · refine lv_iconst (v := 1) hx hb dX4_isSoundNow_74 (by decide) ?_
                    refine lv_goto (tgt := 79) hx hb dX4_isSoundNow_75 (by decide) ?_
                    refine lv_iand hx hb dX4_isSoundNow_79 ?_
                    refine lv_istore_n (lv' := [(1, .int (ut &&& 1)), (3, .int sb), (2, .int sa), (0, .ref b0)]) hx hb dX4_isSoundNow_80 rfl hl (by decide) rfl (fun ls hl => ?_)
                    refine lv_iinc (v := sb + 1) (lv' := [(3, .int (sb + 1)), (1, .int (ut &&& 1)), (2, .int sa), (0, .ref b0)]) hx hb dX4_isSoundNow_81 hl (k := 1) rfl rfl (by decide) rfl (fun ls hl => ?_)
                    refine lv_goto (tgt := 23) hx hb dX4_isSoundNow_84 (by decide) ?_
                    have B : WB g (aw N ad sz) s.heap N ad (mg g ad y cr dr th kn rf pl pz mc) H locs := WM_drop B (by omega) (by omega) (fun _ hk => (up_lt hk)) (fun _ hk => (up_lt hk))
                    exact ih5 (sb + 1) (ut &&& 1) (C5 + 17) (S5 + 51) H locs (by omega) (by omega) (fu_le c6 hn5) (and01 hut (Or.inr rfl)) (inc_nn hkt c6) B ls (lv_sub hl [0, 1, 2, 3] rfl)
        have hT5 : 4 + 1 ≤ 5 := (by decide)
        exact loop5 (4 + 1) 0 (us &&& (v_X4_isSpanSound (cr sa.toNatClampNeg))) (C1 + 8) (S1 + 24) H locs (by omega) (by omega) (by decide) (and01 hus b01_X4_isSpanSound) (by decide) B ls hl
  have hT1 : 4 + 1 ≤ 5 := (by decide)
  exact loop1 (4 + 1) 0 1 0 0 H locs (by omega) (by omega) (by decide) (Or.inr rfl) (by decide) B ls hl
def v_X4_isSound : Int32 := 0
set_option maxHeartbeats 4000000 in
set_option maxRecDepth 100000 in
theorem c_X4_isSound (l : Launch) (g : GG) (N : Nat) (ad : Nat → Nat) (y : Nat → va_E) (cr dr : Nat → TR) (th kn rf : Int32) (pl : Nat → TR) (pz : Nat) (mc : Int32) (hN : 36 + pz ≤ N) (b0 : Nat) (hb0 : ad 24 = b0) (hdr : ∀ i, i < 4 → okd (dr i)) : KI l yX4_isSound cX4_isSound 1 (some .boolean) (rm 6 465 1395) g [.ref b0] N ad (mg g ad y cr dr th kn rf pl pz mc) N (fun r ad' f' => ad = ad' ∧ (r = 0 ∨ r = 1) ∧ mg g ad y cr dr v_X4_isSound kn rf pl pz mc = f') := by
  intro sz
  refine mt_start (by decide) (Nat.le_of_ble_eq_true rfl) ?_
  intro p e s m args below meth c hsz X hr hnam hA hK hT H locs B ls hl
  obtain ⟨hx, hb, hml, hown, hts, hlocks⟩ := id X
  have hl : lv_has ls 1 [(0, .ref b0)] := hl
  refine lv_aload_n hx hb dX4_isSound_0 rfl (lv_at hl 0 rfl) ?_
  refine lv_iconst (v := 0) hx hb dX4_isSound_1 (by decide) ?_
  refine b_put (q := 24) (k := 0) hb0 X hK B rfl in_X4 tyX4_ok nmX4 (by omega) mg_24 (by decide) lk_X4_26 rfl rfl rfl rfl rfl (Nat.le_of_ble_eq_true rfl) dX4_isSound_2 (fun H locs B => ?_)
  have B : WB g (aw N ad sz) s.heap N ad (mg g ad y cr dr 0 kn rf pl pz mc) H locs := by rw [← mg_up_md]; exact B
  refine lv_aload_n hx hb dX4_isSound_5 rfl (lv_at hl 0 rfl) ?_
  refine k_i (k := 465) (n := 1395) hA B (b_V (q := 24) (rest := []) hb0 X (c_X4_isSoundNow l g N ad y cr dr 0 kn rf pl pz mc (by omega) b0 hb0 hdr H.size) mw_X4_isSoundNow md_X4_isSoundNow rfl lk_X4_261 ⟨Nat.le_of_ble_eq_true rfl, Nat.le_of_ble_eq_true rfl⟩ hA hK hT B (by omega) mg_24 rfl rfl hl.1 rfl (Nat.le_of_ble_eq_true rfl) dX4_isSound_6 ⟨Nat.le_of_ble_eq_true rfl, Nat.le_of_ble_eq_true rfl⟩) (Nat.le_of_ble_eq_true rfl) (Nat.le_of_ble_eq_true rfl) (fun r1 ad1 f' H locs hw B => ?_)
  obtain ⟨rfl, r1b, rfl⟩ := hw
  have ev := (show v_X4_isSound = 0 from rfl)
  exact rt_i X hr (ad, mg g ad y cr dr 0 kn rf pl pz mc) B (PO_of B) ⟨rfl, r1b, by rw [ev]⟩ (nb_of r1b) (Nat.le_of_ble_eq_true rfl) (Nat.le_of_ble_eq_true rfl) dX4_isSound_9
