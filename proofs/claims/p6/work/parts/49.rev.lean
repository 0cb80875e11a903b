def wJ5_reverse_278bc_28 (cnt : Nat) : Nat → Int32 → (Nat → Int32) → (Nat → Int32)
  | 0, jj, bt9 => bt9
  | n + 1, jj, bt9 => if jj < 0 then bt9 else (wJ5_reverse_278bc_28 cnt n (jj + (-1)) (upd (upd bt9 jj.toNatClampNeg (vp_nar .byte (bt9 ((((nI cnt) - 1) - jj).toNatClampNeg)))) ((((nI cnt) - 1) - jj).toNatClampNeg) (vp_nar .byte (bt9 jj.toNatClampNeg))))
def v_J5_reverse_278bc (bt : Nat → Int32) (cnt : Nat) : (Nat → Int32) := wJ5_reverse_278bc_28 cnt ((((((nI cnt) - 1) - 1) >>> (1 &&& 31)).toInt + 1).toNat + 1) ((((nI cnt) - 1) - 1) >>> (1 &&& 31)) bt
set_option maxHeartbeats 4000000 in
set_option maxRecDepth 100000 in
theorem c_J5_reverse_278bc (l : Launch) (g : GG) (N : Nat) (ad : Nat → Nat) (f : Nat → va_E) (qs qb bs b cnt n : Nat) (ml : Int32) (bt : Nat → Int32) (hqs : qs < N) (hqb : qb < N) (hne : qs ≠ qb) (hbs : ad qs = bs) (hbb : ad qb = b) (hfs : f qs = c_sb b ml cnt) (hfb : f qb = .inl (g.2.1 1, n, .inl bt)) (hF : sb_Fit bt) (hcn : cnt ≤ n) (hn : n ≤ 150) : KR l yJ5_reverse_278bc cJ5_reverse_278bc 7 (.object "java/lang/AbstractStringBuilder") (rm 1 0 0) g [.ref bs] N ad f N (fun r ad' f' => ad = ad' ∧ some bs = r ∧ va_up f qb (.inl (g.2.1 1, n, .inl (v_J5_reverse_278bc bt cnt))) = f') := by
  intro sz
  refine mt_start (by decide) (Nat.le_of_ble_eq_true rfl) ?_
  intro p e s m args below meth c hsz X hr hnam hA hK hT H locs B ls hl
  obtain ⟨hx, hb, hml, hown, hts, hlocks⟩ := id X
  have hl : lv_has ls 7 [(0, .ref bs)] := hl
  have B : WB g (aw N ad sz) s.heap N ad (va_up f qb (.inl (g.2.1 1, n, .inl bt))) H locs := WB.cast B (fun k _ => up_id hfb k)
  refine lv_aload_n hx hb dJ5_reverse_278bc_0 rfl (lv_at hl 0 rfl) ?_
  refine b_get (q := qs) (k := 0) hbs X hK B rfl in_J4 hqs ((va_up_ne _ _ hne).trans hfs) (by decide) lk_J5_15 rfl rfl dJ5_reverse_278bc_1 ?_
  refine lv_astore_n (lv' := [(1, .ref b), (0, .ref bs)]) hx hb dJ5_reverse_278bc_4 rfl hl (by decide) rfl (fun ls hl => ?_)
  refine lv_aload_n hx hb dJ5_reverse_278bc_5 rfl (lv_at hl 1 rfl) ?_
  refine b_get (q := qs) (k := 3) hbs X hK B rfl in_J4 hqs ((va_up_ne _ _ hne).trans hfs) (by decide) lk_J5_79 rfl rfl dJ5_reverse_278bc_6 ?_
  refine lv_istore_n (lv' := [(2, .int (nI cnt)), (1, .ref b), (0, .ref bs)]) hx hb dJ5_reverse_278bc_9 rfl hl (by decide) rfl (fun ls hl => ?_)
  refine lv_iload_n hx hb dJ5_reverse_278bc_10 rfl (lv_at hl 0 rfl) ?_
  refine lv_iconst (v := 1) hx hb dJ5_reverse_278bc_11 (by decide) ?_
  refine lv_isub hx hb dJ5_reverse_278bc_12 ?_
  refine lv_istore_n (lv' := [(3, .int ((nI cnt) - 1)), (2, .int (nI cnt)), (1, .ref b), (0, .ref bs)]) hx hb dJ5_reverse_278bc_13 rfl hl (by decide) rfl (fun ls hl => ?_)
  refine lv_aload_n hx hb dJ5_reverse_278bc_14 rfl (lv_at hl 3 rfl) ?_
  refine k_i (k := 0) (n := 0) hA B (u_H (x := yJ5_isLatin1_aae02) (q := qs) (rest := []) hbs X (c_S_lat l g N ad (va_up f qb (.inl (g.2.1 1, n, .inl bt))) qs qb bs b cnt n ml bt hqs hqb hne hbs hbb ((va_up_ne _ _ hne).trans hfs) (va_up_self _ _ _) hF H.size) mc_J5_isLatin1_aae02 ⟨mc_J5_isLatin1_aae02.1, mc_J5_isLatin1_aae02.2.1⟩ (tb_in (lw_at 191 (by decide +kernel)) rfl) (tb_in (lw_at 192 (by decide +kernel)) rfl) md_J5_isLatin1_aae02 rfl lk_J5_83 ⟨Nat.le_of_ble_eq_true rfl, Nat.le_of_ble_eq_true rfl⟩ hA hK hT B hqs ((va_up_ne _ _ hne).trans hfs) hl.1 rfl (Nat.le_of_ble_eq_true rfl) dJ5_reverse_278bc_15 ⟨Nat.le_of_ble_eq_true rfl, Nat.le_of_ble_eq_true rfl⟩) (Nat.le_of_ble_eq_true rfl) (Nat.le_of_ble_eq_true rfl) (fun r ad' f' H locs hw B => ?_)
  obtain ⟨rfl, rfl, rfl⟩ := hw
  refine lv_if_eq (tgt := 68) hx hb dJ5_reverse_278bc_18 (by decide) (fun z => absurd z (by decide)) (fun _ => ?_)
  refine lv_iload_n hx hb dJ5_reverse_278bc_21 rfl (lv_at hl 0 rfl) ?_
  refine lv_iconst (v := 1) hx hb dJ5_reverse_278bc_22 (by decide) ?_
  refine lv_isub hx hb dJ5_reverse_278bc_23 ?_
  refine lv_iconst (v := 1) hx hb dJ5_reverse_278bc_24 (by decide) ?_
  refine lv_ishr hx hb dJ5_reverse_278bc_25 ?_
  refine lv_istore (lv' := [(4, .int ((((nI cnt) - 1) - 1) >>> (1 &&& 31))), (3, .int ((nI cnt) - 1)), (2, .int (nI cnt)), (1, .ref b), (0, .ref bs)]) hx hb dJ5_reverse_278bc_26 hl (by decide) rfl (fun ls hl => ?_)
  have hl : lv_has ls 7 [(0, .ref bs), (1, .ref b), (2, .int (nI cnt)), (3, .int ((nI cnt) - 1)), (4, .int ((((nI cnt) - 1) - 1) >>> (1 &&& 31)))] := lv_sub hl [4, 3, 2, 1, 0] rfl
  have loop1 : ∀ (n1 : Nat) (jj : Int32) (bt9 : Nat → Int32) (H : Heap) (locs : List Loc), (jj.toInt + 1).toNat < n1 → v_J5_reverse_278bc bt cnt = wJ5_reverse_278bc_28 cnt n1 jj bt9 → rvi jj cnt → WB g (aw N ad sz) s.heap N ad (va_up f qb (.inl (g.2.1 1, n, .inl bt9))) H locs → ∀ ls : Array Slot, lv_has ls 7 [(0, .ref bs), (1, .ref b), (2, .int (nI cnt)), (3, .int ((nI cnt) - 1)), (4, .int jj)] → W p l e (rm 1 0 0) s m args below meth c H locs 0 0 (MQ below (va_Qq (fun r (u : WS) => (fun r ad' f' => ad = ad' ∧ some bs = r ∧ va_up f qb (.inl (g.2.1 1, n, .inl (v_J5_reverse_278bc bt cnt))) = f') r u.1 u.2) (fun u t => PO g N u.1 u.2 (aw N ad sz) t) (aw N ad sz)) args s (rm 1 0 0).cells (rm 1 0 0).slots (aw N ad sz)) (F0 m 28 ls []) := by
    intro n1
    induction n1 with
    | zero => intro jj bt9 H locs hn; exact absurd hn (Nat.not_lt_zero _)
    | succ n1 ih1 =>
      intro jj bt9 H locs hn1 he1 hj B ls hl
      refine lv_iload hx hb dJ5_reverse_278bc_28 (lv_at hl 4 rfl) ?_
      refine lv_if_lt (tgt := 65) hx hb dJ5_reverse_278bc_30 (by decide) (fun c2 => ?_) (fun c2 => ?_)
      · refine lv_goto (tgt := 73) hx hb dJ5_reverse_278bc_65 (by decide) ?_
        refine lv_aload_n hx hb dJ5_reverse_278bc_73 rfl (lv_at hl 0 rfl) ?_
        have ev := (show v_J5_reverse_278bc bt cnt = bt9 from he1.trans (by rw [wJ5_reverse_278bc_28, if_pos c2]))
        exact rt_r (r := some bs) rfl X hr (Or.inl ⟨_, rfl⟩) (ad, va_up f qb (.inl (g.2.1 1, n, .inl bt9))) B (PO_of B) ⟨rfl, rfl, by rw [ev]⟩ (Nat.le_of_ble_eq_true rfl) (Nat.le_of_ble_eq_true rfl) dJ5_reverse_278bc_74
      · refine lv_iload_n hx hb dJ5_reverse_278bc_33 rfl (lv_at hl 3 rfl) ?_
        refine lv_iload hx hb dJ5_reverse_278bc_34 (lv_at hl 4 rfl) ?_
        refine lv_isub hx hb dJ5_reverse_278bc_36 ?_
        refine lv_istore (lv' := [(5, .int (((nI cnt) - 1) - jj)), (0, .ref bs), (1, .ref b), (2, .int (nI cnt)), (3, .int ((nI cnt) - 1)), (4, .int jj)]) hx hb dJ5_reverse_278bc_37 hl (by decide) rfl (fun ls hl => ?_)
        refine lv_aload_n hx hb dJ5_reverse_278bc_39 rfl (lv_at hl 2 rfl) ?_
        refine lv_iload hx hb dJ5_reverse_278bc_40 (lv_at hl 5 rfl) ?_
        refine b_bald (q := qb) hbb X hK B hqb (va_up_self _ _ _) (rv_1 hj c2 hcn).1 dJ5_reverse_278bc_42 ?_
        refine lv_istore (lv' := [(6, .int (bt9 jj.toNatClampNeg)), (5, .int (((nI cnt) - 1) - jj)), (0, .ref bs), (1, .ref b), (2, .int (nI cnt)), (3, .int ((nI cnt) - 1)), (4, .int jj)]) hx hb dJ5_reverse_278bc_43 hl (by decide) rfl (fun ls hl => ?_)
        refine lv_aload_n hx hb dJ5_reverse_278bc_45 rfl (lv_at hl 3 rfl) ?_
        refine lv_iload hx hb dJ5_reverse_278bc_46 (lv_at hl 6 rfl) ?_
        refine lv_aload_n hx hb dJ5_reverse_278bc_48 rfl (lv_at hl 3 rfl) ?_
        refine lv_iload hx hb dJ5_reverse_278bc_49 (lv_at hl 1 rfl) ?_
        refine b_bald (q := qb) hbb X hK B hqb (va_up_self _ _ _) (rv_2 hj c2 hcn hn).1 dJ5_reverse_278bc_51 ?_
        refine b_bast (q := qb) hbb X hK B hqb (va_up_self _ _ _) (rv_1 hj c2 hcn).1 dJ5_reverse_278bc_52 (fun H locs B => ?_)
        rw [bx_uu] at B
        refine lv_aload_n hx hb dJ5_reverse_278bc_53 rfl (lv_at hl 3 rfl) ?_
        refine lv_iload hx hb dJ5_reverse_278bc_54 (lv_at hl 1 rfl) ?_
        refine lv_iload hx hb dJ5_reverse_278bc_56 (lv_at hl 0 rfl) ?_
        refine b_bast (q := qb) hbb X hK B hqb (va_up_self _ _ _) (rv_2 hj c2 hcn hn).1 dJ5_reverse_278bc_58 (fun H locs B => ?_)
        rw [bx_uu] at B
        refine lv_iinc (v := jj + (-1)) (lv' := [(4, .int (jj + (-1))), (6, .int (bt9 jj.toNatClampNeg)), (5, .int (((nI cnt) - 1) - jj)), (0, .ref bs), (1, .ref b), (2, .int (nI cnt)), (3, .int ((nI cnt) - 1))]) hx hb dJ5_reverse_278bc_59 hl (k := 6) rfl rfl (by decide) rfl (fun ls hl => ?_)
        refine lv_goto (tgt := 28) hx hb dJ5_reverse_278bc_62 (by decide) ?_
        exact ih1 (jj + (-1)) (upd (upd bt9 jj.toNatClampNeg (vp_nar .byte (bt9 ((((nI cnt) - 1) - jj).toNatClampNeg)))) ((((nI cnt) - 1) - jj).toNatClampNeg) (vp_nar .byte (bt9 jj.toNatClampNeg))) H locs (rv_dec hj c2 hn1) (show v_J5_reverse_278bc bt cnt = wJ5_reverse_278bc_28 cnt n1 (jj + (-1)) (upd (upd bt9 jj.toNatClampNeg (vp_nar .byte (bt9 ((((nI cnt) - 1) - jj).toNatClampNeg)))) ((((nI cnt) - 1) - jj).toNatClampNeg) (vp_nar .byte (bt9 jj.toNatClampNeg))) from he1.trans (by rw [wJ5_reverse_278bc_28, if_neg c2])) (rv_next hj c2) B ls (lv_sub hl [3, 4, 5, 6, 0] rfl)
  exact loop1 ((((((nI cnt) - 1) - 1) >>> (1 &&& 31)).toInt + 1).toNat + 1) ((((nI cnt) - 1) - 1) >>> (1 &&& 31)) bt H locs (Nat.lt_succ_self _) (show v_J5_reverse_278bc bt cnt = wJ5_reverse_278bc_28 cnt ((((((nI cnt) - 1) - 1) >>> (1 &&& 31)).toInt + 1).toNat + 1) ((((nI cnt) - 1) - 1) >>> (1 &&& 31)) bt from rfl) (rv_0 (by omega)) B ls hl
