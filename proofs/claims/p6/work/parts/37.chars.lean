def wJ6_getChars_ba4f3_22 : Nat → Int32 → Int32 → Int32 → (Nat → Int32) → Int32 × (Nat → Int32)
  | 0, xx, pp, ss, bt9 => (0, bt9)
  | n + 1, xx, pp, ss, bt9 => if (-100) < xx then (if (-9) ≤ xx then (if ss = 0 then (pp + (-1), upd bt9 ((pp + (-1)).toNatClampNeg) (vp_nar .byte (st_ones.getD ((-xx).toNatClampNeg) 0))) else ((pp + (-1)) + (-1), upd (upd bt9 ((pp + (-1)).toNatClampNeg) (vp_nar .byte (st_ones.getD ((-xx).toNatClampNeg) 0))) (((pp + (-1)) + (-1)).toNatClampNeg) (vp_nar .byte 45))) else (if ss = 0 then ((pp + (-1)) + (-1), upd (upd bt9 ((pp + (-1)).toNatClampNeg) (vp_nar .byte (st_ones.getD ((-xx).toNatClampNeg) 0))) (((pp + (-1)) + (-1)).toNatClampNeg) (vp_nar .byte (st_tens.getD ((-xx).toNatClampNeg) 0))) else (((pp + (-1)) + (-1)) + (-1), upd (upd (upd bt9 ((pp + (-1)).toNatClampNeg) (vp_nar .byte (st_ones.getD ((-xx).toNatClampNeg) 0))) (((pp + (-1)) + (-1)).toNatClampNeg) (vp_nar .byte (st_tens.getD ((-xx).toNatClampNeg) 0))) ((((pp + (-1)) + (-1)) + (-1)).toNatClampNeg) (vp_nar .byte 45)))) else (wJ6_getChars_ba4f3_22 n (xx / 100) ((pp + (-1)) + (-1)) ss (upd (upd bt9 ((pp + (-1)).toNatClampNeg) (vp_nar .byte (st_ones.getD ((((xx / 100) * 100) - xx).toNatClampNeg) 0))) (((pp + (-1)) + (-1)).toNatClampNeg) (vp_nar .byte (st_tens.getD ((((xx / 100) * 100) - xx).toNatClampNeg) 0))))
def v_J6_getChars_ba4f3 (bt : Nat → Int32) (a0 : Int32) (a1 : Int32) : Int32 × (Nat → Int32) := if 0 ≤ a0 then (wJ6_getChars_ba4f3_22 ((-a0).toInt.natAbs + 1) (-a0) a1 0 bt) else (wJ6_getChars_ba4f3_22 (a0.toInt.natAbs + 1) a0 a1 1 bt)
set_option maxHeartbeats 4000000 in
set_option maxRecDepth 100000 in
theorem c_J6_getChars_ba4f3 (l : Launch) (g : GG) (N : Nat) (ad : Nat → Nat) (f : Nat → va_E) (a0 : Int32) (a1 : Int32) (qb n b : Nat) (bt : Nat → Int32) (hqb : qb < N) (hbb : ad qb = b) (hfb : f qb = .inl (g.2.1 1, n, .inl bt)) (hgc : gcs a0 a1 n) : KI l yJ6_getChars_ba4f3 cJ6_getChars_ba4f3 7 (some .int) (rm 0 0 0) g [.int a0, .int a1, .ref b] N ad f N (fun r ad' f' => ad = ad' ∧ (v_J6_getChars_ba4f3 bt a0 a1).1 = r ∧ va_up f qb (.inl (g.2.1 1, n, .inl (v_J6_getChars_ba4f3 bt a0 a1).2)) = f') := by
  intro sz
  refine mt_start (by decide) (Nat.le_of_ble_eq_true rfl) ?_
  intro p e s m args below meth c hsz X hr hnam hA hK hT H locs B ls hl
  obtain ⟨hx, hb, hml, hown, hts, hlocks⟩ := id X
  have hl : lv_has ls 7 [(0, .int a0), (1, .int a1), (2, .ref b)] := hl
  have B : WB g (aw N ad sz) s.heap N ad (va_up f qb (.inl (g.2.1 1, n, .inl bt))) H locs := WB.cast B (fun k _ => up_id hfb k)
  refine lv_iload_n hx hb dJ6_getChars_ba4f3_0 rfl (lv_at hl 1 rfl) ?_
  refine lv_istore (lv' := [(5, .int a1), (0, .int a0), (1, .int a1), (2, .ref b)]) hx hb dJ6_getChars_ba4f3_1 hl (by decide) rfl (fun ls hl => ?_)
  refine lv_iload_n hx hb dJ6_getChars_ba4f3_3 rfl (lv_at hl 1 rfl) ?_
  refine lv_if_ge (tgt := 11) hx hb dJ6_getChars_ba4f3_4 (by decide) (fun c1 => ?_) (fun c1 => ?_)
  · refine lv_iconst (v := 0) hx hb dJ6_getChars_ba4f3_11 (by decide) ?_
    refine lv_istore (lv' := [(6, .int 0), (5, .int a1), (0, .int a0), (1, .int a1), (2, .ref b)]) hx hb dJ6_getChars_ba4f3_12 hl (by decide) rfl (fun ls hl => ?_)
    refine lv_iload hx hb dJ6_getChars_ba4f3_14 (lv_at hl 0 rfl) ?_
    refine lv_if_ne (tgt := 22) hx hb dJ6_getChars_ba4f3_16 (by decide) (fun z => absurd z (by decide)) (fun _ => ?_)
    refine lv_iload_n hx hb dJ6_getChars_ba4f3_19 rfl (lv_at hl 2 rfl) ?_
    refine lv_ineg hx hb dJ6_getChars_ba4f3_20 ?_
    refine lv_istore_n (lv' := [(0, .int (-a0)), (6, .int 0), (5, .int a1), (1, .int a1), (2, .ref b)]) hx hb dJ6_getChars_ba4f3_21 rfl hl (by decide) rfl (fun ls hl => ?_)
    have hl : lv_has ls 7 [(0, .int (-a0)), (1, .int a1), (2, .ref b), (5, .int a1), (6, .int 0)] := lv_sub hl [0, 3, 4, 2, 1] rfl
    have loop2 : ∀ (n2 : Nat) (xx : Int32) (pp : Int32) (ss : Int32) (bt9 : Nat → Int32) (H : Heap) (locs : List Loc), xx.toInt.natAbs < n2 → v_J6_getChars_ba4f3 bt a0 a1 = wJ6_getChars_ba4f3_22 n2 xx pp ss bt9 → gci xx pp ss n → WB g (aw N ad sz) s.heap N ad (va_up f qb (.inl (g.2.1 1, n, .inl bt9))) H locs → ∀ ls : Array Slot, lv_has ls 7 [(0, .int xx), (1, .int a1), (2, .ref b), (5, .int pp), (6, .int ss)] → W p l e (rm 0 0 0) s m args below meth c H locs 0 0 (MQ below (va_Qi (fun r (u : WS) => (fun r ad' f' => ad = ad' ∧ (v_J6_getChars_ba4f3 bt a0 a1).1 = r ∧ va_up f qb (.inl (g.2.1 1, n, .inl (v_J6_getChars_ba4f3 bt a0 a1).2)) = f') r u.1 u.2) (fun u t => PO g N u.1 u.2 (aw N ad sz) t) (aw N ad sz)) args s (rm 0 0 0).cells (rm 0 0 0).slots (aw N ad sz)) (F0 m 22 ls []) := by
      intro n2
      induction n2 with
      | zero => intro xx pp ss bt9 H locs hn; exact absurd hn (Nat.not_lt_zero _)
      | succ n2 ih2 =>
        intro xx pp ss bt9 H locs hn2 he2 hg B ls hl
        refine lv_iload_n hx hb dJ6_getChars_ba4f3_22 rfl (lv_at hl 0 rfl) ?_
        refine lv_bipush (v := (-100)) hx hb dJ6_getChars_ba4f3_23 (by decide) ?_
        refine lv_icmp_gt (tgt := 72) hx hb dJ6_getChars_ba4f3_25 (by decide) (fun c3 => ?_) (fun c3 => ?_)
        · refine lv_aload_n hx hb dJ6_getChars_ba4f3_72 rfl (lv_at hl 2 rfl) ?_
          refine lv_iinc (v := pp + (-1)) (lv' := [(5, .int (pp + (-1))), (0, .int xx), (1, .int a1), (2, .ref b), (6, .int ss)]) hx hb dJ6_getChars_ba4f3_73 hl (k := 3) rfl rfl (by decide) rfl (fun ls hl => ?_)
          refine lv_iload hx hb dJ6_getChars_ba4f3_76 (lv_at hl 0 rfl) ?_
          refine va_gets hx hb hT.2.1.2.1.1 B.2.2 hown (hts _ (List.mem_cons_of_mem _ lk_J6_83)) (fun _ h => h) dJ6_getChars_ba4f3_78 ?_
          refine lv_iload_n hx hb dJ6_getChars_ba4f3_81 rfl (lv_at hl 1 rfl) ?_
          refine lv_ineg hx hb dJ6_getChars_ba4f3_82 ?_
          refine va_tb hx hb hT.2.1.2.1.2 B.2.2 (gt_neg hg c3).1 rfl dJ6_getChars_ba4f3_83 ?_
          refine b_bast (q := qb) hbb X hK B hqb (va_up_self _ _ _) (gp_1 hg).1 dJ6_getChars_ba4f3_84 (fun H locs B => ?_)
          rw [bx_uu] at B
          refine lv_iload_n hx hb dJ6_getChars_ba4f3_85 rfl (lv_at hl 1 rfl) ?_
          refine lv_bipush (v := (-9)) hx hb dJ6_getChars_ba4f3_86 (by decide) ?_
          refine lv_icmp_ge (tgt := 104) hx hb dJ6_getChars_ba4f3_88 (by decide) (fun c4 => ?_) (fun c4 => ?_)
          · refine lv_iload hx hb dJ6_getChars_ba4f3_104 (lv_at hl 4 rfl) ?_
            refine lv_if_eq (tgt := 118) hx hb dJ6_getChars_ba4f3_106 (by decide) (fun c5 => ?_) (fun c5 => ?_)
            · refine lv_iload hx hb dJ6_getChars_ba4f3_118 (lv_at hl 0 rfl) ?_
              have ev := (show v_J6_getChars_ba4f3 bt a0 a1 = (pp + (-1), upd bt9 ((pp + (-1)).toNatClampNeg) (vp_nar .byte (st_ones.getD ((-xx).toNatClampNeg) 0))) from he2.trans (by rw [wJ6_getChars_ba4f3_22, if_pos c3, if_pos c4, if_pos c5]))
              exact rt_i X hr (ad, va_up f qb (.inl (g.2.1 1, n, .inl (upd bt9 ((pp + (-1)).toNatClampNeg) (vp_nar .byte (st_ones.getD ((-xx).toNatClampNeg) 0)))))) B (PO_of B) ⟨rfl, by rw [ev], by rw [ev]⟩ rfl (Nat.le_of_ble_eq_true rfl) (Nat.le_of_ble_eq_true rfl) dJ6_getChars_ba4f3_120
            · refine lv_aload_n hx hb dJ6_getChars_ba4f3_109 rfl (lv_at hl 3 rfl) ?_
              refine lv_iinc (v := (pp + (-1)) + (-1)) (lv' := [(5, .int ((pp + (-1)) + (-1))), (0, .int xx), (1, .int a1), (2, .ref b), (6, .int ss)]) hx hb dJ6_getChars_ba4f3_110 hl (k := 0) rfl rfl (by decide) rfl (fun ls hl => ?_)
              refine lv_iload hx hb dJ6_getChars_ba4f3_113 (lv_at hl 0 rfl) ?_
              refine lv_bipush (v := 45) hx hb dJ6_getChars_ba4f3_115 (by decide) ?_
              refine b_bast (q := qb) hbb X hK B hqb (va_up_self _ _ _) (gp_s1 hg c5).1 dJ6_getChars_ba4f3_117 (fun H locs B => ?_)
              rw [bx_uu] at B
              refine lv_iload hx hb dJ6_getChars_ba4f3_118 (lv_at hl 0 rfl) ?_
              have ev := (show v_J6_getChars_ba4f3 bt a0 a1 = ((pp + (-1)) + (-1), upd (upd bt9 ((pp + (-1)).toNatClampNeg) (vp_nar .byte (st_ones.getD ((-xx).toNatClampNeg) 0))) (((pp + (-1)) + (-1)).toNatClampNeg) (vp_nar .byte 45)) from he2.trans (by rw [wJ6_getChars_ba4f3_22, if_pos c3, if_pos c4, if_neg c5]))
              exact rt_i X hr (ad, va_up f qb (.inl (g.2.1 1, n, .inl (upd (upd bt9 ((pp + (-1)).toNatClampNeg) (vp_nar .byte (st_ones.getD ((-xx).toNatClampNeg) 0))) (((pp + (-1)) + (-1)).toNatClampNeg) (vp_nar .byte 45))))) B (PO_of B) ⟨rfl, by rw [ev], by rw [ev]⟩ rfl (Nat.le_of_ble_eq_true rfl) (Nat.le_of_ble_eq_true rfl) dJ6_getChars_ba4f3_120
          · refine lv_aload_n hx hb dJ6_getChars_ba4f3_91 rfl (lv_at hl 3 rfl) ?_
            refine lv_iinc (v := (pp + (-1)) + (-1)) (lv' := [(5, .int ((pp + (-1)) + (-1))), (0, .int xx), (1, .int a1), (2, .ref b), (6, .int ss)]) hx hb dJ6_getChars_ba4f3_92 hl (k := 0) rfl rfl (by decide) rfl (fun ls hl => ?_)
            refine lv_iload hx hb dJ6_getChars_ba4f3_95 (lv_at hl 0 rfl) ?_
            refine va_gets hx hb hT.2.1.2.2.1.1 B.2.2 hown (hts _ (List.mem_cons_of_mem _ lk_J6_87)) (fun _ h => h) dJ6_getChars_ba4f3_97 ?_
            refine lv_iload_n hx hb dJ6_getChars_ba4f3_100 rfl (lv_at hl 1 rfl) ?_
            refine lv_ineg hx hb dJ6_getChars_ba4f3_101 ?_
            refine va_tb hx hb hT.2.1.2.2.1.2 B.2.2 (gt_neg hg c3).1 rfl dJ6_getChars_ba4f3_102 ?_
            refine b_bast (q := qb) hbb X hK B hqb (va_up_self _ _ _) (gp_2n hg c4).1 dJ6_getChars_ba4f3_103 (fun H locs B => ?_)
            rw [bx_uu] at B
            refine lv_iload hx hb dJ6_getChars_ba4f3_104 (lv_at hl 4 rfl) ?_
            refine lv_if_eq (tgt := 118) hx hb dJ6_getChars_ba4f3_106 (by decide) (fun c6 => ?_) (fun c6 => ?_)
            · refine lv_iload hx hb dJ6_getChars_ba4f3_118 (lv_at hl 0 rfl) ?_
              have ev := (show v_J6_getChars_ba4f3 bt a0 a1 = ((pp + (-1)) + (-1), upd (upd bt9 ((pp + (-1)).toNatClampNeg) (vp_nar .byte (st_ones.getD ((-xx).toNatClampNeg) 0))) (((pp + (-1)) + (-1)).toNatClampNeg) (vp_nar .byte (st_tens.getD ((-xx).toNatClampNeg) 0))) from he2.trans (by rw [wJ6_getChars_ba4f3_22, if_pos c3, if_neg c4, if_pos c6]))
              exact rt_i X hr (ad, va_up f qb (.inl (g.2.1 1, n, .inl (upd (upd bt9 ((pp + (-1)).toNatClampNeg) (vp_nar .byte (st_ones.getD ((-xx).toNatClampNeg) 0))) (((pp + (-1)) + (-1)).toNatClampNeg) (vp_nar .byte (st_tens.getD ((-xx).toNatClampNeg) 0)))))) B (PO_of B) ⟨rfl, by rw [ev], by rw [ev]⟩ rfl (Nat.le_of_ble_eq_true rfl) (Nat.le_of_ble_eq_true rfl) dJ6_getChars_ba4f3_120
            · refine lv_aload_n hx hb dJ6_getChars_ba4f3_109 rfl (lv_at hl 3 rfl) ?_
              refine lv_iinc (v := ((pp + (-1)) + (-1)) + (-1)) (lv' := [(5, .int (((pp + (-1)) + (-1)) + (-1))), (0, .int xx), (1, .int a1), (2, .ref b), (6, .int ss)]) hx hb dJ6_getChars_ba4f3_110 hl (k := 0) rfl rfl (by decide) rfl (fun ls hl => ?_)
              refine lv_iload hx hb dJ6_getChars_ba4f3_113 (lv_at hl 0 rfl) ?_
              refine lv_bipush (v := 45) hx hb dJ6_getChars_ba4f3_115 (by decide) ?_
              refine b_bast (q := qb) hbb X hK B hqb (va_up_self _ _ _) (gp_s2 hg c4 c6).1 dJ6_getChars_ba4f3_117 (fun H locs B => ?_)
              rw [bx_uu] at B
              refine lv_iload hx hb dJ6_getChars_ba4f3_118 (lv_at hl 0 rfl) ?_
              have ev := (show v_J6_getChars_ba4f3 bt a0 a1 = (((pp + (-1)) + (-1)) + (-1), upd (upd (upd bt9 ((pp + (-1)).toNatClampNeg) (vp_nar .byte (st_ones.getD ((-xx).toNatClampNeg) 0))) (((pp + (-1)) + (-1)).toNatClampNeg) (vp_nar .byte (st_tens.getD ((-xx).toNatClampNeg) 0))) ((((pp + (-1)) + (-1)) + (-1)).toNatClampNeg) (vp_nar .byte 45)) from he2.trans (by rw [wJ6_getChars_ba4f3_22, if_pos c3, if_neg c4, if_neg c6]))
              exact rt_i X hr (ad, va_up f qb (.inl (g.2.1 1, n, .inl (upd (upd (upd bt9 ((pp + (-1)).toNatClampNeg) (vp_nar .byte (st_ones.getD ((-xx).toNatClampNeg) 0))) (((pp + (-1)) + (-1)).toNatClampNeg) (vp_nar .byte (st_tens.getD ((-xx).toNatClampNeg) 0))) ((((pp + (-1)) + (-1)) + (-1)).toNatClampNeg) (vp_nar .byte 45))))) B (PO_of B) ⟨rfl, by rw [ev], by rw [ev]⟩ rfl (Nat.le_of_ble_eq_true rfl) (Nat.le_of_ble_eq_true rfl) dJ6_getChars_ba4f3_120
        · refine lv_iload_n hx hb dJ6_getChars_ba4f3_28 rfl (lv_at hl 0 rfl) ?_
          refine lv_bipush (v := 100) hx hb dJ6_getChars_ba4f3_29 (by decide) ?_
          refine lv_idiv hx hb dJ6_getChars_ba4f3_31 (by decide) ?_
          refine lv_istore_n (lv' := [(3, .int (xx / 100)), (0, .int xx), (1, .int a1), (2, .ref b), (5, .int pp), (6, .int ss)]) hx hb dJ6_getChars_ba4f3_32 rfl hl (by decide) rfl (fun ls hl => ?_)
          refine lv_iload_n hx hb dJ6_getChars_ba4f3_33 rfl (lv_at hl 0 rfl) ?_
          refine lv_bipush (v := 100) hx hb dJ6_getChars_ba4f3_34 (by decide) ?_
          refine lv_imul hx hb dJ6_getChars_ba4f3_36 ?_
          refine lv_iload_n hx hb dJ6_getChars_ba4f3_37 rfl (lv_at hl 1 rfl) ?_
          refine lv_isub hx hb dJ6_getChars_ba4f3_38 ?_
          refine lv_istore (lv' := [(4, .int (((xx / 100) * 100) - xx)), (3, .int (xx / 100)), (0, .int xx), (1, .int a1), (2, .ref b), (5, .int pp), (6, .int ss)]) hx hb dJ6_getChars_ba4f3_39 hl (by decide) rfl (fun ls hl => ?_)
          refine lv_iload_n hx hb dJ6_getChars_ba4f3_41 rfl (lv_at hl 1 rfl) ?_
          refine lv_istore_n (lv' := [(0, .int (xx / 100)), (4, .int (((xx / 100) * 100) - xx)), (3, .int (xx / 100)), (1, .int a1), (2, .ref b), (5, .int pp), (6, .int ss)]) hx hb dJ6_getChars_ba4f3_42 rfl hl (by decide) rfl (fun ls hl => ?_)
          refine lv_aload_n hx hb dJ6_getChars_ba4f3_43 rfl (lv_at hl 4 rfl) ?_
          refine lv_iinc (v := pp + (-1)) (lv' := [(5, .int (pp + (-1))), (0, .int (xx / 100)), (4, .int (((xx / 100) * 100) - xx)), (3, .int (xx / 100)), (1, .int a1), (2, .ref b), (6, .int ss)]) hx hb dJ6_getChars_ba4f3_44 hl (k := 5) rfl rfl (by decide) rfl (fun ls hl => ?_)
          refine lv_iload hx hb dJ6_getChars_ba4f3_47 (lv_at hl 0 rfl) ?_
          refine va_gets hx hb hT.2.1.2.1.1 B.2.2 hown (hts _ (List.mem_cons_of_mem _ lk_J6_83)) (fun _ h => h) dJ6_getChars_ba4f3_49 ?_
          refine lv_iload hx hb dJ6_getChars_ba4f3_52 (lv_at hl 2 rfl) ?_
          refine va_tb hx hb hT.2.1.2.1.2 B.2.2 (gt_rem hg).1 rfl dJ6_getChars_ba4f3_54 ?_
          refine b_bast (q := qb) hbb X hK B hqb (va_up_self _ _ _) (gp_1 hg).1 dJ6_getChars_ba4f3_55 (fun H locs B => ?_)
          rw [bx_uu] at B
          refine lv_aload_n hx hb dJ6_getChars_ba4f3_56 rfl (lv_at hl 5 rfl) ?_
          refine lv_iinc (v := (pp + (-1)) + (-1)) (lv' := [(5, .int ((pp + (-1)) + (-1))), (0, .int (xx / 100)), (4, .int (((xx / 100) * 100) - xx)), (3, .int (xx / 100)), (1, .int a1), (2, .ref b), (6, .int ss)]) hx hb dJ6_getChars_ba4f3_57 hl (k := 0) rfl rfl (by decide) rfl (fun ls hl => ?_)
          refine lv_iload hx hb dJ6_getChars_ba4f3_60 (lv_at hl 0 rfl) ?_
          refine va_gets hx hb hT.2.1.2.2.1.1 B.2.2 hown (hts _ (List.mem_cons_of_mem _ lk_J6_87)) (fun _ h => h) dJ6_getChars_ba4f3_62 ?_
          refine lv_iload hx hb dJ6_getChars_ba4f3_65 (lv_at hl 2 rfl) ?_
          refine va_tb hx hb hT.2.1.2.2.1.2 B.2.2 (gt_rem hg).1 rfl dJ6_getChars_ba4f3_67 ?_
          refine b_bast (q := qb) hbb X hK B hqb (va_up_self _ _ _) (gp_2 hg c3).1 dJ6_getChars_ba4f3_68 (fun H locs B => ?_)
          rw [bx_uu] at B
          refine lv_goto (tgt := 22) hx hb dJ6_getChars_ba4f3_69 (by decide) ?_
          exact ih2 (xx / 100) ((pp + (-1)) + (-1)) ss (upd (upd bt9 ((pp + (-1)).toNatClampNeg) (vp_nar .byte (st_ones.getD ((((xx / 100) * 100) - xx).toNatClampNeg) 0))) (((pp + (-1)) + (-1)).toNatClampNeg) (vp_nar .byte (st_tens.getD ((((xx / 100) * 100) - xx).toNatClampNeg) 0))) H locs (gi_dec hg c3 hn2) (show v_J6_getChars_ba4f3 bt a0 a1 = wJ6_getChars_ba4f3_22 n2 (xx / 100) ((pp + (-1)) + (-1)) ss (upd (upd bt9 ((pp + (-1)).toNatClampNeg) (vp_nar .byte (st_ones.getD ((((xx / 100) * 100) - xx).toNatClampNeg) 0))) (((pp + (-1)) + (-1)).toNatClampNeg) (vp_nar .byte (st_tens.getD ((((xx / 100) * 100) - xx).toNatClampNeg) 0))) from he2.trans (by rw [wJ6_getChars_ba4f3_22, if_neg c3])) (gi_next hg c3) B ls (lv_sub hl [1, 4, 5, 0, 6] rfl)
    exact loop2 ((-a0).toInt.natAbs + 1) (-a0) a1 0 bt H locs (Nat.lt_succ_self _) (show v_J6_getChars_ba4f3 bt a0 a1 = wJ6_getChars_ba4f3_22 ((-a0).toInt.natAbs + 1) (-a0) a1 0 bt from by unfold v_J6_getChars_ba4f3; rw [if_pos c1]) (gi_pos hgc c1) B ls hl
  · refine lv_iconst (v := 1) hx hb dJ6_getChars_ba4f3_7 (by decide) ?_
    refine lv_goto (tgt := 12) hx hb dJ6_getChars_ba4f3_8 (by decide) ?_
    refine lv_istore (lv' := [(6, .int 1), (5, .int a1), (0, .int a0), (1, .int a1), (2, .ref b)]) hx hb dJ6_getChars_ba4f3_12 hl (by decide) rfl (fun ls hl => ?_)
    refine lv_iload hx hb dJ6_getChars_ba4f3_14 (lv_at hl 0 rfl) ?_
    refine lv_if_ne (tgt := 22) hx hb dJ6_getChars_ba4f3_16 (by decide) (fun _ => ?_) (fun z => absurd z (by decide))
    have hl : lv_has ls 7 [(0, .int a0), (1, .int a1), (2, .ref b), (5, .int a1), (6, .int 1)] := lv_sub hl [2, 3, 4, 1, 0] rfl
    have loop7 : ∀ (n7 : Nat) (xx : Int32) (pp : Int32) (ss : Int32) (bt9 : Nat → Int32) (H : Heap) (locs : List Loc), xx.toInt.natAbs < n7 → v_J6_getChars_ba4f3 bt a0 a1 = wJ6_getChars_ba4f3_22 n7 xx pp ss bt9 → gci xx pp ss n → WB g (aw N ad sz) s.heap N ad (va_up f qb (.inl (g.2.1 1, n, .inl bt9))) H locs → ∀ ls : Array Slot, lv_has ls 7 [(0, .int xx), (1, .int a1), (2, .ref b), (5, .int pp), (6, .int ss)] → W p l e (rm 0 0 0) s m args below meth c H locs 0 0 (MQ below (va_Qi (fun r (u : WS) => (fun r ad' f' => ad = ad' ∧ (v_J6_getChars_ba4f3 bt a0 a1).1 = r ∧ va_up f qb (.inl (g.2.1 1, n, .inl (v_J6_getChars_ba4f3 bt a0 a1).2)) = f') r u.1 u.2) (fun u t => PO g N u.1 u.2 (aw N ad sz) t) (aw N ad sz)) args s (rm 0 0 0).cells (rm 0 0 0).slots (aw N ad sz)) (F0 m 22 ls []) := by
      intro n7
      induction n7 with
      | zero => intro xx pp ss bt9 H locs hn; exact absurd hn (Nat.not_lt_zero _)
      | succ n7 ih7 =>
        intro xx pp ss bt9 H locs hn7 he7 hg B ls hl
        refine lv_iload_n hx hb dJ6_getChars_ba4f3_22 rfl (lv_at hl 0 rfl) ?_
        refine lv_bipush (v := (-100)) hx hb dJ6_getChars_ba4f3_23 (by decide) ?_
        refine lv_icmp_gt (tgt := 72) hx hb dJ6_getChars_ba4f3_25 (by decide) (fun c8 => ?_) (fun c8 => ?_)
        · refine lv_aload_n hx hb dJ6_getChars_ba4f3_72 rfl (lv_at hl 2 rfl) ?_
          refine lv_iinc (v := pp + (-1)) (lv' := [(5, .int (pp + (-1))), (0, .int xx), (1, .int a1), (2, .ref b), (6, .int ss)]) hx hb dJ6_getChars_ba4f3_73 hl (k := 3) rfl rfl (by decide) rfl (fun ls hl => ?_)
          refine lv_iload hx hb dJ6_getChars_ba4f3_76 (lv_at hl 0 rfl) ?_
          refine va_gets hx hb hT.2.1.2.1.1 B.2.2 hown (hts _ (List.mem_cons_of_mem _ lk_J6_83)) (fun _ h => h) dJ6_getChars_ba4f3_78 ?_
          refine lv_iload_n hx hb dJ6_getChars_ba4f3_81 rfl (lv_at hl 1 rfl) ?_
          refine lv_ineg hx hb dJ6_getChars_ba4f3_82 ?_
          refine va_tb hx hb hT.2.1.2.1.2 B.2.2 (gt_neg hg c8).1 rfl dJ6_getChars_ba4f3_83 ?_
          refine b_bast (q := qb) hbb X hK B hqb (va_up_self _ _ _) (gp_1 hg).1 dJ6_getChars_ba4f3_84 (fun H locs B => ?_)
          rw [bx_uu] at B
          refine lv_iload_n hx hb dJ6_getChars_ba4f3_85 rfl (lv_at hl 1 rfl) ?_
          refine lv_bipush (v := (-9)) hx hb dJ6_getChars_ba4f3_86 (by decide) ?_
          refine lv_icmp_ge (tgt := 104) hx hb dJ6_getChars_ba4f3_88 (by decide) (fun c9 => ?_) (fun c9 => ?_)
          · refine lv_iload hx hb dJ6_getChars_ba4f3_104 (lv_at hl 4 rfl) ?_
            refine lv_if_eq (tgt := 118) hx hb dJ6_getChars_ba4f3_106 (by decide) (fun c10 => ?_) (fun c10 => ?_)
            · refine lv_iload hx hb dJ6_getChars_ba4f3_118 (lv_at hl 0 rfl) ?_
              have ev := (show v_J6_getChars_ba4f3 bt a0 a1 = (pp + (-1), upd bt9 ((pp + (-1)).toNatClampNeg) (vp_nar .byte (st_ones.getD ((-xx).toNatClampNeg) 0))) from he7.trans (by rw [wJ6_getChars_ba4f3_22, if_pos c8, if_pos c9, if_pos c10]))
              exact rt_i X hr (ad, va_up f qb (.inl (g.2.1 1, n, .inl (upd bt9 ((pp + (-1)).toNatClampNeg) (vp_nar .byte (st_ones.getD ((-xx).toNatClampNeg) 0)))))) B (PO_of B) ⟨rfl, by rw [ev], by rw [ev]⟩ rfl (Nat.le_of_ble_eq_true rfl) (Nat.le_of_ble_eq_true rfl) dJ6_getChars_ba4f3_120
            · refine lv_aload_n hx hb dJ6_getChars_ba4f3_109 rfl (lv_at hl 3 rfl) ?_
              refine lv_iinc (v := (pp + (-1)) + (-1)) (lv' := [(5, .int ((pp + (-1)) + (-1))), (0, .int xx), (1, .int a1), (2, .ref b), (6, .int ss)]) hx hb dJ6_getChars_ba4f3_110 hl (k := 0) rfl rfl (by decide) rfl (fun ls hl => ?_)
              refine lv_iload hx hb dJ6_getChars_ba4f3_113 (lv_at hl 0 rfl) ?_
              refine lv_bipush (v := 45) hx hb dJ6_getChars_ba4f3_115 (by decide) ?_
              refine b_bast (q := qb) hbb X hK B hqb (va_up_self _ _ _) (gp_s1 hg c10).1 dJ6_getChars_ba4f3_117 (fun H locs B => ?_)
              rw [bx_uu] at B
              refine lv_iload hx hb dJ6_getChars_ba4f3_118 (lv_at hl 0 rfl) ?_
              have ev := (show v_J6_getChars_ba4f3 bt a0 a1 = ((pp + (-1)) + (-1), upd (upd bt9 ((pp + (-1)).toNatClampNeg) (vp_nar .byte (st_ones.getD ((-xx).toNatClampNeg) 0))) (((pp + (-1)) + (-1)).toNatClampNeg) (vp_nar .byte 45)) from he7.trans (by rw [wJ6_getChars_ba4f3_22, if_pos c8, if_pos c9, if_neg c10]))
              exact rt_i X hr (ad, va_up f qb (.inl (g.2.1 1, n, .inl (upd (upd bt9 ((pp + (-1)).toNatClampNeg) (vp_nar .byte (st_ones.getD ((-xx).toNatClampNeg) 0))) (((pp + (-1)) + (-1)).toNatClampNeg) (vp_nar .byte 45))))) B (PO_of B) ⟨rfl, by rw [ev], by rw [ev]⟩ rfl (Nat.le_of_ble_eq_true rfl) (Nat.le_of_ble_eq_true rfl) dJ6_getChars_ba4f3_120
          · refine lv_aload_n hx hb dJ6_getChars_ba4f3_91 rfl (lv_at hl 3 rfl) ?_
            refine lv_iinc (v := (pp + (-1)) + (-1)) (lv' := [(5, .int ((pp + (-1)) + (-1))), (0, .int xx), (1, .int a1), (2, .ref b), (6, .int ss)]) hx hb dJ6_getChars_ba4f3_92 hl (k := 0) rfl rfl (by decide) rfl (fun ls hl => ?_)
            refine lv_iload hx hb dJ6_getChars_ba4f3_95 (lv_at hl 0 rfl) ?_
            refine va_gets hx hb hT.2.1.2.2.1.1 B.2.2 hown (hts _ (List.mem_cons_of_mem _ lk_J6_87)) (fun _ h => h) dJ6_getChars_ba4f3_97 ?_
            refine lv_iload_n hx hb dJ6_getChars_ba4f3_100 rfl (lv_at hl 1 rfl) ?_
            refine lv_ineg hx hb dJ6_getChars_ba4f3_101 ?_
            refine va_tb hx hb hT.2.1.2.2.1.2 B.2.2 (gt_neg hg c8).1 rfl dJ6_getChars_ba4f3_102 ?_
            refine b_bast (q := qb) hbb X hK B hqb (va_up_self _ _ _) (gp_2n hg c9).1 dJ6_getChars_ba4f3_103 (fun H locs B => ?_)
            rw [bx_uu] at B
            refine lv_iload hx hb dJ6_getChars_ba4f3_104 (lv_at hl 4 rfl) ?_
            refine lv_if_eq (tgt := 118) hx hb dJ6_getChars_ba4f3_106 (by decide) (fun c11 => ?_) (fun c11 => ?_)
            · refine lv_iload hx hb dJ6_getChars_ba4f3_118 (lv_at hl 0 rfl) ?_
              have ev := (show v_J6_getChars_ba4f3 bt a0 a1 = ((pp + (-1)) + (-1), upd (upd bt9 ((pp + (-1)).toNatClampNeg) (vp_nar .byte (st_ones.getD ((-xx).toNatClampNeg) 0))) (((pp + (-1)) + (-1)).toNatClampNeg) (vp_nar .byte (st_tens.getD ((-xx).toNatClampNeg) 0))) from he7.trans (by rw [wJ6_getChars_ba4f3_22, if_pos c8, if_neg c9, if_pos c11]))
              exact rt_i X hr (ad, va_up f qb (.inl (g.2.1 1, n, .inl (upd (upd bt9 ((pp + (-1)).toNatClampNeg) (vp_nar .byte (st_ones.getD ((-xx).toNatClampNeg) 0))) (((pp + (-1)) + (-1)).toNatClampNeg) (vp_nar .byte (st_tens.getD ((-xx).toNatClampNeg) 0)))))) B (PO_of B) ⟨rfl, by rw [ev], by rw [ev]⟩ rfl (Nat.le_of_ble_eq_true rfl) (Nat.le_of_ble_eq_true rfl) dJ6_getChars_ba4f3_120
            · refine lv_aload_n hx hb dJ6_getChars_ba4f3_109 rfl (lv_at hl 3 rfl) ?_
              refine lv_iinc (v := ((pp + (-1)) + (-1)) + (-1)) (lv' := [(5, .int (((pp + (-1)) + (-1)) + (-1))), (0, .int xx), (1, .int a1), (2, .ref b), (6, .int ss)]) hx hb dJ6_getChars_ba4f3_110 hl (k := 0) rfl rfl (by decide) rfl (fun ls hl => ?_)
              refine lv_iload hx hb dJ6_getChars_ba4f3_113 (lv_at hl 0 rfl) ?_
              refine lv_bipush (v := 45) hx hb dJ6_getChars_ba4f3_115 (by decide) ?_
              refine b_bast (q := qb) hbb X hK B hqb (va_up_self _ _ _) (gp_s2 hg c9 c11).1 dJ6_getChars_ba4f3_117 (fun H locs B => ?_)
              rw [bx_uu] at B
              refine lv_iload hx hb dJ6_getChars_ba4f3_118 (lv_at hl 0 rfl) ?_
              have ev := (show v_J6_getChars_ba4f3 bt a0 a1 = (((pp + (-1)) + (-1)) + (-1), upd (upd (upd bt9 ((pp + (-1)).toNatClampNeg) (vp_nar .byte (st_ones.getD ((-xx).toNatClampNeg) 0))) (((pp + (-1)) + (-1)).toNatClampNeg) (vp_nar .byte (st_tens.getD ((-xx).toNatClampNeg) 0))) ((((pp + (-1)) + (-1)) + (-1)).toNatClampNeg) (vp_nar .byte 45)) from he7.trans (by rw [wJ6_getChars_ba4f3_22, if_pos c8, if_neg c9, if_neg c11]))
              exact rt_i X hr (ad, va_up f qb (.inl (g.2.1 1, n, .inl (upd (upd (upd bt9 ((pp + (-1)).toNatClampNeg) (vp_nar .byte (st_ones.getD ((-xx).toNatClampNeg) 0))) (((pp + (-1)) + (-1)).toNatClampNeg) (vp_nar .byte (st_tens.getD ((-xx).toNatClampNeg) 0))) ((((pp + (-1)) + (-1)) + (-1)).toNatClampNeg) (vp_nar .byte 45))))) B (PO_of B) ⟨rfl, by rw [ev], by rw [ev]⟩ rfl (Nat.le_of_ble_eq_true rfl) (Nat.le_of_ble_eq_true rfl) dJ6_getChars_ba4f3_120
        · refine lv_iload_n hx hb dJ6_getChars_ba4f3_28 rfl (lv_at hl 0 rfl) ?_
          refine lv_bipush (v := 100) hx hb dJ6_getChars_ba4f3_29 (by decide) ?_
          refine lv_idiv hx hb dJ6_getChars_ba4f3_31 (by decide) ?_
          refine lv_istore_n (lv' := [(3, .int (xx / 100)), (0, .int xx), (1, .int a1), (2, .ref b), (5, .int pp), (6, .int ss)]) hx hb dJ6_getChars_ba4f3_32 rfl hl (by decide) rfl (fun ls hl => ?_)
          refine lv_iload_n hx hb dJ6_getChars_ba4f3_33 rfl (lv_at hl 0 rfl) ?_
          refine lv_bipush (v := 100) hx hb dJ6_getChars_ba4f3_34 (by decide) ?_
          refine lv_imul hx hb dJ6_getChars_ba4f3_36 ?_
          refine lv_iload_n hx hb dJ6_getChars_ba4f3_37 rfl (lv_at hl 1 rfl) ?_
          refine lv_isub hx hb dJ6_getChars_ba4f3_38 ?_
          refine lv_istore (lv' := [(4, .int (((xx / 100) * 100) - xx)), (3, .int (xx / 100)), (0, .int xx), (1, .int a1), (2, .ref b), (5, .int pp), (6, .int ss)]) hx hb dJ6_getChars_ba4f3_39 hl (by decide) rfl (fun ls hl => ?_)
          refine lv_iload_n hx hb dJ6_getChars_ba4f3_41 rfl (lv_at hl 1 rfl) ?_
          refine lv_istore_n (lv' := [(0, .int (xx / 100)), (4, .int (((xx / 100) * 100) - xx)), (3, .int (xx / 100)), (1, .int a1), (2, .ref b), (5, .int pp), (6, .int ss)]) hx hb dJ6_getChars_ba4f3_42 rfl hl (by decide) rfl (fun ls hl => ?_)
          refine lv_aload_n hx hb dJ6_getChars_ba4f3_43 rfl (lv_at hl 4 rfl) ?_
          refine lv_iinc (v := pp + (-1)) (lv' := [(5, .int (pp + (-1))), (0, .int (xx / 100)), (4, .int (((xx / 100) * 100) - xx)), (3, .int (xx / 100)), (1, .int a1), (2, .ref b), (6, .int ss)]) hx hb dJ6_getChars_ba4f3_44 hl (k := 5) rfl rfl (by decide) rfl (fun ls hl => ?_)
          refine lv_iload hx hb dJ6_getChars_ba4f3_47 (lv_at hl 0 rfl) ?_
          refine va_gets hx hb hT.2.1.2.1.1 B.2.2 hown (hts _ (List.mem_cons_of_mem _ lk_J6_83)) (fun _ h => h) dJ6_getChars_ba4f3_49 ?_
          refine lv_iload hx hb dJ6_getChars_ba4f3_52 (lv_at hl 2 rfl) ?_
          refine va_tb hx hb hT.2.1.2.1.2 B.2.2 (gt_rem hg).1 rfl dJ6_getChars_ba4f3_54 ?_
          refine b_bast (q := qb) hbb X hK B hqb (va_up_self _ _ _) (gp_1 hg).1 dJ6_getChars_ba4f3_55 (fun H locs B => ?_)
          rw [bx_uu] at B
          refine lv_aload_n hx hb dJ6_getChars_ba4f3_56 rfl (lv_at hl 5 rfl) ?_
          refine lv_iinc (v := (pp + (-1)) + (-1)) (lv' := [(5, .int ((pp + (-1)) + (-1))), (0, .int (xx / 100)), (4, .int (((xx / 100) * 100) - xx)), (3, .int (xx / 100)), (1, .int a1), (2, .ref b), (6, .int ss)]) hx hb dJ6_getChars_ba4f3_57 hl (k := 0) rfl rfl (by decide) rfl (fun ls hl => ?_)
          refine lv_iload hx hb dJ6_getChars_ba4f3_60 (lv_at hl 0 rfl) ?_
          refine va_gets hx hb hT.2.1.2.2.1.1 B.2.2 hown (hts _ (List.mem_cons_of_mem _ lk_J6_87)) (fun _ h => h) dJ6_getChars_ba4f3_62 ?_
          refine lv_iload hx hb dJ6_getChars_ba4f3_65 (lv_at hl 2 rfl) ?_
          refine va_tb hx hb hT.2.1.2.2.1.2 B.2.2 (gt_rem hg).1 rfl dJ6_getChars_ba4f3_67 ?_
          refine b_bast (q := qb) hbb X hK B hqb (va_up_self _ _ _) (gp_2 hg c8).1 dJ6_getChars_ba4f3_68 (fun H locs B => ?_)
          rw [bx_uu] at B
          refine lv_goto (tgt := 22) hx hb dJ6_getChars_ba4f3_69 (by decide) ?_
          exact ih7 (xx / 100) ((pp + (-1)) + (-1)) ss (upd (upd bt9 ((pp + (-1)).toNatClampNeg) (vp_nar .byte (st_ones.getD ((((xx / 100) * 100) - xx).toNatClampNeg) 0))) (((pp + (-1)) + (-1)).toNatClampNeg) (vp_nar .byte (st_tens.getD ((((xx / 100) * 100) - xx).toNatClampNeg) 0))) H locs (gi_dec hg c8 hn7) (show v_J6_getChars_ba4f3 bt a0 a1 = wJ6_getChars_ba4f3_22 n7 (xx / 100) ((pp + (-1)) + (-1)) ss (upd (upd bt9 ((pp + (-1)).toNatClampNeg) (vp_nar .byte (st_ones.getD ((((xx / 100) * 100) - xx).toNatClampNeg) 0))) (((pp + (-1)) + (-1)).toNatClampNeg) (vp_nar .byte (st_tens.getD ((((xx / 100) * 100) - xx).toNatClampNeg) 0))) from he7.trans (by rw [wJ6_getChars_ba4f3_22, if_neg c8])) (gi_next hg c8) B ls (lv_sub hl [1, 4, 5, 0, 6] rfl)
    exact loop7 (a0.toInt.natAbs + 1) a0 a1 1 bt H locs (Nat.lt_succ_self _) (show v_J6_getChars_ba4f3 bt a0 a1 = wJ6_getChars_ba4f3_22 (a0.toInt.natAbs + 1) a0 a1 1 bt from by unfold v_J6_getChars_ba4f3; rw [if_neg c1]) (gi_neg hgc c1) B ls hl
