def wX4_dateOf_77 (yy : Int32) : Nat → Int32 → Int64 → Option TR
  | 0, fm, lg => none
  | n + 1, fm, lg => if (lg_cmp lg ((v_X4_length yy fm).toInt64)) < 0 then (some (yy, fm, lg.toInt32 + 1)) else (wX4_dateOf_77 yy n (fm + 1) (lg - ((v_X4_length yy fm).toInt64)))
def wX4_dateOf_34 : Nat → Int32 → Int64 → Option TR
  | 0, yy, lf => none
  | n + 1, yy, lf => if (lg_cmp lf ((365 + (v_X4_one (v_X4_isLong yy))).toInt64)) < 0 then (wX4_dateOf_77 yy (lf.toInt.toNat + 1) 1 lf) else (wX4_dateOf_34 n (yy + 1) (lf - ((365 + (v_X4_one (v_X4_isLong yy))).toInt64)))
def v_X4_dateOf (b0 : Int64) : Option TR := if (v_X4_isIn (b0 + ((v_X4_daysTo 1970).toInt64)) 0 (((v_X4_daysTo 2401) - 1).toInt64)) = 0 then none else (wX4_dateOf_34 ((b0 + ((v_X4_daysTo 1970).toInt64)).toInt.toNat + 1) 1600 (b0 + ((v_X4_daysTo 1970).toInt64)))
set_option maxHeartbeats 4000000 in
set_option maxRecDepth 100000 in
theorem c_X4_dateOf (l : Launch) (g : GG) (N : Nat) (ad : Nat → Nat) (f : Nat → va_E) (b0 : Int64) : KR l yX4_dateOf cX4_dateOf 6 (.array .int) (rm 2 1 3) g [.long b0] N ad f (N + nz (v_X4_dateOf b0)) (fun r ad' f' => pw g (v_X4_dateOf b0) N ad f r ad' f') := by
  intro sz
  refine mt_start (by decide) (Nat.le_of_ble_eq_true rfl) ?_
  intro p e s m args below meth c hsz X hr hnam hA hK hT H locs B ls hl
  obtain ⟨hx, hb, hml, hown, hts, hlocks⟩ := id X
  have hl : lv_has ls 6 [(0, .long b0)] := hl
  refine lv_lload_n hx hb dX4_dateOf_0 rfl (lv_at hl 0 rfl) ?_
  refine lv_sipush (v := 1970) hx hb dX4_dateOf_1 (by decide) ?_
  refine k_i (k := 0) (n := 0) hA B (u_S (rest := [.long b0]) X (c_X4_daysTo l g N ad f 1970 H.size) mw_X4_daysTo md_X4_daysTo rfl lk_X4_177 ⟨Nat.le_of_ble_eq_true rfl, Nat.le_of_ble_eq_true rfl⟩ hA hK hT B hl.1 rfl (Nat.le_of_ble_eq_true rfl) dX4_dateOf_4 ⟨Nat.le_of_ble_eq_true rfl, Nat.le_of_ble_eq_true rfl⟩) (Nat.le_of_ble_eq_true rfl) (Nat.le_of_ble_eq_true rfl) (fun r ad' f' H locs hw B => ?_)
  obtain ⟨rfl, rfl, rfl⟩ := hw
  refine lv_i2l (v := (v_X4_daysTo 1970).toInt64) hx hb dX4_dateOf_7 rfl ?_
  refine lv_ladd hx hb dX4_dateOf_8 ?_
  refine lv_lstore_n (lv' := [(2, .long (b0 + ((v_X4_daysTo 1970).toInt64))), (0, .long b0)]) hx hb dX4_dateOf_9 rfl hl (by decide) rfl (fun ls hl => ?_)
  refine lv_lload_n hx hb dX4_dateOf_10 rfl (lv_at hl 0 rfl) ?_
  refine lv_lconst (v := 0) hx hb dX4_dateOf_11 (by decide) ?_
  refine lv_sipush (v := 2401) hx hb dX4_dateOf_12 (by decide) ?_
  refine k_i (k := 0) (n := 0) hA B (u_S (rest := [.long 0, .long (b0 + ((v_X4_daysTo 1970).toInt64))]) X (c_X4_daysTo l g N ad f 2401 H.size) mw_X4_daysTo md_X4_daysTo rfl lk_X4_177 ⟨Nat.le_of_ble_eq_true rfl, Nat.le_of_ble_eq_true rfl⟩ hA hK hT B hl.1 rfl (Nat.le_of_ble_eq_true rfl) dX4_dateOf_15 ⟨Nat.le_of_ble_eq_true rfl, Nat.le_of_ble_eq_true rfl⟩) (Nat.le_of_ble_eq_true rfl) (Nat.le_of_ble_eq_true rfl) (fun r ad' f' H locs hw B => ?_)
  obtain ⟨rfl, rfl, rfl⟩ := hw
  refine lv_iconst (v := 1) hx hb dX4_dateOf_18 (by decide) ?_
  refine lv_isub hx hb dX4_dateOf_19 ?_
  refine lv_i2l (v := ((v_X4_daysTo 2401) - 1).toInt64) hx hb dX4_dateOf_20 rfl ?_
  refine k_i (k := 0) (n := 0) hA B (u_S (rest := []) X (c_X4_isIn l g N ad f (b0 + ((v_X4_daysTo 1970).toInt64)) 0 (((v_X4_daysTo 2401) - 1).toInt64) H.size) mw_X4_isIn md_X4_isIn rfl lk_X4_37 ⟨Nat.le_of_ble_eq_true rfl, Nat.le_of_ble_eq_true rfl⟩ hA hK hT B hl.1 rfl (Nat.le_of_ble_eq_true rfl) dX4_dateOf_21 ⟨Nat.le_of_ble_eq_true rfl, Nat.le_of_ble_eq_true rfl⟩) (Nat.le_of_ble_eq_true rfl) (Nat.le_of_ble_eq_true rfl) (fun r ad' f' H locs hw B => ?_)
  obtain ⟨rfl, rfl, rfl⟩ := hw
  refine lv_if_ne (tgt := 29) hx hb dX4_dateOf_24 (by decide) (fun c1 => ?_) (fun c1 => ?_)
  · refine lv_sipush (v := 1600) hx hb dX4_dateOf_29 (by decide) ?_
    refine lv_istore (lv' := [(4, .int 1600), (2, .long (b0 + ((v_X4_daysTo 1970).toInt64))), (0, .long b0)]) hx hb dX4_dateOf_32 hl (by decide) rfl (fun ls hl => ?_)
    have loop2 : ∀ (n2 : Nat) (yy : Int32) (lf : Int64) (H : Heap) (locs : List Loc), lf.toInt.toNat < n2 → v_X4_dateOf b0 = wX4_dateOf_34 n2 yy lf → 0 ≤ lf → WB g (aw N ad sz) s.heap N ad f H locs → ∀ ls : Array Slot, lv_has ls 6 [(4, .int yy), (2, .long lf), (0, .long b0)] → W p l e (rm 2 1 3) s m args below meth c H locs 0 0 (MQ below (va_Qq (fun r (u : WS) => (fun r ad' f' => pw g (v_X4_dateOf b0) N ad f r ad' f') r u.1 u.2) (fun u t => PO g (N + nz (v_X4_dateOf b0)) u.1 u.2 (aw N ad sz) t) (aw N ad sz)) args s (rm 2 1 3).cells (rm 2 1 3).slots (aw N ad sz)) (F0 m 34 ls []) := by
      intro n2
      induction n2 with
      | zero => intro yy lf H locs hn; exact absurd hn (Nat.not_lt_zero _)
      | succ n2 ih2 =>
        intro yy lf H locs hn2 he2 hl0 B ls hl
        refine lv_lload_n hx hb dX4_dateOf_34 rfl (lv_at hl 1 rfl) ?_
        refine lv_sipush (v := 365) hx hb dX4_dateOf_35 (by decide) ?_
        refine lv_iload hx hb dX4_dateOf_38 (lv_at hl 0 rfl) ?_
        refine k_i (k := 0) (n := 0) hA B (u_S (rest := [.int 365, .long lf]) X (c_X4_isLong l g N ad f yy H.size) mw_X4_isLong md_X4_isLong rfl lk_X4_174 ⟨Nat.le_of_ble_eq_true rfl, Nat.le_of_ble_eq_true rfl⟩ hA hK hT B hl.1 rfl (Nat.le_of_ble_eq_true rfl) dX4_dateOf_40 ⟨Nat.le_of_ble_eq_true rfl, Nat.le_of_ble_eq_true rfl⟩) (Nat.le_of_ble_eq_true rfl) (Nat.le_of_ble_eq_true rfl) (fun r ad' f' H locs hw B => ?_)
        obtain ⟨rfl, rfl, rfl⟩ := hw
        refine k_i (k := 0) (n := 0) hA B (u_S (rest := [.int 365, .long lf]) X (c_X4_one l g N ad f (v_X4_isLong yy) H.size) mw_X4_one md_X4_one rfl lk_X4_91 ⟨Nat.le_of_ble_eq_true rfl, Nat.le_of_ble_eq_true rfl⟩ hA hK hT B hl.1 rfl (Nat.le_of_ble_eq_true rfl) dX4_dateOf_43 ⟨Nat.le_of_ble_eq_true rfl, Nat.le_of_ble_eq_true rfl⟩) (Nat.le_of_ble_eq_true rfl) (Nat.le_of_ble_eq_true rfl) (fun r ad' f' H locs hw B => ?_)
        obtain ⟨rfl, rfl, rfl⟩ := hw
        refine lv_iadd hx hb dX4_dateOf_46 ?_
        refine lv_i2l (v := (365 + (v_X4_one (v_X4_isLong yy))).toInt64) hx hb dX4_dateOf_47 rfl ?_
        refine W.lcmp hx hb dX4_dateOf_48 ?_
        refine lv_if_lt (tgt := 74) hx hb dX4_dateOf_49 (by decide) (fun c3 => ?_) (fun c3 => ?_)
        · refine lv_iconst (v := 1) hx hb dX4_dateOf_74 (by decide) ?_
          refine lv_istore (lv' := [(5, .int 1), (4, .int yy), (2, .long lf), (0, .long b0)]) hx hb dX4_dateOf_75 hl (by decide) rfl (fun ls hl => ?_)
          have loop4 : ∀ (n4 : Nat) (fm : Int32) (lg : Int64) (H : Heap) (locs : List Loc), lg.toInt.toNat < n4 → v_X4_dateOf b0 = wX4_dateOf_77 yy n4 fm lg → dv_J yy fm lg → WB g (aw N ad sz) s.heap N ad f H locs → ∀ ls : Array Slot, lv_has ls 6 [(5, .int fm), (4, .int yy), (2, .long lg), (0, .long b0)] → W p l e (rm 2 1 3) s m args below meth c H locs 0 0 (MQ below (va_Qq (fun r (u : WS) => (fun r ad' f' => pw g (v_X4_dateOf b0) N ad f r ad' f') r u.1 u.2) (fun u t => PO g (N + nz (v_X4_dateOf b0)) u.1 u.2 (aw N ad sz) t) (aw N ad sz)) args s (rm 2 1 3).cells (rm 2 1 3).slots (aw N ad sz)) (F0 m 77 ls []) := by
            intro n4
            induction n4 with
            | zero => intro fm lg H locs hn; exact absurd hn (Nat.not_lt_zero _)
            | succ n4 ih4 =>
              intro fm lg H locs hn4 he4 hj B ls hl
              refine lv_lload_n hx hb dX4_dateOf_77 rfl (lv_at hl 2 rfl) ?_
              refine lv_iload hx hb dX4_dateOf_78 (lv_at hl 1 rfl) ?_
              refine lv_iload hx hb dX4_dateOf_80 (lv_at hl 0 rfl) ?_
              refine k_i (k := 0) (n := 0) hA B (u_S (rest := [.long lg]) X (c_X4_length l g N ad f yy fm hj.1 H.size) mw_X4_length md_X4_length rfl lk_X4_181 ⟨Nat.le_of_ble_eq_true rfl, Nat.le_of_ble_eq_true rfl⟩ hA hK hT B hl.1 rfl (Nat.le_of_ble_eq_true rfl) dX4_dateOf_82 ⟨Nat.le_of_ble_eq_true rfl, Nat.le_of_ble_eq_true rfl⟩) (Nat.le_of_ble_eq_true rfl) (Nat.le_of_ble_eq_true rfl) (fun r ad' f' H locs hw B => ?_)
              obtain ⟨rfl, rfl, rfl⟩ := hw
              refine lv_i2l (v := (v_X4_length yy fm).toInt64) hx hb dX4_dateOf_85 rfl ?_
              refine W.lcmp hx hb dX4_dateOf_86 ?_
              refine lv_if_lt (tgt := 107) hx hb dX4_dateOf_87 (by decide) (fun c5 => ?_) (fun c5 => ?_)
              · refine lv_iconst (v := 3) hx hb dX4_dateOf_107 (by decide) ?_
                refine h_new3 (cz := 1) (sz := 3) X hA hK B (Nat.le_of_ble_eq_true rfl) (Nat.le_of_ble_eq_true rfl) (Nat.le_of_ble_eq_true rfl) (Nat.le_of_ble_eq_true rfl) dX4_dateOf_108 (fun z6 H B => ?_)
                refine lv_dup hx hb dX4_dateOf_110 rfl ?_
                refine lv_iconst (v := 0) hx hb dX4_dateOf_111 (by decide) ?_
                refine lv_iload hx hb dX4_dateOf_112 (lv_at hl 1 rfl) ?_
                refine h_st (t := (0, 0, 0)) (t' := (yy, 0, 0)) X hK B (Nat.lt_succ_self _) up_eq up_eq (by unfold vp_in; decide) (rw3_s0 _ _) dX4_dateOf_114 (fun H locs B => ?_)
                rw [bx_uu] at B
                refine lv_dup hx hb dX4_dateOf_115 rfl ?_
                refine lv_iconst (v := 1) hx hb dX4_dateOf_116 (by decide) ?_
                refine lv_iload hx hb dX4_dateOf_117 (lv_at hl 0 rfl) ?_
                refine h_st (t := (yy, 0, 0)) (t' := (yy, fm, 0)) X hK B (Nat.lt_succ_self _) up_eq up_eq (by unfold vp_in; decide) (rw3_s1 _ _) dX4_dateOf_119 (fun H locs B => ?_)
                rw [bx_uu] at B
                refine lv_dup hx hb dX4_dateOf_120 rfl ?_
                refine lv_iconst (v := 2) hx hb dX4_dateOf_121 (by decide) ?_
                refine lv_lload_n hx hb dX4_dateOf_122 rfl (lv_at hl 2 rfl) ?_
                refine lv_l2i (v := lg.toInt32) hx hb dX4_dateOf_123 rfl ?_
                refine lv_iconst (v := 1) hx hb dX4_dateOf_124 (by decide) ?_
                refine lv_iadd hx hb dX4_dateOf_125 ?_
                refine h_st (t := (yy, fm, 0)) (t' := (yy, fm, lg.toInt32 + 1)) X hK B (Nat.lt_succ_self _) up_eq up_eq (by unfold vp_in; decide) (rw3_s2 _ _) dX4_dateOf_126 (fun H locs B => ?_)
                rw [bx_uu] at B
                have ev := (show v_X4_dateOf b0 = some (yy, fm, lg.toInt32 + 1) from he4.trans (by rw [wX4_dateOf_77, if_pos c5]))
                have B : WB g (aw N ad sz) s.heap (N + 1) (va_up ad N z6) (va_up f N (c_row g (yy, fm, lg.toInt32 + 1))) H locs := WB_pick B (by omega) (Nat.lt_succ_self _) (fun _ hk => (up_lt hk)) (fun _ hk => (up_lt hk)) up_eq up_eq
                exact rt_r (r := some z6) rfl X hr (Or.inr ⟨_, rfl⟩) (va_up ad N z6, va_up f N (c_row g (yy, fm, lg.toInt32 + 1))) B (by rw [ev]; exact PO_of B) (by rw [ev]; exact pw_is) (Nat.le_of_ble_eq_true rfl) (Nat.le_of_ble_eq_true rfl) dX4_dateOf_127
              · refine lv_lload_n hx hb dX4_dateOf_90 rfl (lv_at hl 2 rfl) ?_
                refine lv_iload hx hb dX4_dateOf_91 (lv_at hl 1 rfl) ?_
                refine lv_iload hx hb dX4_dateOf_93 (lv_at hl 0 rfl) ?_
                refine k_i (k := 0) (n := 0) hA B (u_S (rest := [.long lg]) X (c_X4_length l g N ad f yy fm hj.1 H.size) mw_X4_length md_X4_length rfl lk_X4_181 ⟨Nat.le_of_ble_eq_true rfl, Nat.le_of_ble_eq_true rfl⟩ hA hK hT B hl.1 rfl (Nat.le_of_ble_eq_true rfl) dX4_dateOf_95 ⟨Nat.le_of_ble_eq_true rfl, Nat.le_of_ble_eq_true rfl⟩) (Nat.le_of_ble_eq_true rfl) (Nat.le_of_ble_eq_true rfl) (fun r ad' f' H locs hw B => ?_)
                obtain ⟨rfl, rfl, rfl⟩ := hw
                refine lv_i2l (v := (v_X4_length yy fm).toInt64) hx hb dX4_dateOf_98 rfl ?_
                refine lv_lsub hx hb dX4_dateOf_99 ?_
                refine lv_lstore_n (lv' := [(2, .long (lg - ((v_X4_length yy fm).toInt64))), (5, .int fm), (4, .int yy), (0, .long b0)]) hx hb dX4_dateOf_100 rfl hl (by decide) rfl (fun ls hl => ?_)
                refine lv_iinc (v := fm + 1) (lv' := [(5, .int (fm + 1)), (2, .long (lg - ((v_X4_length yy fm).toInt64))), (4, .int yy), (0, .long b0)]) hx hb dX4_dateOf_101 hl (k := 1) rfl rfl (by decide) rfl (fun ls hl => ?_)
                refine lv_goto (tgt := 77) hx hb dX4_dateOf_104 (by decide) ?_
                exact ih4 (fm + 1) (lg - ((v_X4_length yy fm).toInt64)) H locs (dv_Js hj c5 hn4).2 (show v_X4_dateOf b0 = wX4_dateOf_77 yy n4 (fm + 1) (lg - ((v_X4_length yy fm).toInt64)) from he4.trans (by rw [wX4_dateOf_77, if_neg c5])) (dv_Js hj c5 (Nat.lt_succ_self _)).1 B ls (lv_sub hl [0, 2, 1, 3] rfl)
          exact loop4 (lf.toInt.toNat + 1) 1 lf H locs (Nat.lt_succ_self _) (show v_X4_dateOf b0 = wX4_dateOf_77 yy (lf.toInt.toNat + 1) 1 lf from he2.trans (by rw [wX4_dateOf_34, if_pos c3])) (dv_J0 hl0 c3) B ls hl
        · refine lv_lload_n hx hb dX4_dateOf_52 rfl (lv_at hl 1 rfl) ?_
          refine lv_sipush (v := 365) hx hb dX4_dateOf_53 (by decide) ?_
          refine lv_iload hx hb dX4_dateOf_56 (lv_at hl 0 rfl) ?_
          refine k_i (k := 0) (n := 0) hA B (u_S (rest := [.int 365, .long lf]) X (c_X4_isLong l g N ad f yy H.size) mw_X4_isLong md_X4_isLong rfl lk_X4_174 ⟨Nat.le_of_ble_eq_true rfl, Nat.le_of_ble_eq_true rfl⟩ hA hK hT B hl.1 rfl (Nat.le_of_ble_eq_true rfl) dX4_dateOf_58 ⟨Nat.le_of_ble_eq_true rfl, Nat.le_of_ble_eq_true rfl⟩) (Nat.le_of_ble_eq_true rfl) (Nat.le_of_ble_eq_true rfl) (fun r ad' f' H locs hw B => ?_)
          obtain ⟨rfl, rfl, rfl⟩ := hw
          refine k_i (k := 0) (n := 0) hA B (u_S (rest := [.int 365, .long lf]) X (c_X4_one l g N ad f (v_X4_isLong yy) H.size) mw_X4_one md_X4_one rfl lk_X4_91 ⟨Nat.le_of_ble_eq_true rfl, Nat.le_of_ble_eq_true rfl⟩ hA hK hT B hl.1 rfl (Nat.le_of_ble_eq_true rfl) dX4_dateOf_61 ⟨Nat.le_of_ble_eq_true rfl, Nat.le_of_ble_eq_true rfl⟩) (Nat.le_of_ble_eq_true rfl) (Nat.le_of_ble_eq_true rfl) (fun r ad' f' H locs hw B => ?_)
          obtain ⟨rfl, rfl, rfl⟩ := hw
          refine lv_iadd hx hb dX4_dateOf_64 ?_
          refine lv_i2l (v := (365 + (v_X4_one (v_X4_isLong yy))).toInt64) hx hb dX4_dateOf_65 rfl ?_
          refine lv_lsub hx hb dX4_dateOf_66 ?_
          refine lv_lstore_n (lv' := [(2, .long (lf - ((365 + (v_X4_one (v_X4_isLong yy))).toInt64))), (4, .int yy), (0, .long b0)]) hx hb dX4_dateOf_67 rfl hl (by decide) rfl (fun ls hl => ?_)
          refine lv_iinc (v := yy + 1) (lv' := [(4, .int (yy + 1)), (2, .long (lf - ((365 + (v_X4_one (v_X4_isLong yy))).toInt64))), (0, .long b0)]) hx hb dX4_dateOf_68 hl (k := 1) rfl rfl (by decide) rfl (fun ls hl => ?_)
          refine lv_goto (tgt := 34) hx hb dX4_dateOf_71 (by decide) ?_
          exact ih2 (yy + 1) (lf - ((365 + (v_X4_one (v_X4_isLong yy))).toInt64)) H locs (dl_dec (one_01 yy) c3 hn2).1 (show v_X4_dateOf b0 = wX4_dateOf_34 n2 (yy + 1) (lf - ((365 + (v_X4_one (v_X4_isLong yy))).toInt64)) from he2.trans (by rw [wX4_dateOf_34, if_neg c3])) (dl_dec (one_01 yy) c3 (Nat.lt_succ_self _)).2 B ls (lv_sub hl [0, 1, 2] rfl)
    exact loop2 ((b0 + ((v_X4_daysTo 1970).toInt64)).toInt.toNat + 1) 1600 (b0 + ((v_X4_daysTo 1970).toInt64)) H locs (Nat.lt_succ_self _) (show v_X4_dateOf b0 = wX4_dateOf_34 ((b0 + ((v_X4_daysTo 1970).toInt64)).toInt.toNat + 1) 1600 (b0 + ((v_X4_daysTo 1970).toInt64)) from by unfold v_X4_dateOf; rw [if_neg c1]) (in_iff.mp c1).1 B ls hl
  · refine lv_null hx hb dX4_dateOf_27 ?_
    have ev := (show v_X4_dateOf b0 = none from by unfold v_X4_dateOf; rw [if_pos c1])
    exact rt_r (r := none) rfl X hr (Or.inr ⟨_, rfl⟩) (ad, f) B (by rw [ev]; exact PO_of B) (by rw [ev]; exact pw_in) (Nat.le_of_ble_eq_true rfl) (Nat.le_of_ble_eq_true rfl) dX4_dateOf_28
def v_X4_onBy (tj0 : TR) (tj1 : TR) (a2 : Int32) : Option TR := om (v_X4_onByMonths tj0 (a2.toInt64 * (v_X4_total tj1))) none (fun t1 => om (v_X4_dateOf (((v_X4_number t1).toInt64) + (a2.toInt64 * tj1.2.2.toInt64))) none (fun t2 => some t2))
set_option maxHeartbeats 4000000 in
set_option maxRecDepth 100000 in
theorem c_X4_onBy (l : Launch) (g : GG) (N : Nat) (ad : Nat → Nat) (f : Nat → va_E) (j0 bj0 : Nat) (tj0 : TR) (hj0 : j0 < N) (hbj0 : ad j0 = bj0) (hfj0 : f j0 = c_row g tj0) (j1 bj1 : Nat) (tj1 : TR) (hj1 : j1 < N) (hbj1 : ad j1 = bj1) (hfj1 : f j1 = c_row g tj1) (a2 : Int32) : KR l yX4_onBy cX4_onBy 4 (.array .int) (rm 3 2 6) g [.ref bj0, .ref bj1, .int a2] N ad f (N + nz (v_X4_onBy tj0 tj1 a2)) (fun r ad' f' => pw g (v_X4_onBy tj0 tj1 a2) N ad f r ad' f') := by
  intro sz
  refine mt_start (by decide) (Nat.le_of_ble_eq_true rfl) ?_
  intro p e s m args below meth c hsz X hr hnam hA hK hT H locs B ls hl
  obtain ⟨hx, hb, hml, hown, hts, hlocks⟩ := id X
  have hl : lv_has ls 4 [(0, .ref bj0), (1, .ref bj1), (2, .int a2)] := hl
  refine lv_aload_n hx hb dX4_onBy_0 rfl (lv_at hl 0 rfl) ?_
  refine lv_iload_n hx hb dX4_onBy_1 rfl (lv_at hl 2 rfl) ?_
  refine lv_i2l (v := a2.toInt64) hx hb dX4_onBy_2 rfl ?_
  refine lv_aload_n hx hb dX4_onBy_3 rfl (lv_at hl 1 rfl) ?_
  refine k_l (k := 0) (n := 0) hA B (u_S (rest := [.long a2.toInt64, .ref bj0]) X (c_X4_total l g N ad f j1 bj1 tj1 hj1 hbj1 hfj1 H.size) mw_X4_total md_X4_total rfl lk_X4_43 ⟨Nat.le_of_ble_eq_true rfl, Nat.le_of_ble_eq_true rfl⟩ hA hK hT B hl.1 rfl (Nat.le_of_ble_eq_true rfl) dX4_onBy_4 ⟨Nat.le_of_ble_eq_true rfl, Nat.le_of_ble_eq_true rfl⟩) (Nat.le_of_ble_eq_true rfl) (Nat.le_of_ble_eq_true rfl) (fun r ad' f' H locs hw B => ?_)
  obtain ⟨rfl, rfl, rfl⟩ := hw
  refine lv_lmul hx hb dX4_onBy_7 ?_
  refine k_r (k := 1) (n := 3) hA B (u_S (rest := []) X (c_X4_onByMonths l g N ad f j0 bj0 tj0 hj0 hbj0 hfj0 (a2.toInt64 * (v_X4_total tj1)) H.size) mw_X4_onByMonths md_X4_onByMonths rfl lk_X4_194 ⟨Nat.le_of_ble_eq_true rfl, Nat.le_of_ble_eq_true rfl⟩ hA hK hT B hl.1 rfl (Nat.le_of_ble_eq_true rfl) dX4_onBy_8 ⟨Nat.le_of_ble_eq_true rfl, Nat.le_of_ble_eq_true rfl⟩) (Nat.le_of_ble_eq_true rfl) (Nat.le_of_ble_eq_true rfl) (fun r ad' f' H locs hw B => ?_)
  generalize o1 : (v_X4_onByMonths tj0 (a2.toInt64 * (v_X4_total tj1))) = v9 at hw B
  cases v9 with
  | none =>
    obtain ⟨rfl, rfl, rfl⟩ := pw_n hw
    refine lv_astore_nN (lv' := [(3, .null), (0, .ref bj0), (1, .ref bj1), (2, .int a2)]) hx hb dX4_onBy_11 rfl hl (by decide) rfl (fun ls hl => ?_)
    refine lv_aload_nN hx hb dX4_onBy_12 rfl (lv_at hl 0 rfl) ?_
    refine lv_ifnonnullN hx hb dX4_onBy_13 ?_
    refine lv_null hx hb dX4_onBy_16 ?_
    refine lv_goto (tgt := 36) hx hb dX4_onBy_17 (by decide) ?_
    have ev := (show v_X4_onBy tj0 tj1 a2 = none from by unfold v_X4_onBy; rw [om_none o1])
    exact rt_r (r := none) rfl X hr (Or.inr ⟨_, rfl⟩) (ad, f) B (by rw [ev]; exact PO_of B) (by rw [ev]; exact pw_in) (Nat.le_of_ble_eq_true rfl) (Nat.le_of_ble_eq_true rfl) dX4_onBy_36
  | some t1 =>
    obtain ⟨z1, rfl, rfl, rfl⟩ := pw_s hw
    refine lv_astore_n (lv' := [(3, .ref z1), (0, .ref bj0), (1, .ref bj1), (2, .int a2)]) hx hb dX4_onBy_11 rfl hl (by decide) rfl (fun ls hl => ?_)
    refine lv_aload_n hx hb dX4_onBy_12 rfl (lv_at hl 0 rfl) ?_
    refine lv_ifnonnull (tgt := 20) hx hb dX4_onBy_13 (by decide) ?_
    refine lv_aload_n hx hb dX4_onBy_20 rfl (lv_at hl 0 rfl) ?_
    refine k_i (k := 1) (n := 3) hA B (u_S (rest := []) X (c_X4_number l g (N + 1) (va_up ad N z1) (va_up f N (c_row g t1)) N z1 t1 (Nat.lt_succ_self _) up_eq up_eq (onb_mo o1) H.size) mw_X4_number md_X4_number rfl lk_X4_198 ⟨Nat.le_of_ble_eq_true rfl, Nat.le_of_ble_eq_true rfl⟩ hA hK hT B hl.1 rfl (Nat.le_of_ble_eq_true rfl) dX4_onBy_21 ⟨Nat.le_of_ble_eq_true rfl, Nat.le_of_ble_eq_true rfl⟩) (Nat.le_of_ble_eq_true rfl) (Nat.le_of_ble_eq_true rfl) (fun r ad' f' H locs hw B => ?_)
    obtain ⟨rfl, rfl, rfl⟩ := hw
    refine lv_i2l (v := (v_X4_number t1).toInt64) hx hb dX4_onBy_24 rfl ?_
    refine lv_iload_n hx hb dX4_onBy_25 rfl (lv_at hl 3 rfl) ?_
    refine lv_i2l (v := a2.toInt64) hx hb dX4_onBy_26 rfl ?_
    refine lv_aload_n hx hb dX4_onBy_27 rfl (lv_at hl 2 rfl) ?_
    refine lv_iconst (v := 2) hx hb dX4_onBy_28 (by decide) ?_
    refine h_ld2 X hK B (Nat.lt_succ_of_lt hj1) ((up_lt hj1).trans hbj1) ((up_lt hj1).trans hfj1) dX4_onBy_29 ?_
    refine lv_i2l (v := tj1.2.2.toInt64) hx hb dX4_onBy_30 rfl ?_
    refine lv_lmul hx hb dX4_onBy_31 ?_
    refine lv_ladd hx hb dX4_onBy_32 ?_
    refine k_r (k := 2) (n := 6) hA B (u_S (rest := []) X (c_X4_dateOf l g (N + 1) (va_up ad N z1) (va_up f N (c_row g t1)) (((v_X4_number t1).toInt64) + (a2.toInt64 * tj1.2.2.toInt64)) H.size) mw_X4_dateOf md_X4_dateOf rfl lk_X4_202 ⟨Nat.le_of_ble_eq_true rfl, Nat.le_of_ble_eq_true rfl⟩ hA hK hT B hl.1 rfl (Nat.le_of_ble_eq_true rfl) dX4_onBy_33 ⟨Nat.le_of_ble_eq_true rfl, Nat.le_of_ble_eq_true rfl⟩) (Nat.le_of_ble_eq_true rfl) (Nat.le_of_ble_eq_true rfl) (fun r ad' f' H locs hw B => ?_)
    generalize o2 : (v_X4_dateOf (((v_X4_number t1).toInt64) + (a2.toInt64 * tj1.2.2.toInt64))) = v9 at hw B
    cases v9 with
    | none =>
      obtain ⟨rfl, rfl, rfl⟩ := pw_n hw
      have ev := (show v_X4_onBy tj0 tj1 a2 = none from by unfold v_X4_onBy; rw [om_some o1, om_none o2])
      have B : WB g (aw N ad sz) s.heap N ad f H locs := B.drop (by omega) (fun _ hk => (up_lt hk)) (fun _ hk => (up_lt hk))
      exact rt_r (r := none) rfl X hr (Or.inr ⟨_, rfl⟩) (ad, f) B (by rw [ev]; exact PO_of B) (by rw [ev]; exact pw_in) (Nat.le_of_ble_eq_true rfl) (Nat.le_of_ble_eq_true rfl) dX4_onBy_36
    | some t2 =>
      obtain ⟨z2, rfl, rfl, rfl⟩ := pw_s hw
      have ev := (show v_X4_onBy tj0 tj1 a2 = some t2 from by unfold v_X4_onBy; rw [om_some o1, om_some o2])
      have B : WB g (aw N ad sz) s.heap (N + 1) (va_up ad N z2) (va_up f N (c_row g t2)) H locs := WB_pick B (by omega) (Nat.lt_succ_self _) (fun _ hk => ((up_lt (Nat.lt_succ_of_lt hk)).trans (up_lt hk))) (fun _ hk => ((up_lt (Nat.lt_succ_of_lt hk)).trans (up_lt hk))) up_eq up_eq
      exact rt_r (r := some z2) rfl X hr (Or.inr ⟨_, rfl⟩) (va_up ad N z2, va_up f N (c_row g t2)) B (by rw [ev]; exact PO_of B) (by rw [ev]; exact pw_is) (Nat.le_of_ble_eq_true rfl) (Nat.le_of_ble_eq_true rfl) dX4_onBy_36
def v_X4_isSpanSound (tj0 : TR) : Int32 := om (v_X4_opposed tj0) (om (v_X4_tidied tj0) 1 (fun t2 => if (v_X4_isAlike t2 tj0) = 0 then 0 else (if (v_X4_isSame t2 t2) = 0 then 0 else 1))) (fun t1 => if (v_X4_isSame tj0 tj0) = 0 then (om (v_X4_tidied tj0) 0 (fun t9 => 0)) else (om (v_X4_tidied tj0) 1 (fun t10 => if (v_X4_isAlike t10 tj0) = 0 then 0 else (if (v_X4_isSame t10 t10) = 0 then 0 else 1))))
theorem b01_X4_isSpanSound {tj0 : TR} : (v_X4_isSpanSound tj0) = 0 ∨ (v_X4_isSpanSound tj0) = 1 := by
  unfold v_X4_isSpanSound
  cases q1 : (v_X4_opposed tj0) with
  | none =>
    rw [om_none rfl]
    cases q2 : (v_X4_tidied tj0) with
    | none =>
      rw [om_none rfl]
      exact Or.inr rfl
    | some t2 =>
      rw [om_some rfl]
      by_cases q3 : (v_X4_isAlike t2 tj0) = 0
      · rw [if_pos q3]
        exact Or.inl rfl
      · rw [if_neg q3]
        by_cases q4 : (v_X4_isSame t2 t2) = 0
        · rw [if_pos q4]
          exact Or.inl rfl
        · rw [if_neg q4]
          exact Or.inr rfl
  | some t1 =>
    rw [om_some rfl]
    by_cases q5 : (v_X4_isSame tj0 tj0) = 0
    · rw [if_pos q5]
      cases q6 : (v_X4_tidied tj0) with
      | none =>
        rw [om_none rfl]
        exact Or.inl rfl
      | some t9 =>
        rw [om_some rfl]
        exact Or.inl rfl
    · rw [if_neg q5]
      cases q7 : (v_X4_tidied tj0) with
      | none =>
        rw [om_none rfl]
        exact Or.inr rfl
      | some t10 =>
        rw [om_some rfl]
        by_cases q8 : (v_X4_isAlike t10 tj0) = 0
        · rw [if_pos q8]
          exact Or.inl rfl
        · rw [if_neg q8]
          by_cases q9 : (v_X4_isSame t10 t10) = 0
          · rw [if_pos q9]
            exact Or.inl rfl
          · rw [if_neg q9]
            exact Or.inr rfl
set_option maxHeartbeats 4000000 in
set_option maxRecDepth 100000 in
theorem c_X4_isSpanSound (l : Launch) (g : GG) (N : Nat) (ad : Nat → Nat) (f : Nat → va_E) (j0 bj0 : Nat) (tj0 : TR) (hj0 : j0 < N) (hbj0 : ad j0 = bj0) (hfj0 : f j0 = c_row g tj0) : KI l yX4_isSpanSound cX4_isSpanSound 3 (some .boolean) (rm 4 8 24) g [.ref bj0] N ad f N (fun r ad' f' => ad = ad' ∧ (v_X4_isSpanSound tj0) = r ∧ f = f') := by
  intro sz
  refine mt_start (by decide) (Nat.le_of_ble_eq_true rfl) ?_
  intro p e s m args below meth c hsz X hr hnam hA hK hT H locs B ls hl
  obtain ⟨hx, hb, hml, hown, hts, hlocks⟩ := id X
  have hl : lv_has ls 3 [(0, .ref bj0)] := hl
  refine lv_aload_n hx hb dX4_isSpanSound_0 rfl (lv_at hl 0 rfl) ?_
  refine k_r (k := 2) (n := 6) hA B (u_S (rest := []) X (c_X4_opposed l g N ad f j0 bj0 tj0 hj0 hbj0 hfj0 H.size) mw_X4_opposed md_X4_opposed rfl lk_X4_121 ⟨Nat.le_of_ble_eq_true rfl, Nat.le_of_ble_eq_true rfl⟩ hA hK hT B hl.1 rfl (Nat.le_of_ble_eq_true rfl) dX4_isSpanSound_1 ⟨Nat.le_of_ble_eq_true rfl, Nat.le_of_ble_eq_true rfl⟩) (Nat.le_of_ble_eq_true rfl) (Nat.le_of_ble_eq_true rfl) (fun r ad' f' H locs hw B => ?_)
  generalize o1 : (v_X4_opposed tj0) = v9 at hw B
  cases v9 with
  | none =>
    obtain ⟨rfl, rfl, rfl⟩ := pw_n hw
    refine lv_ifnullN (tgt := 21) hx hb dX4_isSpanSound_4 (by decide) ?_
    refine lv_iconst (v := 1) hx hb dX4_isSpanSound_21 (by decide) ?_
    refine lv_goto (tgt := 26) hx hb dX4_isSpanSound_22 (by decide) ?_
    refine lv_istore_n (lv' := [(1, .int 1), (0, .ref bj0)]) hx hb dX4_isSpanSound_26 rfl hl (by decide) rfl (fun ls hl => ?_)
    refine lv_aload_n hx hb dX4_isSpanSound_27 rfl (lv_at hl 1 rfl) ?_
    refine k_r (k := 3) (n := 9) hA B (u_S (rest := []) X (c_X4_tidied l g N ad f j0 bj0 tj0 hj0 hbj0 hfj0 H.size) mw_X4_tidied md_X4_tidied rfl lk_X4_125 ⟨Nat.le_of_ble_eq_true rfl, Nat.le_of_ble_eq_true rfl⟩ hA hK hT B hl.1 rfl (Nat.le_of_ble_eq_true rfl) dX4_isSpanSound_28 ⟨Nat.le_of_ble_eq_true rfl, Nat.le_of_ble_eq_true rfl⟩) (Nat.le_of_ble_eq_true rfl) (Nat.le_of_ble_eq_true rfl) (fun r ad' f' H locs hw B => ?_)
    generalize o2 : (v_X4_tidied tj0) = v9 at hw B
    cases v9 with
    | none =>
      obtain ⟨rfl, rfl, rfl⟩ := pw_n hw
      refine lv_astore_nN (lv' := [(2, .null), (1, .int 1), (0, .ref bj0)]) hx hb dX4_isSpanSound_31 rfl hl (by decide) rfl (fun ls hl => ?_)
      refine lv_iload_n hx hb dX4_isSpanSound_32 rfl (lv_at hl 1 rfl) ?_
      refine lv_if_eq (tgt := 63) hx hb dX4_isSpanSound_33 (by decide) (fun z => absurd z (by decide)) (fun _ => ?_)
      refine lv_aload_nN hx hb dX4_isSpanSound_36 rfl (lv_at hl 0 rfl) ?_
      refine lv_ifnullN (tgt := 59) hx hb dX4_isSpanSound_37 (by decide) ?_
      refine lv_iconst (v := 1) hx hb dX4_isSpanSound_59 (by decide) ?_
      refine lv_goto (tgt := 64) hx hb dX4_isSpanSound_60 (by decide) ?_
      have ev := (show v_X4_isSpanSound tj0 = 1 from by unfold v_X4_isSpanSound; rw [om_none o1, om_none o2])
      exact rt_i X hr (ad, f) B (PO_of B) ⟨rfl, ev, rfl⟩ rfl (Nat.le_of_ble_eq_true rfl) (Nat.le_of_ble_eq_true rfl) dX4_isSpanSound_64
    | some t2 =>
      obtain ⟨z2, rfl, rfl, rfl⟩ := pw_s hw
      refine lv_astore_n (lv' := [(2, .ref z2), (1, .int 1), (0, .ref bj0)]) hx hb dX4_isSpanSound_31 rfl hl (by decide) rfl (fun ls hl => ?_)
      refine lv_iload_n hx hb dX4_isSpanSound_32 rfl (lv_at hl 1 rfl) ?_
      refine lv_if_eq (tgt := 63) hx hb dX4_isSpanSound_33 (by decide) (fun z => absurd z (by decide)) (fun _ => ?_)
      refine lv_aload_n hx hb dX4_isSpanSound_36 rfl (lv_at hl 0 rfl) ?_
      refine lv_ifnull hx hb dX4_isSpanSound_37 ?_
      refine lv_aload_n hx hb dX4_isSpanSound_40 rfl (lv_at hl 0 rfl) ?_
      refine lv_aload_n hx hb dX4_isSpanSound_41 rfl (lv_at hl 2 rfl) ?_
      refine k_i (k := 3) (n := 9) hA B (u_S (rest := []) X (c_X4_isAlike l g (N + 1) (va_up ad N z2) (va_up f N (c_row g t2)) N z2 t2 (Nat.lt_succ_self _) up_eq up_eq j0 bj0 tj0 (Nat.lt_succ_of_lt hj0) ((up_lt hj0).trans hbj0) ((up_lt hj0).trans hfj0) H.size) mw_X4_isAlike md_X4_isAlike rfl lk_X4_162 ⟨Nat.le_of_ble_eq_true rfl, Nat.le_of_ble_eq_true rfl⟩ hA hK hT B hl.1 rfl (Nat.le_of_ble_eq_true rfl) dX4_isSpanSound_42 ⟨Nat.le_of_ble_eq_true rfl, Nat.le_of_ble_eq_true rfl⟩) (Nat.le_of_ble_eq_true rfl) (Nat.le_of_ble_eq_true rfl) (fun r ad' f' H locs hw B => ?_)
      obtain ⟨rfl, rfl, rfl⟩ := hw
      refine lv_if_eq (tgt := 63) hx hb dX4_isSpanSound_45 (by decide) (fun c3 => ?_) (fun c3 => ?_)
      · refine lv_iconst (v := 0) hx hb dX4_isSpanSound_63 (by decide) ?_
        have ev := (show v_X4_isSpanSound tj0 = 0 from by unfold v_X4_isSpanSound; rw [om_none o1, om_some o2, if_pos c3])
        have B : WB g (aw N ad sz) s.heap N ad f H locs := B.drop (by omega) (fun _ hk => (up_lt hk)) (fun _ hk => (up_lt hk))
        exact rt_i X hr (ad, f) B (PO_of B) ⟨rfl, ev, rfl⟩ rfl (Nat.le_of_ble_eq_true rfl) (Nat.le_of_ble_eq_true rfl) dX4_isSpanSound_64
      · refine lv_aload_n hx hb dX4_isSpanSound_48 rfl (lv_at hl 0 rfl) ?_
        refine k_r (k := 4) (n := 12) hA B (u_S (rest := []) X (c_X4_tidied l g (N + 1) (va_up ad N z2) (va_up f N (c_row g t2)) N z2 t2 (Nat.lt_succ_self _) up_eq up_eq H.size) mw_X4_tidied md_X4_tidied rfl lk_X4_125 ⟨Nat.le_of_ble_eq_true rfl, Nat.le_of_ble_eq_true rfl⟩ hA hK hT B hl.1 rfl (Nat.le_of_ble_eq_true rfl) dX4_isSpanSound_49 ⟨Nat.le_of_ble_eq_true rfl, Nat.le_of_ble_eq_true rfl⟩) (Nat.le_of_ble_eq_true rfl) (Nat.le_of_ble_eq_true rfl) (fun r ad' f' H locs hw B => ?_)
        rw [(tidy_tidy o2)] at hw B
        obtain ⟨z4, rfl, rfl, rfl⟩ := pw_s hw
        refine lv_aload_n hx hb dX4_isSpanSound_52 rfl (lv_at hl 0 rfl) ?_
        refine k_i (k := 4) (n := 12) hA B (u_S (rest := []) X (c_X4_isSame l g (N + 1 + 1) (va_up (va_up ad N z2) (N + 1) z4) (va_up (va_up f N (c_row g t2)) (N + 1) (c_row g t2)) (N + 1) z4 t2 (Nat.lt_succ_self _) up_eq up_eq N z2 t2 (Nat.lt_succ_of_lt (Nat.lt_succ_self _)) ((up_lt (Nat.lt_succ_self _)).trans up_eq) ((up_lt (Nat.lt_succ_self _)).trans up_eq) H.size) mw_X4_isSame md_X4_isSame rfl lk_X4_87 ⟨Nat.le_of_ble_eq_true rfl, Nat.le_of_ble_eq_true rfl⟩ hA hK hT B hl.1 rfl (Nat.le_of_ble_eq_true rfl) dX4_isSpanSound_53 ⟨Nat.le_of_ble_eq_true rfl, Nat.le_of_ble_eq_true rfl⟩) (Nat.le_of_ble_eq_true rfl) (Nat.le_of_ble_eq_true rfl) (fun r ad' f' H locs hw B => ?_)
        obtain ⟨rfl, rfl, rfl⟩ := hw
        refine lv_if_eq (tgt := 63) hx hb dX4_isSpanSound_56 (by decide) (fun c5 => ?_) (fun c5 => ?_)
        · refine lv_iconst (v := 0) hx hb dX4_isSpanSound_63 (by decide) ?_
          have ev := (show v_X4_isSpanSound tj0 = 0 from by unfold v_X4_isSpanSound; rw [om_none o1, om_some o2, if_neg c3, if_pos c5])
          have B : WB g (aw N ad sz) s.heap N ad f H locs := B.drop (by omega) (fun _ hk => ((up_lt (Nat.lt_succ_of_lt hk)).trans (up_lt hk))) (fun _ hk => ((up_lt (Nat.lt_succ_of_lt hk)).trans (up_lt hk)))
          exact rt_i X hr (ad, f) B (PO_of B) ⟨rfl, ev, rfl⟩ rfl (Nat.le_of_ble_eq_true rfl) (Nat.le_of_ble_eq_true rfl) dX4_isSpanSound_64
        · refine lv_iconst (v := 1) hx hb dX4_isSpanSound_59 (by decide) ?_
          refine lv_goto (tgt := 64) hx hb dX4_isSpanSound_60 (by decide) ?_
          have ev := (show v_X4_isSpanSound tj0 = 1 from by unfold v_X4_isSpanSound; rw [om_none o1, om_some o2, if_neg c3, if_neg c5])
          have B : WB g (aw N ad sz) s.heap N ad f H locs := B.drop (by omega) (fun _ hk => ((up_lt (Nat.lt_succ_of_lt hk)).trans (up_lt hk))) (fun _ hk => ((up_lt (Nat.lt_succ_of_lt hk)).trans (up_lt hk)))
          exact rt_i X hr (ad, f) B (PO_of B) ⟨rfl, ev, rfl⟩ rfl (Nat.le_of_ble_eq_true rfl) (Nat.le_of_ble_eq_true rfl) dX4_isSpanSound_64
  | some t1 =>
    obtain ⟨z1, rfl, rfl, rfl⟩ := pw_s hw
    refine lv_ifnull hx hb dX4_isSpanSound_4 ?_
    refine lv_aload_n hx hb dX4_isSpanSound_7 rfl (lv_at hl 0 rfl) ?_
    refine k_r (k := 4) (n := 12) hA B (u_S (rest := []) X (c_X4_opposed l g (N + 1) (va_up ad N z1) (va_up f N (c_row g t1)) j0 bj0 tj0 (Nat.lt_succ_of_lt hj0) ((up_lt hj0).trans hbj0) ((up_lt hj0).trans hfj0) H.size) mw_X4_opposed md_X4_opposed rfl lk_X4_121 ⟨Nat.le_of_ble_eq_true rfl, Nat.le_of_ble_eq_true rfl⟩ hA hK hT B hl.1 rfl (Nat.le_of_ble_eq_true rfl) dX4_isSpanSound_8 ⟨Nat.le_of_ble_eq_true rfl, Nat.le_of_ble_eq_true rfl⟩) (Nat.le_of_ble_eq_true rfl) (Nat.le_of_ble_eq_true rfl) (fun r ad' f' H locs hw B => ?_)
    rw [o1] at hw B
    obtain ⟨z6, rfl, rfl, rfl⟩ := pw_s hw
    refine k_r (k := 6) (n := 18) hA B (u_S (rest := []) X (c_X4_opposed l g (N + 1 + 1) (va_up (va_up ad N z1) (N + 1) z6) (va_up (va_up f N (c_row g t1)) (N + 1) (c_row g t1)) (N + 1) z6 t1 (Nat.lt_succ_self _) up_eq up_eq H.size) mw_X4_opposed md_X4_opposed rfl lk_X4_121 ⟨Nat.le_of_ble_eq_true rfl, Nat.le_of_ble_eq_true rfl⟩ hA hK hT B hl.1 rfl (Nat.le_of_ble_eq_true rfl) dX4_isSpanSound_11 ⟨Nat.le_of_ble_eq_true rfl, Nat.le_of_ble_eq_true rfl⟩) (Nat.le_of_ble_eq_true rfl) (Nat.le_of_ble_eq_true rfl) (fun r ad' f' H locs hw B => ?_)
    rw [(opp_opp o1)] at hw B
    obtain ⟨z7, rfl, rfl, rfl⟩ := pw_s hw
    refine lv_aload_n hx hb dX4_isSpanSound_14 rfl (lv_at hl 0 rfl) ?_
    refine k_i (k := 6) (n := 18) hA B (u_S (rest := []) X (c_X4_isSame l g (N + 1 + 1 + 1) (va_up (va_up (va_up ad N z1) (N + 1) z6) (N + 1 + 1) z7) (va_up (va_up (va_up f N (c_row g t1)) (N + 1) (c_row g t1)) (N + 1 + 1) (c_row g tj0)) (N + 1 + 1) z7 tj0 (Nat.lt_succ_self _) up_eq up_eq j0 bj0 tj0 (Nat.lt_succ_of_lt (Nat.lt_succ_of_lt (Nat.lt_succ_of_lt hj0))) ((up_lt (Nat.lt_succ_of_lt (Nat.lt_succ_of_lt hj0))).trans ((up_lt (Nat.lt_succ_of_lt hj0)).trans ((up_lt hj0).trans hbj0))) ((up_lt (Nat.lt_succ_of_lt (Nat.lt_succ_of_lt hj0))).trans ((up_lt (Nat.lt_succ_of_lt hj0)).trans ((up_lt hj0).trans hfj0))) H.size) mw_X4_isSame md_X4_isSame rfl lk_X4_87 ⟨Nat.le_of_ble_eq_true rfl, Nat.le_of_ble_eq_true rfl⟩ hA hK hT B hl.1 rfl (Nat.le_of_ble_eq_true rfl) dX4_isSpanSound_15 ⟨Nat.le_of_ble_eq_true rfl, Nat.le_of_ble_eq_true rfl⟩) (Nat.le_of_ble_eq_true rfl) (Nat.le_of_ble_eq_true rfl) (fun r ad' f' H locs hw B => ?_)
    obtain ⟨rfl, rfl, rfl⟩ := hw
    refine lv_if_eq (tgt := 25) hx hb dX4_isSpanSound_18 (by decide) (fun c8 => ?_) (fun c8 => ?_)
    · refine lv_iconst (v := 0) hx hb dX4_isSpanSound_25 (by decide) ?_
      refine lv_istore_n (lv' := [(1, .int 0), (0, .ref bj0)]) hx hb dX4_isSpanSound_26 rfl hl (by decide) rfl (fun ls hl => ?_)
      refine lv_aload_n hx hb dX4_isSpanSound_27 rfl (lv_at hl 1 rfl) ?_
      refine k_r (k := 7) (n := 21) hA B (u_S (rest := []) X (c_X4_tidied l g (N + 1 + 1 + 1) (va_up (va_up (va_up ad N z1) (N + 1) z6) (N + 1 + 1) z7) (va_up (va_up (va_up f N (c_row g t1)) (N + 1) (c_row g t1)) (N + 1 + 1) (c_row g tj0)) j0 bj0 tj0 (Nat.lt_succ_of_lt (Nat.lt_succ_of_lt (Nat.lt_succ_of_lt hj0))) ((up_lt (Nat.lt_succ_of_lt (Nat.lt_succ_of_lt hj0))).trans ((up_lt (Nat.lt_succ_of_lt hj0)).trans ((up_lt hj0).trans hbj0))) ((up_lt (Nat.lt_succ_of_lt (Nat.lt_succ_of_lt hj0))).trans ((up_lt (Nat.lt_succ_of_lt hj0)).trans ((up_lt hj0).trans hfj0))) H.size) mw_X4_tidied md_X4_tidied rfl lk_X4_125 ⟨Nat.le_of_ble_eq_true rfl, Nat.le_of_ble_eq_true rfl⟩ hA hK hT B hl.1 rfl (Nat.le_of_ble_eq_true rfl) dX4_isSpanSound_28 ⟨Nat.le_of_ble_eq_true rfl, Nat.le_of_ble_eq_true rfl⟩) (Nat.le_of_ble_eq_true rfl) (Nat.le_of_ble_eq_true rfl) (fun r ad' f' H locs hw B => ?_)
      generalize o9 : (v_X4_tidied tj0) = v9 at hw B
      cases v9 with
      | none =>
        obtain ⟨rfl, rfl, rfl⟩ := pw_n hw
        refine lv_astore_nN (lv' := [(2, .null), (1, .int 0), (0, .ref bj0)]) hx hb dX4_isSpanSound_31 rfl hl (by decide) rfl (fun ls hl => ?_)
        refine lv_iload_n hx hb dX4_isSpanSound_32 rfl (lv_at hl 1 rfl) ?_
        refine lv_if_eq (tgt := 63) hx hb dX4_isSpanSound_33 (by decide) (fun _ => ?_) (fun z => absurd z (by decide))
        refine lv_iconst (v := 0) hx hb dX4_isSpanSound_63 (by decide) ?_
        have ev := (show v_X4_isSpanSound tj0 = 0 from by unfold v_X4_isSpanSound; rw [om_some o1, if_pos c8, om_none o9])
        have B : WB g (aw N ad sz) s.heap N ad f H locs := B.drop (by omega) (fun _ hk => ((up_lt (Nat.lt_succ_of_lt (Nat.lt_succ_of_lt hk))).trans ((up_lt (Nat.lt_succ_of_lt hk)).trans (up_lt hk)))) (fun _ hk => ((up_lt (Nat.lt_succ_of_lt (Nat.lt_succ_of_lt hk))).trans ((up_lt (Nat.lt_succ_of_lt hk)).trans (up_lt hk))))
        exact rt_i X hr (ad, f) B (PO_of B) ⟨rfl, ev, rfl⟩ rfl (Nat.le_of_ble_eq_true rfl) (Nat.le_of_ble_eq_true rfl) dX4_isSpanSound_64
      | some t9 =>
        obtain ⟨z9, rfl, rfl, rfl⟩ := pw_s hw
        refine lv_astore_n (lv' := [(2, .ref z9), (1, .int 0), (0, .ref bj0)]) hx hb dX4_isSpanSound_31 rfl hl (by decide) rfl (fun ls hl => ?_)
        refine lv_iload_n hx hb dX4_isSpanSound_32 rfl (lv_at hl 1 rfl) ?_
        refine lv_if_eq (tgt := 63) hx hb dX4_isSpanSound_33 (by decide) (fun _ => ?_) (fun z => absurd z (by decide))
        refine lv_iconst (v := 0) hx hb dX4_isSpanSound_63 (by decide) ?_
        have ev := (show v_X4_isSpanSound tj0 = 0 from by unfold v_X4_isSpanSound; rw [om_some o1, if_pos c8, om_some o9])
        have B : WB g (aw N ad sz) s.heap N ad f H locs := B.drop (by omega) (fun _ hk => ((up_lt (Nat.lt_succ_of_lt (Nat.lt_succ_of_lt (Nat.lt_succ_of_lt hk)))).trans ((up_lt (Nat.lt_succ_of_lt (Nat.lt_succ_of_lt hk))).trans ((up_lt (Nat.lt_succ_of_lt hk)).trans (up_lt hk))))) (fun _ hk => ((up_lt (Nat.lt_succ_of_lt (Nat.lt_succ_of_lt (Nat.lt_succ_of_lt hk)))).trans ((up_lt (Nat.lt_succ_of_lt (Nat.lt_succ_of_lt hk))).trans ((up_lt (Nat.lt_succ_of_lt hk)).trans (up_lt hk)))))
        exact rt_i X hr (ad, f) B (PO_of B) ⟨rfl, ev, rfl⟩ rfl (Nat.le_of_ble_eq_true rfl) (Nat.le_of_ble_eq_true rfl) dX4_isSpanSound_64
    · refine lv_iconst (v := 1) hx hb dX4_isSpanSound_21 (by decide) ?_
      refine lv_goto (tgt := 26) hx hb dX4_isSpanSound_22 (by decide) ?_
      refine lv_istore_n (lv' := [(1, .int 1), (0, .ref bj0)]) hx hb dX4_isSpanSound_26 rfl hl (by decide) rfl (fun ls hl => ?_)
      refine lv_aload_n hx hb dX4_isSpanSound_27 rfl (lv_at hl 1 rfl) ?_
      refine k_r (k := 7) (n := 21) hA B (u_S (rest := []) X (c_X4_tidied l g (N + 1 + 1 + 1) (va_up (va_up (va_up ad N z1) (N + 1) z6) (N + 1 + 1) z7) (va_up (va_up (va_up f N (c_row g t1)) (N + 1) (c_row g t1)) (N + 1 + 1) (c_row g tj0)) j0 bj0 tj0 (Nat.lt_succ_of_lt (Nat.lt_succ_of_lt (Nat.lt_succ_of_lt hj0))) ((up_lt (Nat.lt_succ_of_lt (Nat.lt_succ_of_lt hj0))).trans ((up_lt (Nat.lt_succ_of_lt hj0)).trans ((up_lt hj0).trans hbj0))) ((up_lt (Nat.lt_succ_of_lt (Nat.lt_succ_of_lt hj0))).trans ((up_lt (Nat.lt_succ_of_lt hj0)).trans ((up_lt hj0).trans hfj0))) H.size) mw_X4_tidied md_X4_tidied rfl lk_X4_125 ⟨Nat.le_of_ble_eq_true rfl, Nat.le_of_ble_eq_true rfl⟩ hA hK hT B hl.1 rfl (Nat.le_of_ble_eq_true rfl) dX4_isSpanSound_28 ⟨Nat.le_of_ble_eq_true rfl, Nat.le_of_ble_eq_true rfl⟩) (Nat.le_of_ble_eq_true rfl) (Nat.le_of_ble_eq_true rfl) (fun r ad' f' H locs hw B => ?_)
      generalize o10 : (v_X4_tidied tj0) = v9 at hw B
      cases v9 with
      | none =>
        obtain ⟨rfl, rfl, rfl⟩ := pw_n hw
        refine lv_astore_nN (lv' := [(2, .null), (1, .int 1), (0, .ref bj0)]) hx hb dX4_isSpanSound_31 rfl hl (by decide) rfl (fun ls hl => ?_)
        refine lv_iload_n hx hb dX4_isSpanSound_32 rfl (lv_at hl 1 rfl) ?_
        refine lv_if_eq (tgt := 63) hx hb dX4_isSpanSound_33 (by decide) (fun z => absurd z (by decide)) (fun _ => ?_)
        refine lv_aload_nN hx hb dX4_isSpanSound_36 rfl (lv_at hl 0 rfl) ?_
        refine lv_ifnullN (tgt := 59) hx hb dX4_isSpanSound_37 (by decide) ?_
        refine lv_iconst (v := 1) hx hb dX4_isSpanSound_59 (by decide) ?_
        refine lv_goto (tgt := 64) hx hb dX4_isSpanSound_60 (by decide) ?_
        have ev := (show v_X4_isSpanSound tj0 = 1 from by unfold v_X4_isSpanSound; rw [om_some o1, if_neg c8, om_none o10])
        have B : WB g (aw N ad sz) s.heap N ad f H locs := B.drop (by omega) (fun _ hk => ((up_lt (Nat.lt_succ_of_lt (Nat.lt_succ_of_lt hk))).trans ((up_lt (Nat.lt_succ_of_lt hk)).trans (up_lt hk)))) (fun _ hk => ((up_lt (Nat.lt_succ_of_lt (Nat.lt_succ_of_lt hk))).trans ((up_lt (Nat.lt_succ_of_lt hk)).trans (up_lt hk))))
        exact rt_i X hr (ad, f) B (PO_of B) ⟨rfl, ev, rfl⟩ rfl (Nat.le_of_ble_eq_true rfl) (Nat.le_of_ble_eq_true rfl) dX4_isSpanSound_64
      | some t10 =>
        obtain ⟨z10, rfl, rfl, rfl⟩ := pw_s hw
        refine lv_astore_n (lv' := [(2, .ref z10), (1, .int 1), (0, .ref bj0)]) hx hb dX4_isSpanSound_31 rfl hl (by decide) rfl (fun ls hl => ?_)
        refine lv_iload_n hx hb dX4_isSpanSound_32 rfl (lv_at hl 1 rfl) ?_
        refine lv_if_eq (tgt := 63) hx hb dX4_isSpanSound_33 (by decide) (fun z => absurd z (by decide)) (fun _ => ?_)
        refine lv_aload_n hx hb dX4_isSpanSound_36 rfl (lv_at hl 0 rfl) ?_
        refine lv_ifnull hx hb dX4_isSpanSound_37 ?_
        refine lv_aload_n hx hb dX4_isSpanSound_40 rfl (lv_at hl 0 rfl) ?_
        refine lv_aload_n hx hb dX4_isSpanSound_41 rfl (lv_at hl 2 rfl) ?_
        refine k_i (k := 7) (n := 21) hA B (u_S (rest := []) X (c_X4_isAlike l g (N + 1 + 1 + 1 + 1) (va_up (va_up (va_up (va_up ad N z1) (N + 1) z6) (N + 1 + 1) z7) (N + 1 + 1 + 1) z10) (va_up (va_up (va_up (va_up f N (c_row g t1)) (N + 1) (c_row g t1)) (N + 1 + 1) (c_row g tj0)) (N + 1 + 1 + 1) (c_row g t10)) (N + 1 + 1 + 1) z10 t10 (Nat.lt_succ_self _) up_eq up_eq j0 bj0 tj0 (Nat.lt_succ_of_lt (Nat.lt_succ_of_lt (Nat.lt_succ_of_lt (Nat.lt_succ_of_lt hj0)))) ((up_lt (Nat.lt_succ_of_lt (Nat.lt_succ_of_lt (Nat.lt_succ_of_lt hj0)))).trans ((up_lt (Nat.lt_succ_of_lt (Nat.lt_succ_of_lt hj0))).trans ((up_lt (Nat.lt_succ_of_lt hj0)).trans ((up_lt hj0).trans hbj0)))) ((up_lt (Nat.lt_succ_of_lt (Nat.lt_succ_of_lt (Nat.lt_succ_of_lt hj0)))).trans ((up_lt (Nat.lt_succ_of_lt (Nat.lt_succ_of_lt hj0))).trans ((up_lt (Nat.lt_succ_of_lt hj0)).trans ((up_lt hj0).trans hfj0)))) H.size) mw_X4_isAlike md_X4_isAlike rfl lk_X4_162 ⟨Nat.le_of_ble_eq_true rfl, Nat.le_of_ble_eq_true rfl⟩ hA hK hT B hl.1 rfl (Nat.le_of_ble_eq_true rfl) dX4_isSpanSound_42 ⟨Nat.le_of_ble_eq_true rfl, Nat.le_of_ble_eq_true rfl⟩) (Nat.le_of_ble_eq_true rfl) (Nat.le_of_ble_eq_true rfl) (fun r ad' f' H locs hw B => ?_)
        obtain ⟨rfl, rfl, rfl⟩ := hw
        refine lv_if_eq (tgt := 63) hx hb dX4_isSpanSound_45 (by decide) (fun c11 => ?_) (fun c11 => ?_)
        · refine lv_iconst (v := 0) hx hb dX4_isSpanSound_63 (by decide) ?_
          have ev := (show v_X4_isSpanSound tj0 = 0 from by unfold v_X4_isSpanSound; rw [om_some o1, if_neg c8, om_some o10, if_pos c11])
          have B : WB g (aw N ad sz) s.heap N ad f H locs := B.drop (by omega) (fun _ hk => ((up_lt (Nat.lt_succ_of_lt (Nat.lt_succ_of_lt (Nat.lt_succ_of_lt hk)))).trans ((up_lt (Nat.lt_succ_of_lt (Nat.lt_succ_of_lt hk))).trans ((up_lt (Nat.lt_succ_of_lt hk)).trans (up_lt hk))))) (fun _ hk => ((up_lt (Nat.lt_succ_of_lt (Nat.lt_succ_of_lt (Nat.lt_succ_of_lt hk)))).trans ((up_lt (Nat.lt_succ_of_lt (Nat.lt_succ_of_lt hk))).trans ((up_lt (Nat.lt_succ_of_lt hk)).trans (up_lt hk)))))
          exact rt_i X hr (ad, f) B (PO_of B) ⟨rfl, ev, rfl⟩ rfl (Nat.le_of_ble_eq_true rfl) (Nat.le_of_ble_eq_true rfl) dX4_isSpanSound_64
        · refine lv_aload_n hx hb dX4_isSpanSound_48 rfl (lv_at hl 0 rfl) ?_
          refine k_r (k := 8) (n := 24) hA B (u_S (rest := []) X (c_X4_tidied l g (N + 1 + 1 + 1 + 1) (va_up (va_up (va_up (va_up ad N z1) (N + 1) z6) (N + 1 + 1) z7) (N + 1 + 1 + 1) z10) (va_up (va_up (va_up (va_up f N (c_row g t1)) (N + 1) (c_row g t1)) (N + 1 + 1) (c_row g tj0)) (N + 1 + 1 + 1) (c_row g t10)) (N + 1 + 1 + 1) z10 t10 (Nat.lt_succ_self _) up_eq up_eq H.size) mw_X4_tidied md_X4_tidied rfl lk_X4_125 ⟨Nat.le_of_ble_eq_true rfl, Nat.le_of_ble_eq_true rfl⟩ hA hK hT B hl.1 rfl (Nat.le_of_ble_eq_true rfl) dX4_isSpanSound_49 ⟨Nat.le_of_ble_eq_true rfl, Nat.le_of_ble_eq_true rfl⟩) (Nat.le_of_ble_eq_true rfl) (Nat.le_of_ble_eq_true rfl) (fun r ad' f' H locs hw B => ?_)
          rw [(tidy_tidy o10)] at hw B
          obtain ⟨z12, rfl, rfl, rfl⟩ := pw_s hw
          refine lv_aload_n hx hb dX4_isSpanSound_52 rfl (lv_at hl 0 rfl) ?_
          refine k_i (k := 8) (n := 24) hA B (u_S (rest := []) X (c_X4_isSame l g (N + 1 + 1 + 1 + 1 + 1) (va_up (va_up (va_up (va_up (va_up ad N z1) (N + 1) z6) (N + 1 + 1) z7) (N + 1 + 1 + 1) z10) (N + 1 + 1 + 1 + 1) z12) (va_up (va_up (va_up (va_up (va_up f N (c_row g t1)) (N + 1) (c_row g t1)) (N + 1 + 1) (c_row g tj0)) (N + 1 + 1 + 1) (c_row g t10)) (N + 1 + 1 + 1 + 1) (c_row g t10)) (N + 1 + 1 + 1 + 1) z12 t10 (Nat.lt_succ_self _) up_eq up_eq (N + 1 + 1 + 1) z10 t10 (Nat.lt_succ_of_lt (Nat.lt_succ_self _)) ((up_lt (Nat.lt_succ_self _)).trans up_eq) ((up_lt (Nat.lt_succ_self _)).trans up_eq) H.size) mw_X4_isSame md_X4_isSame rfl lk_X4_87 ⟨Nat.le_of_ble_eq_true rfl, Nat.le_of_ble_eq_true rfl⟩ hA hK hT B hl.1 rfl (Nat.le_of_ble_eq_true rfl) dX4_isSpanSound_53 ⟨Nat.le_of_ble_eq_true rfl, Nat.le_of_ble_eq_true rfl⟩) (Nat.le_of_ble_eq_true rfl) (Nat.le_of_ble_eq_true rfl) (fun r ad' f' H locs hw B => ?_)
          obtain ⟨rfl, rfl, rfl⟩ := hw
          refine lv_if_eq (tgt := 63) hx hb dX4_isSpanSound_56 (by decide) (fun c13 => ?_) (fun c13 => ?_)
          · refine lv_iconst (v := 0) hx hb dX4_isSpanSound_63 (by decide) ?_
            have ev := (show v_X4_isSpanSound tj0 = 0 from by unfold v_X4_isSpanSound; rw [om_some o1, if_neg c8, om_some o10, if_neg c11, if_pos c13])
            have B : WB g (aw N ad sz) s.heap N ad f H locs := B.drop (by omega) (fun _ hk => ((up_lt (Nat.lt_succ_of_lt (Nat.lt_succ_of_lt (Nat.lt_succ_of_lt (Nat.lt_succ_of_lt hk))))).trans ((up_lt (Nat.lt_succ_of_lt (Nat.lt_succ_of_lt (Nat.lt_succ_of_lt hk)))).trans ((up_lt (Nat.lt_succ_of_lt (Nat.lt_succ_of_lt hk))).trans ((up_lt (Nat.lt_succ_of_lt hk)).trans (up_lt hk)))))) (fun _ hk => ((up_lt (Nat.lt_succ_of_lt (Nat.lt_succ_of_lt (Nat.lt_succ_of_lt (Nat.lt_succ_of_lt hk))))).trans ((up_lt (Nat.lt_succ_of_lt (Nat.lt_succ_of_lt (Nat.lt_succ_of_lt hk)))).trans ((up_lt (Nat.lt_succ_of_lt (Nat.lt_succ_of_lt hk))).trans ((up_lt (Nat.lt_succ_of_lt hk)).trans (up_lt hk))))))
            exact rt_i X hr (ad, f) B (PO_of B) ⟨rfl, ev, rfl⟩ rfl (Nat.le_of_ble_eq_true rfl) (Nat.le_of_ble_eq_true rfl) dX4_isSpanSound_64
          · refine lv_iconst (v := 1) hx hb dX4_isSpanSound_59 (by decide) ?_
            refine lv_goto (tgt := 64) hx hb dX4_isSpanSound_60 (by decide) ?_
            have ev := (show v_X4_isSpanSound tj0 = 1 from by unfold v_X4_isSpanSound; rw [om_some o1, if_neg c8, om_some o10, if_neg c11, if_neg c13])
            have B : WB g (aw N ad sz) s.heap N ad f H locs := B.drop (by omega) (fun _ hk => ((up_lt (Nat.lt_succ_of_lt (Nat.lt_succ_of_lt (Nat.lt_succ_of_lt (Nat.lt_succ_of_lt hk))))).trans ((up_lt (Nat.lt_succ_of_lt (Nat.lt_succ_of_lt (Nat.lt_succ_of_lt hk)))).trans ((up_lt (Nat.lt_succ_of_lt (Nat.lt_succ_of_lt hk))).trans ((up_lt (Nat.lt_succ_of_lt hk)).trans (up_lt hk)))))) (fun _ hk => ((up_lt (Nat.lt_succ_of_lt (Nat.lt_succ_of_lt (Nat.lt_succ_of_lt (Nat.lt_succ_of_lt hk))))).trans ((up_lt (Nat.lt_succ_of_lt (Nat.lt_succ_of_lt (Nat.lt_succ_of_lt hk)))).trans ((up_lt (Nat.lt_succ_of_lt (Nat.lt_succ_of_lt hk))).trans ((up_lt (Nat.lt_succ_of_lt hk)).trans (up_lt hk))))))
            exact rt_i X hr (ad, f) B (PO_of B) ⟨rfl, ev, rfl⟩ rfl (Nat.le_of_ble_eq_true rfl) (Nat.le_of_ble_eq_true rfl) dX4_isSpanSound_64
def v_X4_areSound (tj0 : TR) (tj1 : TR) : Int32 := om (v_X4_sum tj0 1 tj1) (om (v_X4_sum tj1 1 tj0) 1 (fun t2 => 0)) (fun t1 => om (v_X4_sum tj1 1 tj0) 0 (fun t3 => if (v_X4_isSame t1 t3) = 0 then 0 else (if (v_X4_isSame tj0 tj0) = 0 then 0 else (om (v_X4_opposed tj0) 1 (fun t7 => om (v_X4_opposed tj1) 1 (fun t8 => if (v_X4_isAlike tj0 tj1) = (v_X4_isAlike t7 t8) then 1 else 0))))))
theorem b01_X4_areSound {tj0 : TR} {tj1 : TR} : (v_X4_areSound tj0 tj1) = 0 ∨ (v_X4_areSound tj0 tj1) = 1 := by
  unfold v_X4_areSound
  cases q1 : (v_X4_sum tj0 1 tj1) with
  | none =>
    rw [om_none rfl]
    cases q2 : (v_X4_sum tj1 1 tj0) with
    | none =>
      rw [om_none rfl]
      exact Or.inr rfl
    | some t2 =>
      rw [om_some rfl]
      exact Or.inl rfl
  | some t1 =>
    rw [om_some rfl]
    cases q3 : (v_X4_sum tj1 1 tj0) with
    | none =>
      rw [om_none rfl]
      exact Or.inl rfl
    | some t3 =>
      rw [om_some rfl]
      by_cases q4 : (v_X4_isSame t1 t3) = 0
      · rw [if_pos q4]
        exact Or.inl rfl
      · rw [if_neg q4]
        by_cases q5 : (v_X4_isSame tj0 tj0) = 0
        · rw [if_pos q5]
          exact Or.inl rfl
        · rw [if_neg q5]
          cases q6 : (v_X4_opposed tj0) with
          | none =>
            rw [om_none rfl]
            exact Or.inr rfl
          | some t7 =>
            rw [om_some rfl]
            cases q7 : (v_X4_opposed tj1) with
            | none =>
              rw [om_none rfl]
              exact Or.inr rfl
            | some t8 =>
              rw [om_some rfl]
              by_cases q8 : (v_X4_isAlike tj0 tj1) = (v_X4_isAlike t7 t8)
              · rw [if_pos q8]
                exact Or.inr rfl
              · rw [if_neg q8]
                exact Or.inl rfl
set_option maxHeartbeats 4000000 in
set_option maxRecDepth 100000 in
theorem c_X4_areSound (l : Launch) (g : GG) (N : Nat) (ad : Nat → Nat) (f : Nat → va_E) (j0 bj0 : Nat) (tj0 : TR) (hj0 : j0 < N) (hbj0 : ad j0 = bj0) (hfj0 : f j0 = c_row g tj0) (j1 bj1 : Nat) (tj1 : TR) (hj1 : j1 < N) (hbj1 : ad j1 = bj1) (hfj1 : f j1 = c_row g tj1) : KI l yX4_areSound cX4_areSound 5 (some .boolean) (rm 4 11 33) g [.ref bj0, .ref bj1] N ad f N (fun r ad' f' => ad = ad' ∧ (v_X4_areSound tj0 tj1) = r ∧ f = f') := by
  intro sz
  refine mt_start (by decide) (Nat.le_of_ble_eq_true rfl) ?_
  intro p e s m args below meth c hsz X hr hnam hA hK hT H locs B ls hl
  obtain ⟨hx, hb, hml, hown, hts, hlocks⟩ := id X
  have hl : lv_has ls 5 [(0, .ref bj0), (1, .ref bj1)] := hl
  refine lv_aload_n hx hb dX4_areSound_0 rfl (lv_at hl 0 rfl) ?_
  refine lv_lconst (v := 1) hx hb dX4_areSound_1 (by decide) ?_
  refine lv_aload_n hx hb dX4_areSound_2 rfl (lv_at hl 1 rfl) ?_
  refine k_r (k := 1) (n := 3) hA B (u_S (rest := []) X (c_X4_sum l g N ad f j0 bj0 tj0 hj0 hbj0 hfj0 1 j1 bj1 tj1 hj1 hbj1 hfj1 H.size) mw_X4_sum md_X4_sum rfl lk_X4_57 ⟨Nat.le_of_ble_eq_true rfl, Nat.le_of_ble_eq_true rfl⟩ hA hK hT B hl.1 rfl (Nat.le_of_ble_eq_true rfl) dX4_areSound_3 ⟨Nat.le_of_ble_eq_true rfl, Nat.le_of_ble_eq_true rfl⟩) (Nat.le_of_ble_eq_true rfl) (Nat.le_of_ble_eq_true rfl) (fun r ad' f' H locs hw B => ?_)
  generalize o1 : (v_X4_sum tj0 1 tj1) = v9 at hw B
  cases v9 with
  | none =>
    obtain ⟨rfl, rfl, rfl⟩ := pw_n hw
    refine lv_astore_nN (lv' := [(2, .null), (0, .ref bj0), (1, .ref bj1)]) hx hb dX4_areSound_6 rfl hl (by decide) rfl (fun ls hl => ?_)
    refine lv_aload_n hx hb dX4_areSound_7 rfl (lv_at hl 2 rfl) ?_
    refine lv_lconst (v := 1) hx hb dX4_areSound_8 (by decide) ?_
    refine lv_aload_n hx hb dX4_areSound_9 rfl (lv_at hl 1 rfl) ?_
    refine k_r (k := 2) (n := 6) hA B (u_S (rest := []) X (c_X4_sum l g N ad f j1 bj1 tj1 hj1 hbj1 hfj1 1 j0 bj0 tj0 hj0 hbj0 hfj0 H.size) mw_X4_sum md_X4_sum rfl lk_X4_57 ⟨Nat.le_of_ble_eq_true rfl, Nat.le_of_ble_eq_true rfl⟩ hA hK hT B hl.1 rfl (Nat.le_of_ble_eq_true rfl) dX4_areSound_10 ⟨Nat.le_of_ble_eq_true rfl, Nat.le_of_ble_eq_true rfl⟩) (Nat.le_of_ble_eq_true rfl) (Nat.le_of_ble_eq_true rfl) (fun r ad' f' H locs hw B => ?_)
    generalize o2 : (v_X4_sum tj1 1 tj0) = v9 at hw B
    cases v9 with
    | none =>
      obtain ⟨rfl, rfl, rfl⟩ := pw_n hw
      refine lv_astore_nN (lv' := [(3, .null), (2, .null), (0, .ref bj0), (1, .ref bj1)]) hx hb dX4_areSound_13 rfl hl (by decide) rfl (fun ls hl => ?_)
      refine lv_aload_nN hx hb dX4_areSound_14 rfl (lv_at hl 1 rfl) ?_
      refine lv_ifnullN (tgt := 22) hx hb dX4_areSound_15 (by decide) ?_
      refine lv_aload_nN hx hb dX4_areSound_22 rfl (lv_at hl 1 rfl) ?_
      refine lv_ifnonnullN hx hb dX4_areSound_23 ?_
      refine lv_aload_nN hx hb dX4_areSound_26 rfl (lv_at hl 0 rfl) ?_
      refine lv_ifnonnullN hx hb dX4_areSound_27 ?_
      refine lv_iconst (v := 1) hx hb dX4_areSound_30 (by decide) ?_
      refine lv_goto (tgt := 35) hx hb dX4_areSound_31 (by decide) ?_
      have ev := (show v_X4_areSound tj0 tj1 = 1 from by unfold v_X4_areSound; rw [om_none o1, om_none o2])
      exact rt_i X hr (ad, f) B (PO_of B) ⟨rfl, ev, rfl⟩ rfl (Nat.le_of_ble_eq_true rfl) (Nat.le_of_ble_eq_true rfl) dX4_areSound_35
    | some t2 =>
      obtain ⟨z2, rfl, rfl, rfl⟩ := pw_s hw
      refine lv_astore_n (lv' := [(3, .ref z2), (2, .null), (0, .ref bj0), (1, .ref bj1)]) hx hb dX4_areSound_13 rfl hl (by decide) rfl (fun ls hl => ?_)
      refine lv_aload_nN hx hb dX4_areSound_14 rfl (lv_at hl 1 rfl) ?_
      refine lv_ifnullN (tgt := 22) hx hb dX4_areSound_15 (by decide) ?_
      refine lv_aload_nN hx hb dX4_areSound_22 rfl (lv_at hl 1 rfl) ?_
      refine lv_ifnonnullN hx hb dX4_areSound_23 ?_
      refine lv_aload_n hx hb dX4_areSound_26 rfl (lv_at hl 0 rfl) ?_
      refine lv_ifnonnull (tgt := 34) hx hb dX4_areSound_27 (by decide) ?_
      refine lv_iconst (v := 0) hx hb dX4_areSound_34 (by decide) ?_
      have ev := (show v_X4_areSound tj0 tj1 = 0 from by unfold v_X4_areSound; rw [om_none o1, om_some o2])
      have B : WB g (aw N ad sz) s.heap N ad f H locs := B.drop (by omega) (fun _ hk => (up_lt hk)) (fun _ hk => (up_lt hk))
      exact rt_i X hr (ad, f) B (PO_of B) ⟨rfl, ev, rfl⟩ rfl (Nat.le_of_ble_eq_true rfl) (Nat.le_of_ble_eq_true rfl) dX4_areSound_35
  | some t1 =>
    obtain ⟨z1, rfl, rfl, rfl⟩ := pw_s hw
    refine lv_astore_n (lv' := [(2, .ref z1), (0, .ref bj0), (1, .ref bj1)]) hx hb dX4_areSound_6 rfl hl (by decide) rfl (fun ls hl => ?_)
    refine lv_aload_n hx hb dX4_areSound_7 rfl (lv_at hl 2 rfl) ?_
    refine lv_lconst (v := 1) hx hb dX4_areSound_8 (by decide) ?_
    refine lv_aload_n hx hb dX4_areSound_9 rfl (lv_at hl 1 rfl) ?_
    refine k_r (k := 2) (n := 6) hA B (u_S (rest := []) X (c_X4_sum l g (N + 1) (va_up ad N z1) (va_up f N (c_row g t1)) j1 bj1 tj1 (Nat.lt_succ_of_lt hj1) ((up_lt hj1).trans hbj1) ((up_lt hj1).trans hfj1) 1 j0 bj0 tj0 (Nat.lt_succ_of_lt hj0) ((up_lt hj0).trans hbj0) ((up_lt hj0).trans hfj0) H.size) mw_X4_sum md_X4_sum rfl lk_X4_57 ⟨Nat.le_of_ble_eq_true rfl, Nat.le_of_ble_eq_true rfl⟩ hA hK hT B hl.1 rfl (Nat.le_of_ble_eq_true rfl) dX4_areSound_10 ⟨Nat.le_of_ble_eq_true rfl, Nat.le_of_ble_eq_true rfl⟩) (Nat.le_of_ble_eq_true rfl) (Nat.le_of_ble_eq_true rfl) (fun r ad' f' H locs hw B => ?_)
    generalize o3 : (v_X4_sum tj1 1 tj0) = v9 at hw B
    cases v9 with
    | none =>
      obtain ⟨rfl, rfl, rfl⟩ := pw_n hw
      refine lv_astore_nN (lv' := [(3, .null), (2, .ref z1), (0, .ref bj0), (1, .ref bj1)]) hx hb dX4_areSound_13 rfl hl (by decide) rfl (fun ls hl => ?_)
      refine lv_aload_n hx hb dX4_areSound_14 rfl (lv_at hl 1 rfl) ?_
      refine lv_ifnull hx hb dX4_areSound_15 ?_
      refine lv_aload_nN hx hb dX4_areSound_18 rfl (lv_at hl 0 rfl) ?_
      refine lv_ifnonnullN hx hb dX4_areSound_19 ?_
      refine lv_aload_n hx hb dX4_areSound_22 rfl (lv_at hl 1 rfl) ?_
      refine lv_ifnonnull (tgt := 34) hx hb dX4_areSound_23 (by decide) ?_
      refine lv_iconst (v := 0) hx hb dX4_areSound_34 (by decide) ?_
      have ev := (show v_X4_areSound tj0 tj1 = 0 from by unfold v_X4_areSound; rw [om_some o1, om_none o3])
      have B : WB g (aw N ad sz) s.heap N ad f H locs := B.drop (by omega) (fun _ hk => (up_lt hk)) (fun _ hk => (up_lt hk))
      exact rt_i X hr (ad, f) B (PO_of B) ⟨rfl, ev, rfl⟩ rfl (Nat.le_of_ble_eq_true rfl) (Nat.le_of_ble_eq_true rfl) dX4_areSound_35
    | some t3 =>
      obtain ⟨z3, rfl, rfl, rfl⟩ := pw_s hw
      refine lv_astore_n (lv' := [(3, .ref z3), (2, .ref z1), (0, .ref bj0), (1, .ref bj1)]) hx hb dX4_areSound_13 rfl hl (by decide) rfl (fun ls hl => ?_)
      refine lv_aload_n hx hb dX4_areSound_14 rfl (lv_at hl 1 rfl) ?_
      refine lv_ifnull hx hb dX4_areSound_15 ?_
      refine lv_aload_n hx hb dX4_areSound_18 rfl (lv_at hl 0 rfl) ?_
      refine lv_ifnonnull (tgt := 36) hx hb dX4_areSound_19 (by decide) ?_
      refine lv_aload_n hx hb dX4_areSound_36 rfl (lv_at hl 1 rfl) ?_
      refine lv_aload_n hx hb dX4_areSound_37 rfl (lv_at hl 0 rfl) ?_
      refine k_i (k := 2) (n := 6) hA B (u_S (rest := []) X (c_X4_isSame l g (N + 1 + 1) (va_up (va_up ad N z1) (N + 1) z3) (va_up (va_up f N (c_row g t1)) (N + 1) (c_row g t3)) N z1 t1 (Nat.lt_succ_of_lt (Nat.lt_succ_self _)) ((up_lt (Nat.lt_succ_self _)).trans up_eq) ((up_lt (Nat.lt_succ_self _)).trans up_eq) (N + 1) z3 t3 (Nat.lt_succ_self _) up_eq up_eq H.size) mw_X4_isSame md_X4_isSame rfl lk_X4_87 ⟨Nat.le_of_ble_eq_true rfl, Nat.le_of_ble_eq_true rfl⟩ hA hK hT B hl.1 rfl (Nat.le_of_ble_eq_true rfl) dX4_areSound_38 ⟨Nat.le_of_ble_eq_true rfl, Nat.le_of_ble_eq_true rfl⟩) (Nat.le_of_ble_eq_true rfl) (Nat.le_of_ble_eq_true rfl) (fun r ad' f' H locs hw B => ?_)
      obtain ⟨rfl, rfl, rfl⟩ := hw
      refine lv_if_eq (tgt := 63) hx hb dX4_areSound_41 (by decide) (fun c4 => ?_) (fun c4 => ?_)
      · refine lv_iconst (v := 0) hx hb dX4_areSound_63 (by decide) ?_
        refine lv_istore (lv' := [(4, .int 0), (3, .ref z3), (2, .ref z1), (0, .ref bj0), (1, .ref bj1)]) hx hb dX4_areSound_64 hl (by decide) rfl (fun ls hl => ?_)
        refine lv_iload hx hb dX4_areSound_66 (lv_at hl 0 rfl) ?_
        refine lv_if_eq (tgt := 108) hx hb dX4_areSound_68 (by decide) (fun _ => ?_) (fun z => absurd z (by decide))
        refine lv_iconst (v := 0) hx hb dX4_areSound_108 (by decide) ?_
        have ev := (show v_X4_areSound tj0 tj1 = 0 from by unfold v_X4_areSound; rw [om_some o1, om_some o3, if_pos c4])
        have B : WB g (aw N ad sz) s.heap N ad f H locs := B.drop (by omega) (fun _ hk => ((up_lt (Nat.lt_succ_of_lt hk)).trans (up_lt hk))) (fun _ hk => ((up_lt (Nat.lt_succ_of_lt hk)).trans (up_lt hk)))
        exact rt_i X hr (ad, f) B (PO_of B) ⟨rfl, ev, rfl⟩ rfl (Nat.le_of_ble_eq_true rfl) (Nat.le_of_ble_eq_true rfl) dX4_areSound_109
      · refine lv_aload_n hx hb dX4_areSound_44 rfl (lv_at hl 1 rfl) ?_
        refine lv_ldc2 hx hb hown (hts _ (List.mem_cons_of_mem _ lk_X4_55)) dX4_areSound_45 ?_
        refine lv_aload_n hx hb dX4_areSound_48 rfl (lv_at hl 3 rfl) ?_
        refine k_r (k := 3) (n := 9) hA B (u_S (rest := []) X (c_X4_sum l g (N + 1 + 1) (va_up (va_up ad N z1) (N + 1) z3) (va_up (va_up f N (c_row g t1)) (N + 1) (c_row g t3)) N z1 t1 (Nat.lt_succ_of_lt (Nat.lt_succ_self _)) ((up_lt (Nat.lt_succ_self _)).trans up_eq) ((up_lt (Nat.lt_succ_self _)).trans up_eq) (-1) j1 bj1 tj1 (Nat.lt_succ_of_lt (Nat.lt_succ_of_lt hj1)) ((up_lt (Nat.lt_succ_of_lt hj1)).trans ((up_lt hj1).trans hbj1)) ((up_lt (Nat.lt_succ_of_lt hj1)).trans ((up_lt hj1).trans hfj1)) H.size) mw_X4_sum md_X4_sum rfl lk_X4_57 ⟨Nat.le_of_ble_eq_true rfl, Nat.le_of_ble_eq_true rfl⟩ hA hK hT B hl.1 rfl (Nat.le_of_ble_eq_true rfl) dX4_areSound_49 ⟨Nat.le_of_ble_eq_true rfl, Nat.le_of_ble_eq_true rfl⟩) (Nat.le_of_ble_eq_true rfl) (Nat.le_of_ble_eq_true rfl) (fun r ad' f' H locs hw B => ?_)
        rw [(sum_back o1)] at hw B
        obtain ⟨z5, rfl, rfl, rfl⟩ := pw_s hw
        refine lv_aload_n hx hb dX4_areSound_52 rfl (lv_at hl 2 rfl) ?_
        refine k_i (k := 3) (n := 9) hA B (u_S (rest := []) X (c_X4_isSame l g (N + 1 + 1 + 1) (va_up (va_up (va_up ad N z1) (N + 1) z3) (N + 1 + 1) z5) (va_up (va_up (va_up f N (c_row g t1)) (N + 1) (c_row g t3)) (N + 1 + 1) (c_row g tj0)) (N + 1 + 1) z5 tj0 (Nat.lt_succ_self _) up_eq up_eq j0 bj0 tj0 (Nat.lt_succ_of_lt (Nat.lt_succ_of_lt (Nat.lt_succ_of_lt hj0))) ((up_lt (Nat.lt_succ_of_lt (Nat.lt_succ_of_lt hj0))).trans ((up_lt (Nat.lt_succ_of_lt hj0)).trans ((up_lt hj0).trans hbj0))) ((up_lt (Nat.lt_succ_of_lt (Nat.lt_succ_of_lt hj0))).trans ((up_lt (Nat.lt_succ_of_lt hj0)).trans ((up_lt hj0).trans hfj0))) H.size) mw_X4_isSame md_X4_isSame rfl lk_X4_87 ⟨Nat.le_of_ble_eq_true rfl, Nat.le_of_ble_eq_true rfl⟩ hA hK hT B hl.1 rfl (Nat.le_of_ble_eq_true rfl) dX4_areSound_53 ⟨Nat.le_of_ble_eq_true rfl, Nat.le_of_ble_eq_true rfl⟩) (Nat.le_of_ble_eq_true rfl) (Nat.le_of_ble_eq_true rfl) (fun r ad' f' H locs hw B => ?_)
        obtain ⟨rfl, rfl, rfl⟩ := hw
        refine lv_if_eq (tgt := 63) hx hb dX4_areSound_56 (by decide) (fun c6 => ?_) (fun c6 => ?_)
        · refine lv_iconst (v := 0) hx hb dX4_areSound_63 (by decide) ?_
          refine lv_istore (lv' := [(4, .int 0), (3, .ref z3), (2, .ref z1), (0, .ref bj0), (1, .ref bj1)]) hx hb dX4_areSound_64 hl (by decide) rfl (fun ls hl => ?_)
          refine lv_iload hx hb dX4_areSound_66 (lv_at hl 0 rfl) ?_
          refine lv_if_eq (tgt := 108) hx hb dX4_areSound_68 (by decide) (fun _ => ?_) (fun z => absurd z (by decide))
          refine lv_iconst (v := 0) hx hb dX4_areSound_108 (by decide) ?_
          have ev := (show v_X4_areSound tj0 tj1 = 0 from by unfold v_X4_areSound; rw [om_some o1, om_some o3, if_neg c4, if_pos c6])
          have B : WB g (aw N ad sz) s.heap N ad f H locs := B.drop (by omega) (fun _ hk => ((up_lt (Nat.lt_succ_of_lt (Nat.lt_succ_of_lt hk))).trans ((up_lt (Nat.lt_succ_of_lt hk)).trans (up_lt hk)))) (fun _ hk => ((up_lt (Nat.lt_succ_of_lt (Nat.lt_succ_of_lt hk))).trans ((up_lt (Nat.lt_succ_of_lt hk)).trans (up_lt hk))))
          exact rt_i X hr (ad, f) B (PO_of B) ⟨rfl, ev, rfl⟩ rfl (Nat.le_of_ble_eq_true rfl) (Nat.le_of_ble_eq_true rfl) dX4_areSound_109
        · refine lv_iconst (v := 1) hx hb dX4_areSound_59 (by decide) ?_
          refine lv_goto (tgt := 64) hx hb dX4_areSound_60 (by decide) ?_
          refine lv_istore (lv' := [(4, .int 1), (3, .ref z3), (2, .ref z1), (0, .ref bj0), (1, .ref bj1)]) hx hb dX4_areSound_64 hl (by decide) rfl (fun ls hl => ?_)
          refine lv_iload hx hb dX4_areSound_66 (lv_at hl 0 rfl) ?_
          refine lv_if_eq (tgt := 108) hx hb dX4_areSound_68 (by decide) (fun z => absurd z (by decide)) (fun _ => ?_)
          refine lv_aload_n hx hb dX4_areSound_71 rfl (lv_at hl 3 rfl) ?_
          refine k_r (k := 5) (n := 15) hA B (u_S (rest := []) X (c_X4_opposed l g (N + 1 + 1 + 1) (va_up (va_up (va_up ad N z1) (N + 1) z3) (N + 1 + 1) z5) (va_up (va_up (va_up f N (c_row g t1)) (N + 1) (c_row g t3)) (N + 1 + 1) (c_row g tj0)) j0 bj0 tj0 (Nat.lt_succ_of_lt (Nat.lt_succ_of_lt (Nat.lt_succ_of_lt hj0))) ((up_lt (Nat.lt_succ_of_lt (Nat.lt_succ_of_lt hj0))).trans ((up_lt (Nat.lt_succ_of_lt hj0)).trans ((up_lt hj0).trans hbj0))) ((up_lt (Nat.lt_succ_of_lt (Nat.lt_succ_of_lt hj0))).trans ((up_lt (Nat.lt_succ_of_lt hj0)).trans ((up_lt hj0).trans hfj0))) H.size) mw_X4_opposed md_X4_opposed rfl lk_X4_121 ⟨Nat.le_of_ble_eq_true rfl, Nat.le_of_ble_eq_true rfl⟩ hA hK hT B hl.1 rfl (Nat.le_of_ble_eq_true rfl) dX4_areSound_72 ⟨Nat.le_of_ble_eq_true rfl, Nat.le_of_ble_eq_true rfl⟩) (Nat.le_of_ble_eq_true rfl) (Nat.le_of_ble_eq_true rfl) (fun r ad' f' H locs hw B => ?_)
          generalize o7 : (v_X4_opposed tj0) = v9 at hw B
          cases v9 with
          | none =>
            obtain ⟨rfl, rfl, rfl⟩ := pw_n hw
            refine lv_ifnullN (tgt := 104) hx hb dX4_areSound_75 (by decide) ?_
            refine lv_iconst (v := 1) hx hb dX4_areSound_104 (by decide) ?_
            refine lv_goto (tgt := 109) hx hb dX4_areSound_105 (by decide) ?_
            have ev := (show v_X4_areSound tj0 tj1 = 1 from by unfold v_X4_areSound; rw [om_some o1, om_some o3, if_neg c4, if_neg c6, om_none o7])
            have B : WB g (aw N ad sz) s.heap N ad f H locs := B.drop (by omega) (fun _ hk => ((up_lt (Nat.lt_succ_of_lt (Nat.lt_succ_of_lt hk))).trans ((up_lt (Nat.lt_succ_of_lt hk)).trans (up_lt hk)))) (fun _ hk => ((up_lt (Nat.lt_succ_of_lt (Nat.lt_succ_of_lt hk))).trans ((up_lt (Nat.lt_succ_of_lt hk)).trans (up_lt hk))))
            exact rt_i X hr (ad, f) B (PO_of B) ⟨rfl, ev, rfl⟩ rfl (Nat.le_of_ble_eq_true rfl) (Nat.le_of_ble_eq_true rfl) dX4_areSound_109
          | some t7 =>
            obtain ⟨z7, rfl, rfl, rfl⟩ := pw_s hw
            refine lv_ifnull hx hb dX4_areSound_75 ?_
            refine lv_aload_n hx hb dX4_areSound_78 rfl (lv_at hl 4 rfl) ?_
            refine k_r (k := 7) (n := 21) hA B (u_S (rest := []) X (c_X4_opposed l g (N + 1 + 1 + 1 + 1) (va_up (va_up (va_up (va_up ad N z1) (N + 1) z3) (N + 1 + 1) z5) (N + 1 + 1 + 1) z7) (va_up (va_up (va_up (va_up f N (c_row g t1)) (N + 1) (c_row g t3)) (N + 1 + 1) (c_row g tj0)) (N + 1 + 1 + 1) (c_row g t7)) j1 bj1 tj1 (Nat.lt_succ_of_lt (Nat.lt_succ_of_lt (Nat.lt_succ_of_lt (Nat.lt_succ_of_lt hj1)))) ((up_lt (Nat.lt_succ_of_lt (Nat.lt_succ_of_lt (Nat.lt_succ_of_lt hj1)))).trans ((up_lt (Nat.lt_succ_of_lt (Nat.lt_succ_of_lt hj1))).trans ((up_lt (Nat.lt_succ_of_lt hj1)).trans ((up_lt hj1).trans hbj1)))) ((up_lt (Nat.lt_succ_of_lt (Nat.lt_succ_of_lt (Nat.lt_succ_of_lt hj1)))).trans ((up_lt (Nat.lt_succ_of_lt (Nat.lt_succ_of_lt hj1))).trans ((up_lt (Nat.lt_succ_of_lt hj1)).trans ((up_lt hj1).trans hfj1)))) H.size) mw_X4_opposed md_X4_opposed rfl lk_X4_121 ⟨Nat.le_of_ble_eq_true rfl, Nat.le_of_ble_eq_true rfl⟩ hA hK hT B hl.1 rfl (Nat.le_of_ble_eq_true rfl) dX4_areSound_79 ⟨Nat.le_of_ble_eq_true rfl, Nat.le_of_ble_eq_true rfl⟩) (Nat.le_of_ble_eq_true rfl) (Nat.le_of_ble_eq_true rfl) (fun r ad' f' H locs hw B => ?_)
            generalize o8 : (v_X4_opposed tj1) = v9 at hw B
            cases v9 with
            | none =>
              obtain ⟨rfl, rfl, rfl⟩ := pw_n hw
              refine lv_ifnullN (tgt := 104) hx hb dX4_areSound_82 (by decide) ?_
              refine lv_iconst (v := 1) hx hb dX4_areSound_104 (by decide) ?_
              refine lv_goto (tgt := 109) hx hb dX4_areSound_105 (by decide) ?_
              have ev := (show v_X4_areSound tj0 tj1 = 1 from by unfold v_X4_areSound; rw [om_some o1, om_some o3, if_neg c4, if_neg c6, om_some o7, om_none o8])
              have B : WB g (aw N ad sz) s.heap N ad f H locs := B.drop (by omega) (fun _ hk => ((up_lt (Nat.lt_succ_of_lt (Nat.lt_succ_of_lt (Nat.lt_succ_of_lt hk)))).trans ((up_lt (Nat.lt_succ_of_lt (Nat.lt_succ_of_lt hk))).trans ((up_lt (Nat.lt_succ_of_lt hk)).trans (up_lt hk))))) (fun _ hk => ((up_lt (Nat.lt_succ_of_lt (Nat.lt_succ_of_lt (Nat.lt_succ_of_lt hk)))).trans ((up_lt (Nat.lt_succ_of_lt (Nat.lt_succ_of_lt hk))).trans ((up_lt (Nat.lt_succ_of_lt hk)).trans (up_lt hk)))))
              exact rt_i X hr (ad, f) B (PO_of B) ⟨rfl, ev, rfl⟩ rfl (Nat.le_of_ble_eq_true rfl) (Nat.le_of_ble_eq_true rfl) dX4_areSound_109
            | some t8 =>
              obtain ⟨z8, rfl, rfl, rfl⟩ := pw_s hw
              refine lv_ifnull hx hb dX4_areSound_82 ?_
              refine lv_aload_n hx hb dX4_areSound_85 rfl (lv_at hl 3 rfl) ?_
              refine lv_aload_n hx hb dX4_areSound_86 rfl (lv_at hl 4 rfl) ?_
              refine k_i (k := 7) (n := 21) hA B (u_S (rest := []) X (c_X4_isAlike l g (N + 1 + 1 + 1 + 1 + 1) (va_up (va_up (va_up (va_up (va_up ad N z1) (N + 1) z3) (N + 1 + 1) z5) (N + 1 + 1 + 1) z7) (N + 1 + 1 + 1 + 1) z8) (va_up (va_up (va_up (va_up (va_up f N (c_row g t1)) (N + 1) (c_row g t3)) (N + 1 + 1) (c_row g tj0)) (N + 1 + 1 + 1) (c_row g t7)) (N + 1 + 1 + 1 + 1) (c_row g t8)) j0 bj0 tj0 (Nat.lt_succ_of_lt (Nat.lt_succ_of_lt (Nat.lt_succ_of_lt (Nat.lt_succ_of_lt (Nat.lt_succ_of_lt hj0))))) ((up_lt (Nat.lt_succ_of_lt (Nat.lt_succ_of_lt (Nat.lt_succ_of_lt (Nat.lt_succ_of_lt hj0))))).trans ((up_lt (Nat.lt_succ_of_lt (Nat.lt_succ_of_lt (Nat.lt_succ_of_lt hj0)))).trans ((up_lt (Nat.lt_succ_of_lt (Nat.lt_succ_of_lt hj0))).trans ((up_lt (Nat.lt_succ_of_lt hj0)).trans ((up_lt hj0).trans hbj0))))) ((up_lt (Nat.lt_succ_of_lt (Nat.lt_succ_of_lt (Nat.lt_succ_of_lt (Nat.lt_succ_of_lt hj0))))).trans ((up_lt (Nat.lt_succ_of_lt (Nat.lt_succ_of_lt (Nat.lt_succ_of_lt hj0)))).trans ((up_lt (Nat.lt_succ_of_lt (Nat.lt_succ_of_lt hj0))).trans ((up_lt (Nat.lt_succ_of_lt hj0)).trans ((up_lt hj0).trans hfj0))))) j1 bj1 tj1 (Nat.lt_succ_of_lt (Nat.lt_succ_of_lt (Nat.lt_succ_of_lt (Nat.lt_succ_of_lt (Nat.lt_succ_of_lt hj1))))) ((up_lt (Nat.lt_succ_of_lt (Nat.lt_succ_of_lt (Nat.lt_succ_of_lt (Nat.lt_succ_of_lt hj1))))).trans ((up_lt (Nat.lt_succ_of_lt (Nat.lt_succ_of_lt (Nat.lt_succ_of_lt hj1)))).trans ((up_lt (Nat.lt_succ_of_lt (Nat.lt_succ_of_lt hj1))).trans ((up_lt (Nat.lt_succ_of_lt hj1)).trans ((up_lt hj1).trans hbj1))))) ((up_lt (Nat.lt_succ_of_lt (Nat.lt_succ_of_lt (Nat.lt_succ_of_lt (Nat.lt_succ_of_lt hj1))))).trans ((up_lt (Nat.lt_succ_of_lt (Nat.lt_succ_of_lt (Nat.lt_succ_of_lt hj1)))).trans ((up_lt (Nat.lt_succ_of_lt (Nat.lt_succ_of_lt hj1))).trans ((up_lt (Nat.lt_succ_of_lt hj1)).trans ((up_lt hj1).trans hfj1))))) H.size) mw_X4_isAlike md_X4_isAlike rfl lk_X4_162 ⟨Nat.le_of_ble_eq_true rfl, Nat.le_of_ble_eq_true rfl⟩ hA hK hT B hl.1 rfl (Nat.le_of_ble_eq_true rfl) dX4_areSound_87 ⟨Nat.le_of_ble_eq_true rfl, Nat.le_of_ble_eq_true rfl⟩) (Nat.le_of_ble_eq_true rfl) (Nat.le_of_ble_eq_true rfl) (fun r ad' f' H locs hw B => ?_)
              obtain ⟨rfl, rfl, rfl⟩ := hw
              refine lv_aload_n hx hb dX4_areSound_90 rfl (lv_at hl 3 rfl) ?_
              refine k_r (k := 9) (n := 27) hA B (u_S (rest := [.int (v_X4_isAlike tj0 tj1)]) X (c_X4_opposed l g (N + 1 + 1 + 1 + 1 + 1) (va_up (va_up (va_up (va_up (va_up ad N z1) (N + 1) z3) (N + 1 + 1) z5) (N + 1 + 1 + 1) z7) (N + 1 + 1 + 1 + 1) z8) (va_up (va_up (va_up (va_up (va_up f N (c_row g t1)) (N + 1) (c_row g t3)) (N + 1 + 1) (c_row g tj0)) (N + 1 + 1 + 1) (c_row g t7)) (N + 1 + 1 + 1 + 1) (c_row g t8)) j0 bj0 tj0 (Nat.lt_succ_of_lt (Nat.lt_succ_of_lt (Nat.lt_succ_of_lt (Nat.lt_succ_of_lt (Nat.lt_succ_of_lt hj0))))) ((up_lt (Nat.lt_succ_of_lt (Nat.lt_succ_of_lt (Nat.lt_succ_of_lt (Nat.lt_succ_of_lt hj0))))).trans ((up_lt (Nat.lt_succ_of_lt (Nat.lt_succ_of_lt (Nat.lt_succ_of_lt hj0)))).trans ((up_lt (Nat.lt_succ_of_lt (Nat.lt_succ_of_lt hj0))).trans ((up_lt (Nat.lt_succ_of_lt hj0)).trans ((up_lt hj0).trans hbj0))))) ((up_lt (Nat.lt_succ_of_lt (Nat.lt_succ_of_lt (Nat.lt_succ_of_lt (Nat.lt_succ_of_lt hj0))))).trans ((up_lt (Nat.lt_succ_of_lt (Nat.lt_succ_of_lt (Nat.lt_succ_of_lt hj0)))).trans ((up_lt (Nat.lt_succ_of_lt (Nat.lt_succ_of_lt hj0))).trans ((up_lt (Nat.lt_succ_of_lt hj0)).trans ((up_lt hj0).trans hfj0))))) H.size) mw_X4_opposed md_X4_opposed rfl lk_X4_121 ⟨Nat.le_of_ble_eq_true rfl, Nat.le_of_ble_eq_true rfl⟩ hA hK hT B hl.1 rfl (Nat.le_of_ble_eq_true rfl) dX4_areSound_91 ⟨Nat.le_of_ble_eq_true rfl, Nat.le_of_ble_eq_true rfl⟩) (Nat.le_of_ble_eq_true rfl) (Nat.le_of_ble_eq_true rfl) (fun r ad' f' H locs hw B => ?_)
              rw [o7] at hw B
              obtain ⟨z9, rfl, rfl, rfl⟩ := pw_s hw
              refine lv_aload_n hx hb dX4_areSound_94 rfl (lv_at hl 4 rfl) ?_
              refine k_r (k := 11) (n := 33) hA B (u_S (rest := [.ref z9, .int (v_X4_isAlike tj0 tj1)]) X (c_X4_opposed l g (N + 1 + 1 + 1 + 1 + 1 + 1) (va_up (va_up (va_up (va_up (va_up (va_up ad N z1) (N + 1) z3) (N + 1 + 1) z5) (N + 1 + 1 + 1) z7) (N + 1 + 1 + 1 + 1) z8) (N + 1 + 1 + 1 + 1 + 1) z9) (va_up (va_up (va_up (va_up (va_up (va_up f N (c_row g t1)) (N + 1) (c_row g t3)) (N + 1 + 1) (c_row g tj0)) (N + 1 + 1 + 1) (c_row g t7)) (N + 1 + 1 + 1 + 1) (c_row g t8)) (N + 1 + 1 + 1 + 1 + 1) (c_row g t7)) j1 bj1 tj1 (Nat.lt_succ_of_lt (Nat.lt_succ_of_lt (Nat.lt_succ_of_lt (Nat.lt_succ_of_lt (Nat.lt_succ_of_lt (Nat.lt_succ_of_lt hj1)))))) ((up_lt (Nat.lt_succ_of_lt (Nat.lt_succ_of_lt (Nat.lt_succ_of_lt (Nat.lt_succ_of_lt (Nat.lt_succ_of_lt hj1)))))).trans ((up_lt (Nat.lt_succ_of_lt (Nat.lt_succ_of_lt (Nat.lt_succ_of_lt (Nat.lt_succ_of_lt hj1))))).trans ((up_lt (Nat.lt_succ_of_lt (Nat.lt_succ_of_lt (Nat.lt_succ_of_lt hj1)))).trans ((up_lt (Nat.lt_succ_of_lt (Nat.lt_succ_of_lt hj1))).trans ((up_lt (Nat.lt_succ_of_lt hj1)).trans ((up_lt hj1).trans hbj1)))))) ((up_lt (Nat.lt_succ_of_lt (Nat.lt_succ_of_lt (Nat.lt_succ_of_lt (Nat.lt_succ_of_lt (Nat.lt_succ_of_lt hj1)))))).trans ((up_lt (Nat.lt_succ_of_lt (Nat.lt_succ_of_lt (Nat.lt_succ_of_lt (Nat.lt_succ_of_lt hj1))))).trans ((up_lt (Nat.lt_succ_of_lt (Nat.lt_succ_of_lt (Nat.lt_succ_of_lt hj1)))).trans ((up_lt (Nat.lt_succ_of_lt (Nat.lt_succ_of_lt hj1))).trans ((up_lt (Nat.lt_succ_of_lt hj1)).trans ((up_lt hj1).trans hfj1)))))) H.size) mw_X4_opposed md_X4_opposed rfl lk_X4_121 ⟨Nat.le_of_ble_eq_true rfl, Nat.le_of_ble_eq_true rfl⟩ hA hK hT B hl.1 rfl (Nat.le_of_ble_eq_true rfl) dX4_areSound_95 ⟨Nat.le_of_ble_eq_true rfl, Nat.le_of_ble_eq_true rfl⟩) (Nat.le_of_ble_eq_true rfl) (Nat.le_of_ble_eq_true rfl) (fun r ad' f' H locs hw B => ?_)
              rw [o8] at hw B
              obtain ⟨z10, rfl, rfl, rfl⟩ := pw_s hw
              refine k_i (k := 11) (n := 33) hA B (u_S (rest := [.int (v_X4_isAlike tj0 tj1)]) X (c_X4_isAlike l g (N + 1 + 1 + 1 + 1 + 1 + 1 + 1) (va_up (va_up (va_up (va_up (va_up (va_up (va_up ad N z1) (N + 1) z3) (N + 1 + 1) z5) (N + 1 + 1 + 1) z7) (N + 1 + 1 + 1 + 1) z8) (N + 1 + 1 + 1 + 1 + 1) z9) (N + 1 + 1 + 1 + 1 + 1 + 1) z10) (va_up (va_up (va_up (va_up (va_up (va_up (va_up f N (c_row g t1)) (N + 1) (c_row g t3)) (N + 1 + 1) (c_row g tj0)) (N + 1 + 1 + 1) (c_row g t7)) (N + 1 + 1 + 1 + 1) (c_row g t8)) (N + 1 + 1 + 1 + 1 + 1) (c_row g t7)) (N + 1 + 1 + 1 + 1 + 1 + 1) (c_row g t8)) (N + 1 + 1 + 1 + 1 + 1) z9 t7 (Nat.lt_succ_of_lt (Nat.lt_succ_self _)) ((up_lt (Nat.lt_succ_self _)).trans up_eq) ((up_lt (Nat.lt_succ_self _)).trans up_eq) (N + 1 + 1 + 1 + 1 + 1 + 1) z10 t8 (Nat.lt_succ_self _) up_eq up_eq H.size) mw_X4_isAlike md_X4_isAlike rfl lk_X4_162 ⟨Nat.le_of_ble_eq_true rfl, Nat.le_of_ble_eq_true rfl⟩ hA hK hT B hl.1 rfl (Nat.le_of_ble_eq_true rfl) dX4_areSound_98 ⟨Nat.le_of_ble_eq_true rfl, Nat.le_of_ble_eq_true rfl⟩) (Nat.le_of_ble_eq_true rfl) (Nat.le_of_ble_eq_true rfl) (fun r ad' f' H locs hw B => ?_)
              obtain ⟨rfl, rfl, rfl⟩ := hw
              refine lv_icmp_ne (tgt := 108) hx hb dX4_areSound_101 (by decide) (fun c11 => ?_) (fun c11 => ?_)
              · refine lv_iconst (v := 0) hx hb dX4_areSound_108 (by decide) ?_
                have ev := (show v_X4_areSound tj0 tj1 = 0 from by unfold v_X4_areSound; rw [om_some o1, om_some o3, if_neg c4, if_neg c6, om_some o7, om_some o8, if_neg c11])
                have B : WB g (aw N ad sz) s.heap N ad f H locs := B.drop (by omega) (fun _ hk => ((up_lt (Nat.lt_succ_of_lt (Nat.lt_succ_of_lt (Nat.lt_succ_of_lt (Nat.lt_succ_of_lt (Nat.lt_succ_of_lt (Nat.lt_succ_of_lt hk))))))).trans ((up_lt (Nat.lt_succ_of_lt (Nat.lt_succ_of_lt (Nat.lt_succ_of_lt (Nat.lt_succ_of_lt (Nat.lt_succ_of_lt hk)))))).trans ((up_lt (Nat.lt_succ_of_lt (Nat.lt_succ_of_lt (Nat.lt_succ_of_lt (Nat.lt_succ_of_lt hk))))).trans ((up_lt (Nat.lt_succ_of_lt (Nat.lt_succ_of_lt (Nat.lt_succ_of_lt hk)))).trans ((up_lt (Nat.lt_succ_of_lt (Nat.lt_succ_of_lt hk))).trans ((up_lt (Nat.lt_succ_of_lt hk)).trans (up_lt hk)))))))) (fun _ hk => ((up_lt (Nat.lt_succ_of_lt (Nat.lt_succ_of_lt (Nat.lt_succ_of_lt (Nat.lt_succ_of_lt (Nat.lt_succ_of_lt (Nat.lt_succ_of_lt hk))))))).trans ((up_lt (Nat.lt_succ_of_lt (Nat.lt_succ_of_lt (Nat.lt_succ_of_lt (Nat.lt_succ_of_lt (Nat.lt_succ_of_lt hk)))))).trans ((up_lt (Nat.lt_succ_of_lt (Nat.lt_succ_of_lt (Nat.lt_succ_of_lt (Nat.lt_succ_of_lt hk))))).trans ((up_lt (Nat.lt_succ_of_lt (Nat.lt_succ_of_lt (Nat.lt_succ_of_lt hk)))).trans ((up_lt (Nat.lt_succ_of_lt (Nat.lt_succ_of_lt hk))).trans ((up_lt (Nat.lt_succ_of_lt hk)).trans (up_lt hk))))))))
                exact rt_i X hr (ad, f) B (PO_of B) ⟨rfl, ev, rfl⟩ rfl (Nat.le_of_ble_eq_true rfl) (Nat.le_of_ble_eq_true rfl) dX4_areSound_109
              · refine lv_iconst (v := 1) hx hb dX4_areSound_104 (by decide) ?_
                refine lv_goto (tgt := 109) hx hb dX4_areSound_105 (by decide) ?_
                have ev := (show v_X4_areSound tj0 tj1 = 1 from by unfold v_X4_areSound; rw [om_some o1, om_some o3, if_neg c4, if_neg c6, om_some o7, om_some o8, if_pos c11])
                have B : WB g (aw N ad sz) s.heap N ad f H locs := B.drop (by omega) (fun _ hk => ((up_lt (Nat.lt_succ_of_lt (Nat.lt_succ_of_lt (Nat.lt_succ_of_lt (Nat.lt_succ_of_lt (Nat.lt_succ_of_lt (Nat.lt_succ_of_lt hk))))))).trans ((up_lt (Nat.lt_succ_of_lt (Nat.lt_succ_of_lt (Nat.lt_succ_of_lt (Nat.lt_succ_of_lt (Nat.lt_succ_of_lt hk)))))).trans ((up_lt (Nat.lt_succ_of_lt (Nat.lt_succ_of_lt (Nat.lt_succ_of_lt (Nat.lt_succ_of_lt hk))))).trans ((up_lt (Nat.lt_succ_of_lt (Nat.lt_succ_of_lt (Nat.lt_succ_of_lt hk)))).trans ((up_lt (Nat.lt_succ_of_lt (Nat.lt_succ_of_lt hk))).trans ((up_lt (Nat.lt_succ_of_lt hk)).trans (up_lt hk)))))))) (fun _ hk => ((up_lt (Nat.lt_succ_of_lt (Nat.lt_succ_of_lt (Nat.lt_succ_of_lt (Nat.lt_succ_of_lt (Nat.lt_succ_of_lt (Nat.lt_succ_of_lt hk))))))).trans ((up_lt (Nat.lt_succ_of_lt (Nat.lt_succ_of_lt (Nat.lt_succ_of_lt (Nat.lt_succ_of_lt (Nat.lt_succ_of_lt hk)))))).trans ((up_lt (Nat.lt_succ_of_lt (Nat.lt_succ_of_lt (Nat.lt_succ_of_lt (Nat.lt_succ_of_lt hk))))).trans ((up_lt (Nat.lt_succ_of_lt (Nat.lt_succ_of_lt (Nat.lt_succ_of_lt hk)))).trans ((up_lt (Nat.lt_succ_of_lt (Nat.lt_succ_of_lt hk))).trans ((up_lt (Nat.lt_succ_of_lt hk)).trans (up_lt hk))))))))
                exact rt_i X hr (ad, f) B (PO_of B) ⟨rfl, ev, rfl⟩ rfl (Nat.le_of_ble_eq_true rfl) (Nat.le_of_ble_eq_true rfl) dX4_areSound_109
