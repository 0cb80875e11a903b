def wJ6_stringSize_0f7a4_16 : Nat → Int32 → Int32 → Int32 → Int32 → Int32
  | 0, xx, dd, pp, ii => 0
  | n + 1, xx, dd, pp, ii => if 10 ≤ ii then (10 + dd) else (if xx ≤ pp then (wJ6_stringSize_0f7a4_16 n xx dd (10 * pp) (ii + 1)) else (ii + dd))
def v_J6_stringSize_0f7a4 (a0 : Int32) : Int32 := if a0 < 0 then (wJ6_stringSize_0f7a4_16 (9 + 1) a0 1 (-10) 1) else (wJ6_stringSize_0f7a4_16 (9 + 1) (-a0) 0 (-10) 1)
set_option maxHeartbeats 4000000 in
set_option maxRecDepth 100000 in
theorem c_J6_stringSize_0f7a4 (l : Launch) (g : GG) (N : Nat) (ad : Nat → Nat) (f : Nat → va_E) (a0 : Int32) : KI l yJ6_stringSize_0f7a4 cJ6_stringSize_0f7a4 4 (some .int) (rm 0 0 0) g [.int a0] N ad f N (fun r ad' f' => ad = ad' ∧ (v_J6_stringSize_0f7a4 a0) = r ∧ f = f') := by
  intro sz
  refine mt_start (by decide) (Nat.le_of_ble_eq_true rfl) ?_
  intro p e s m args below meth c hsz X hr hnam hA hK hT H locs B ls hl
  obtain ⟨hx, hb, hml, hown, hts, hlocks⟩ := id X
  have hl : lv_has ls 4 [(0, .int a0)] := hl
  refine lv_iconst (v := 1) hx hb dJ6_stringSize_0f7a4_0 (by decide) ?_
  refine lv_istore_n (lv' := [(1, .int 1), (0, .int a0)]) hx hb dJ6_stringSize_0f7a4_1 rfl hl (by decide) rfl (fun ls hl => ?_)
  refine lv_iload_n hx hb dJ6_stringSize_0f7a4_2 rfl (lv_at hl 1 rfl) ?_
  refine lv_if_lt (tgt := 11) hx hb dJ6_stringSize_0f7a4_3 (by decide) (fun c1 => ?_) (fun c1 => ?_)
  · refine lv_bipush (v := (-10)) hx hb dJ6_stringSize_0f7a4_11 (by decide) ?_
    refine lv_istore_n (lv' := [(2, .int (-10)), (1, .int 1), (0, .int a0)]) hx hb dJ6_stringSize_0f7a4_13 rfl hl (by decide) rfl (fun ls hl => ?_)
    refine lv_iconst (v := 1) hx hb dJ6_stringSize_0f7a4_14 (by decide) ?_
    refine lv_istore_n (lv' := [(3, .int 1), (2, .int (-10)), (1, .int 1), (0, .int a0)]) hx hb dJ6_stringSize_0f7a4_15 rfl hl (by decide) rfl (fun ls hl => ?_)
    have hl : lv_has ls 4 [(0, .int a0), (1, .int 1), (2, .int (-10)), (3, .int 1)] := lv_sub hl [3, 2, 1, 0] rfl
    have loop2 : ∀ (n2 : Nat) (xx : Int32) (dd : Int32) (pp : Int32) (ii : Int32) (H : Heap) (locs : List Loc), ((10 : Int32).toInt - ii.toInt).toNat < n2 → v_J6_stringSize_0f7a4 a0 = wJ6_stringSize_0f7a4_16 n2 xx dd pp ii → WB g (aw N ad sz) s.heap N ad f H locs → ∀ ls : Array Slot, lv_has ls 4 [(0, .int xx), (1, .int dd), (2, .int pp), (3, .int ii)] → W p l e (rm 0 0 0) s m args below meth c H locs 0 0 (MQ below (va_Qi (fun r (u : WS) => (fun r ad' f' => ad = ad' ∧ (v_J6_stringSize_0f7a4 a0) = r ∧ f = f') r u.1 u.2) (fun u t => PO g N u.1 u.2 (aw N ad sz) t) (aw N ad sz)) args s (rm 0 0 0).cells (rm 0 0 0).slots (aw N ad sz)) (F0 m 16 ls []) := by
      intro n2
      induction n2 with
      | zero => intro xx dd pp ii H locs hn; exact absurd hn (Nat.not_lt_zero _)
      | succ n2 ih2 =>
        intro xx dd pp ii H locs hn2 he2 B ls hl
        refine lv_iload_n hx hb dJ6_stringSize_0f7a4_16 rfl (lv_at hl 3 rfl) ?_
        refine lv_bipush (v := 10) hx hb dJ6_stringSize_0f7a4_17 (by decide) ?_
        refine lv_icmp_ge (tgt := 42) hx hb dJ6_stringSize_0f7a4_19 (by decide) (fun c3 => ?_) (fun c3 => ?_)
        · refine lv_bipush (v := 10) hx hb dJ6_stringSize_0f7a4_42 (by decide) ?_
          refine lv_iload_n hx hb dJ6_stringSize_0f7a4_44 rfl (lv_at hl 1 rfl) ?_
          refine lv_iadd hx hb dJ6_stringSize_0f7a4_45 ?_
          have ev := (show v_J6_stringSize_0f7a4 a0 = 10 + dd from he2.trans (by rw [wJ6_stringSize_0f7a4_16, if_pos c3]))
          exact rt_i X hr (ad, f) B (PO_of B) ⟨rfl, by rw [ev], rfl⟩ rfl (Nat.le_of_ble_eq_true rfl) (Nat.le_of_ble_eq_true rfl) dJ6_stringSize_0f7a4_46
        · refine lv_iload_n hx hb dJ6_stringSize_0f7a4_22 rfl (lv_at hl 0 rfl) ?_
          refine lv_iload_n hx hb dJ6_stringSize_0f7a4_23 rfl (lv_at hl 2 rfl) ?_
          refine lv_icmp_le (tgt := 31) hx hb dJ6_stringSize_0f7a4_24 (by decide) (fun c4 => ?_) (fun c4 => ?_)
          · refine lv_bipush (v := 10) hx hb dJ6_stringSize_0f7a4_31 (by decide) ?_
            refine lv_iload_n hx hb dJ6_stringSize_0f7a4_33 rfl (lv_at hl 2 rfl) ?_
            refine lv_imul hx hb dJ6_stringSize_0f7a4_34 ?_
            refine lv_istore_n (lv' := [(2, .int (10 * pp)), (0, .int xx), (1, .int dd), (3, .int ii)]) hx hb dJ6_stringSize_0f7a4_35 rfl hl (by decide) rfl (fun ls hl => ?_)
            refine lv_iinc (v := ii + 1) (lv' := [(3, .int (ii + 1)), (2, .int (10 * pp)), (0, .int xx), (1, .int dd)]) hx hb dJ6_stringSize_0f7a4_36 hl (k := 3) rfl rfl (by decide) rfl (fun ls hl => ?_)
            refine lv_goto (tgt := 16) hx hb dJ6_stringSize_0f7a4_39 (by decide) ?_
            exact ih2 xx dd (10 * pp) (ii + 1) H locs (fu_le c3 hn2) (show v_J6_stringSize_0f7a4 a0 = wJ6_stringSize_0f7a4_16 n2 xx dd (10 * pp) (ii + 1) from he2.trans (by rw [wJ6_stringSize_0f7a4_16, if_neg c3, if_pos c4])) B ls (lv_sub hl [2, 3, 1, 0] rfl)
          · refine lv_iload_n hx hb dJ6_stringSize_0f7a4_27 rfl (lv_at hl 3 rfl) ?_
            refine lv_iload_n hx hb dJ6_stringSize_0f7a4_28 rfl (lv_at hl 1 rfl) ?_
            refine lv_iadd hx hb dJ6_stringSize_0f7a4_29 ?_
            have ev := (show v_J6_stringSize_0f7a4 a0 = ii + dd from he2.trans (by rw [wJ6_stringSize_0f7a4_16, if_neg c3, if_neg c4]))
            exact rt_i X hr (ad, f) B (PO_of B) ⟨rfl, by rw [ev], rfl⟩ rfl (Nat.le_of_ble_eq_true rfl) (Nat.le_of_ble_eq_true rfl) dJ6_stringSize_0f7a4_30
    exact loop2 (9 + 1) a0 1 (-10) 1 H locs (by decide) (show v_J6_stringSize_0f7a4 a0 = wJ6_stringSize_0f7a4_16 (9 + 1) a0 1 (-10) 1 from by unfold v_J6_stringSize_0f7a4; rw [if_pos c1]) B ls hl
  · refine lv_iconst (v := 0) hx hb dJ6_stringSize_0f7a4_6 (by decide) ?_
    refine lv_istore_n (lv' := [(1, .int 0), (0, .int a0)]) hx hb dJ6_stringSize_0f7a4_7 rfl hl (by decide) rfl (fun ls hl => ?_)
    refine lv_iload_n hx hb dJ6_stringSize_0f7a4_8 rfl (lv_at hl 1 rfl) ?_
    refine lv_ineg hx hb dJ6_stringSize_0f7a4_9 ?_
    refine lv_istore_n (lv' := [(0, .int (-a0)), (1, .int 0)]) hx hb dJ6_stringSize_0f7a4_10 rfl hl (by decide) rfl (fun ls hl => ?_)
    refine lv_bipush (v := (-10)) hx hb dJ6_stringSize_0f7a4_11 (by decide) ?_
    refine lv_istore_n (lv' := [(2, .int (-10)), (0, .int (-a0)), (1, .int 0)]) hx hb dJ6_stringSize_0f7a4_13 rfl hl (by decide) rfl (fun ls hl => ?_)
    refine lv_iconst (v := 1) hx hb dJ6_stringSize_0f7a4_14 (by decide) ?_
    refine lv_istore_n (lv' := [(3, .int 1), (2, .int (-10)), (0, .int (-a0)), (1, .int 0)]) hx hb dJ6_stringSize_0f7a4_15 rfl hl (by decide) rfl (fun ls hl => ?_)
    have hl : lv_has ls 4 [(0, .int (-a0)), (1, .int 0), (2, .int (-10)), (3, .int 1)] := lv_sub hl [2, 3, 1, 0] rfl
    have loop5 : ∀ (n5 : Nat) (xx : Int32) (dd : Int32) (pp : Int32) (ii : Int32) (H : Heap) (locs : List Loc), ((10 : Int32).toInt - ii.toInt).toNat < n5 → v_J6_stringSize_0f7a4 a0 = wJ6_stringSize_0f7a4_16 n5 xx dd pp ii → WB g (aw N ad sz) s.heap N ad f H locs → ∀ ls : Array Slot, lv_has ls 4 [(0, .int xx), (1, .int dd), (2, .int pp), (3, .int ii)] → W p l e (rm 0 0 0) s m args below meth c H locs 0 0 (MQ below (va_Qi (fun r (u : WS) => (fun r ad' f' => ad = ad' ∧ (v_J6_stringSize_0f7a4 a0) = r ∧ f = f') r u.1 u.2) (fun u t => PO g N u.1 u.2 (aw N ad sz) t) (aw N ad sz)) args s (rm 0 0 0).cells (rm 0 0 0).slots (aw N ad sz)) (F0 m 16 ls []) := by
      intro n5
      induction n5 with
      | zero => intro xx dd pp ii H locs hn; exact absurd hn (Nat.not_lt_zero _)
      | succ n5 ih5 =>
        intro xx dd pp ii H locs hn5 he5 B ls hl
        refine lv_iload_n hx hb dJ6_stringSize_0f7a4_16 rfl (lv_at hl 3 rfl) ?_
        refine lv_bipush (v := 10) hx hb dJ6_stringSize_0f7a4_17 (by decide) ?_
        refine lv_icmp_ge (tgt := 42) hx hb dJ6_stringSize_0f7a4_19 (by decide) (fun c6 => ?_) (fun c6 => ?_)
        · refine lv_bipush (v := 10) hx hb dJ6_stringSize_0f7a4_42 (by decide) ?_
          refine lv_iload_n hx hb dJ6_stringSize_0f7a4_44 rfl (lv_at hl 1 rfl) ?_
          refine lv_iadd hx hb dJ6_stringSize_0f7a4_45 ?_
          have ev := (show v_J6_stringSize_0f7a4 a0 = 10 + dd from he5.trans (by rw [wJ6_stringSize_0f7a4_16, if_pos c6]))
          exact rt_i X hr (ad, f) B (PO_of B) ⟨rfl, by rw [ev], rfl⟩ rfl (Nat.le_of_ble_eq_true rfl) (Nat.le_of_ble_eq_true rfl) dJ6_stringSize_0f7a4_46
        · refine lv_iload_n hx hb dJ6_stringSize_0f7a4_22 rfl (lv_at hl 0 rfl) ?_
          refine lv_iload_n hx hb dJ6_stringSize_0f7a4_23 rfl (lv_at hl 2 rfl) ?_
          refine lv_icmp_le (tgt := 31) hx hb dJ6_stringSize_0f7a4_24 (by decide) (fun c7 => ?_) (fun c7 => ?_)
          · refine lv_bipush (v := 10) hx hb dJ6_stringSize_0f7a4_31 (by decide) ?_
            refine lv_iload_n hx hb dJ6_stringSize_0f7a4_33 rfl (lv_at hl 2 rfl) ?_
            refine lv_imul hx hb dJ6_stringSize_0f7a4_34 ?_
            refine lv_istore_n (lv' := [(2, .int (10 * pp)), (0, .int xx), (1, .int dd), (3, .int ii)]) hx hb dJ6_stringSize_0f7a4_35 rfl hl (by decide) rfl (fun ls hl => ?_)
            refine lv_iinc (v := ii + 1) (lv' := [(3, .int (ii + 1)), (2, .int (10 * pp)), (0, .int xx), (1, .int dd)]) hx hb dJ6_stringSize_0f7a4_36 hl (k := 3) rfl rfl (by decide) rfl (fun ls hl => ?_)
            refine lv_goto (tgt := 16) hx hb dJ6_stringSize_0f7a4_39 (by decide) ?_
            exact ih5 xx dd (10 * pp) (ii + 1) H locs (fu_le c6 hn5) (show v_J6_stringSize_0f7a4 a0 = wJ6_stringSize_0f7a4_16 n5 xx dd (10 * pp) (ii + 1) from he5.trans (by rw [wJ6_stringSize_0f7a4_16, if_neg c6, if_pos c7])) B ls (lv_sub hl [2, 3, 1, 0] rfl)
          · refine lv_iload_n hx hb dJ6_stringSize_0f7a4_27 rfl (lv_at hl 3 rfl) ?_
            refine lv_iload_n hx hb dJ6_stringSize_0f7a4_28 rfl (lv_at hl 1 rfl) ?_
            refine lv_iadd hx hb dJ6_stringSize_0f7a4_29 ?_
            have ev := (show v_J6_stringSize_0f7a4 a0 = ii + dd from he5.trans (by rw [wJ6_stringSize_0f7a4_16, if_neg c6, if_neg c7]))
            exact rt_i X hr (ad, f) B (PO_of B) ⟨rfl, by rw [ev], rfl⟩ rfl (Nat.le_of_ble_eq_true rfl) (Nat.le_of_ble_eq_true rfl) dJ6_stringSize_0f7a4_30
    exact loop5 (9 + 1) (-a0) 0 (-10) 1 H locs (by decide) (show v_J6_stringSize_0f7a4 a0 = wJ6_stringSize_0f7a4_16 (9 + 1) (-a0) 0 (-10) 1 from by unfold v_J6_stringSize_0f7a4; rw [if_neg c1]) B ls hl
def wJ13_stringSize_95d88_20 : Nat → Int64 → Int32 → Int64 → Int32 → Int32
  | 0, xx, dd, pp, ii => 0
  | n + 1, xx, dd, pp, ii => if 19 ≤ ii then (19 + dd) else (if (lg_cmp xx pp) ≤ 0 then (wJ13_stringSize_95d88_20 n xx dd (10 * pp) (ii + 1)) else (ii + dd))
def v_J13_stringSize_95d88 (b0 : Int64) : Int32 := if (lg_cmp b0 0) < 0 then (wJ13_stringSize_95d88_20 (18 + 1) b0 1 (-10) 1) else (wJ13_stringSize_95d88_20 (18 + 1) (-b0) 0 (-10) 1)
set_option maxHeartbeats 4000000 in
set_option maxRecDepth 100000 in
theorem c_J13_stringSize_95d88 (l : Launch) (g : GG) (N : Nat) (ad : Nat → Nat) (f : Nat → va_E) (b0 : Int64) : KI l yJ13_stringSize_95d88 cJ13_stringSize_95d88 6 (some .int) (rm 0 0 0) g [.long b0] N ad f N (fun r ad' f' => ad = ad' ∧ (v_J13_stringSize_95d88 b0) = r ∧ f = f') := by
  intro sz
  refine mt_start (by decide) (Nat.le_of_ble_eq_true rfl) ?_
  intro p e s m args below meth c hsz X hr hnam hA hK hT H locs B ls hl
  obtain ⟨hx, hb, hml, hown, hts, hlocks⟩ := id X
  have hl : lv_has ls 6 [(0, .long b0)] := hl
  refine lv_iconst (v := 1) hx hb dJ13_stringSize_95d88_0 (by decide) ?_
  refine lv_istore_n (lv' := [(2, .int 1), (0, .long b0)]) hx hb dJ13_stringSize_95d88_1 rfl hl (by decide) rfl (fun ls hl => ?_)
  refine lv_lload_n hx hb dJ13_stringSize_95d88_2 rfl (lv_at hl 1 rfl) ?_
  refine lv_lconst (v := 0) hx hb dJ13_stringSize_95d88_3 (by decide) ?_
  refine W.lcmp hx hb dJ13_stringSize_95d88_4 ?_
  refine lv_if_lt (tgt := 13) hx hb dJ13_stringSize_95d88_5 (by decide) (fun c1 => ?_) (fun c1 => ?_)
  · refine lv_ldc2 hx hb hown (hts _ (List.mem_cons_of_mem _ lk_J13_140)) dJ13_stringSize_95d88_13 ?_
    refine lv_lstore_n (lv' := [(3, .long (-10)), (2, .int 1), (0, .long b0)]) hx hb dJ13_stringSize_95d88_16 rfl hl (by decide) rfl (fun ls hl => ?_)
    refine lv_iconst (v := 1) hx hb dJ13_stringSize_95d88_17 (by decide) ?_
    refine lv_istore (lv' := [(5, .int 1), (3, .long (-10)), (2, .int 1), (0, .long b0)]) hx hb dJ13_stringSize_95d88_18 hl (by decide) rfl (fun ls hl => ?_)
    have hl : lv_has ls 6 [(0, .long b0), (2, .int 1), (3, .long (-10)), (5, .int 1)] := lv_sub hl [3, 2, 1, 0] rfl
    have loop2 : ∀ (n2 : Nat) (xx : Int64) (dd : Int32) (pp : Int64) (ii : Int32) (H : Heap) (locs : List Loc), ((19 : Int32).toInt - ii.toInt).toNat < n2 → v_J13_stringSize_95d88 b0 = wJ13_stringSize_95d88_20 n2 xx dd pp ii → WB g (aw N ad sz) s.heap N ad f H locs → ∀ ls : Array Slot, lv_has ls 6 [(0, .long xx), (2, .int dd), (3, .long pp), (5, .int ii)] → W p l e (rm 0 0 0) s m args below meth c H locs 0 0 (MQ below (va_Qi (fun r (u : WS) => (fun r ad' f' => ad = ad' ∧ (v_J13_stringSize_95d88 b0) = r ∧ f = f') r u.1 u.2) (fun u t => PO g N u.1 u.2 (aw N ad sz) t) (aw N ad sz)) args s (rm 0 0 0).cells (rm 0 0 0).slots (aw N ad sz)) (F0 m 20 ls []) := by
      intro n2
      induction n2 with
      | zero => intro xx dd pp ii H locs hn; exact absurd hn (Nat.not_lt_zero _)
      | succ n2 ih2 =>
        intro xx dd pp ii H locs hn2 he2 B ls hl
        refine lv_iload hx hb dJ13_stringSize_95d88_20 (lv_at hl 3 rfl) ?_
        refine lv_bipush (v := 19) hx hb dJ13_stringSize_95d88_22 (by decide) ?_
        refine lv_icmp_ge (tgt := 50) hx hb dJ13_stringSize_95d88_24 (by decide) (fun c3 => ?_) (fun c3 => ?_)
        · refine lv_bipush (v := 19) hx hb dJ13_stringSize_95d88_50 (by decide) ?_
          refine lv_iload_n hx hb dJ13_stringSize_95d88_52 rfl (lv_at hl 1 rfl) ?_
          refine lv_iadd hx hb dJ13_stringSize_95d88_53 ?_
          have ev := (show v_J13_stringSize_95d88 b0 = 19 + dd from he2.trans (by rw [wJ13_stringSize_95d88_20, if_pos c3]))
          exact rt_i X hr (ad, f) B (PO_of B) ⟨rfl, by rw [ev], rfl⟩ rfl (Nat.le_of_ble_eq_true rfl) (Nat.le_of_ble_eq_true rfl) dJ13_stringSize_95d88_54
        · refine lv_lload_n hx hb dJ13_stringSize_95d88_27 rfl (lv_at hl 0 rfl) ?_
          refine lv_lload_n hx hb dJ13_stringSize_95d88_28 rfl (lv_at hl 2 rfl) ?_
          refine W.lcmp hx hb dJ13_stringSize_95d88_29 ?_
          refine lv_if_le (tgt := 38) hx hb dJ13_stringSize_95d88_30 (by decide) (fun c4 => ?_) (fun c4 => ?_)
          · refine lv_ldc2 hx hb hown (hts _ (List.mem_cons_of_mem _ lk_J13_53)) dJ13_stringSize_95d88_38 ?_
            refine lv_lload_n hx hb dJ13_stringSize_95d88_41 rfl (lv_at hl 2 rfl) ?_
            refine lv_lmul hx hb dJ13_stringSize_95d88_42 ?_
            refine lv_lstore_n (lv' := [(3, .long (10 * pp)), (0, .long xx), (2, .int dd), (5, .int ii)]) hx hb dJ13_stringSize_95d88_43 rfl hl (by decide) rfl (fun ls hl => ?_)
            refine lv_iinc (v := ii + 1) (lv' := [(5, .int (ii + 1)), (3, .long (10 * pp)), (0, .long xx), (2, .int dd)]) hx hb dJ13_stringSize_95d88_44 hl (k := 3) rfl rfl (by decide) rfl (fun ls hl => ?_)
            refine lv_goto (tgt := 20) hx hb dJ13_stringSize_95d88_47 (by decide) ?_
            exact ih2 xx dd (10 * pp) (ii + 1) H locs (fu_le c3 hn2) (show v_J13_stringSize_95d88 b0 = wJ13_stringSize_95d88_20 n2 xx dd (10 * pp) (ii + 1) from he2.trans (by rw [wJ13_stringSize_95d88_20, if_neg c3, if_pos c4])) B ls (lv_sub hl [2, 3, 1, 0] rfl)
          · refine lv_iload hx hb dJ13_stringSize_95d88_33 (lv_at hl 3 rfl) ?_
            refine lv_iload_n hx hb dJ13_stringSize_95d88_35 rfl (lv_at hl 1 rfl) ?_
            refine lv_iadd hx hb dJ13_stringSize_95d88_36 ?_
            have ev := (show v_J13_stringSize_95d88 b0 = ii + dd from he2.trans (by rw [wJ13_stringSize_95d88_20, if_neg c3, if_neg c4]))
            exact rt_i X hr (ad, f) B (PO_of B) ⟨rfl, by rw [ev], rfl⟩ rfl (Nat.le_of_ble_eq_true rfl) (Nat.le_of_ble_eq_true rfl) dJ13_stringSize_95d88_37
    exact loop2 (18 + 1) b0 1 (-10) 1 H locs (by decide) (show v_J13_stringSize_95d88 b0 = wJ13_stringSize_95d88_20 (18 + 1) b0 1 (-10) 1 from by unfold v_J13_stringSize_95d88; rw [if_pos c1]) B ls hl
  · refine lv_iconst (v := 0) hx hb dJ13_stringSize_95d88_8 (by decide) ?_
    refine lv_istore_n (lv' := [(2, .int 0), (0, .long b0)]) hx hb dJ13_stringSize_95d88_9 rfl hl (by decide) rfl (fun ls hl => ?_)
    refine lv_lload_n hx hb dJ13_stringSize_95d88_10 rfl (lv_at hl 1 rfl) ?_
    refine lv_lneg hx hb dJ13_stringSize_95d88_11 ?_
    refine lv_lstore_n (lv' := [(0, .long (-b0)), (2, .int 0)]) hx hb dJ13_stringSize_95d88_12 rfl hl (by decide) rfl (fun ls hl => ?_)
    refine lv_ldc2 hx hb hown (hts _ (List.mem_cons_of_mem _ lk_J13_140)) dJ13_stringSize_95d88_13 ?_
    refine lv_lstore_n (lv' := [(3, .long (-10)), (0, .long (-b0)), (2, .int 0)]) hx hb dJ13_stringSize_95d88_16 rfl hl (by decide) rfl (fun ls hl => ?_)
    refine lv_iconst (v := 1) hx hb dJ13_stringSize_95d88_17 (by decide) ?_
    refine lv_istore (lv' := [(5, .int 1), (3, .long (-10)), (0, .long (-b0)), (2, .int 0)]) hx hb dJ13_stringSize_95d88_18 hl (by decide) rfl (fun ls hl => ?_)
    have hl : lv_has ls 6 [(0, .long (-b0)), (2, .int 0), (3, .long (-10)), (5, .int 1)] := lv_sub hl [2, 3, 1, 0] rfl
    have loop5 : ∀ (n5 : Nat) (xx : Int64) (dd : Int32) (pp : Int64) (ii : Int32) (H : Heap) (locs : List Loc), ((19 : Int32).toInt - ii.toInt).toNat < n5 → v_J13_stringSize_95d88 b0 = wJ13_stringSize_95d88_20 n5 xx dd pp ii → WB g (aw N ad sz) s.heap N ad f H locs → ∀ ls : Array Slot, lv_has ls 6 [(0, .long xx), (2, .int dd), (3, .long pp), (5, .int ii)] → W p l e (rm 0 0 0) s m args below meth c H locs 0 0 (MQ below (va_Qi (fun r (u : WS) => (fun r ad' f' => ad = ad' ∧ (v_J13_stringSize_95d88 b0) = r ∧ f = f') r u.1 u.2) (fun u t => PO g N u.1 u.2 (aw N ad sz) t) (aw N ad sz)) args s (rm 0 0 0).cells (rm 0 0 0).slots (aw N ad sz)) (F0 m 20 ls []) := by
      intro n5
      induction n5 with
      | zero => intro xx dd pp ii H locs hn; exact absurd hn (Nat.not_lt_zero _)
      | succ n5 ih5 =>
        intro xx dd pp ii H locs hn5 he5 B ls hl
        refine lv_iload hx hb dJ13_stringSize_95d88_20 (lv_at hl 3 rfl) ?_
        refine lv_bipush (v := 19) hx hb dJ13_stringSize_95d88_22 (by decide) ?_
        refine lv_icmp_ge (tgt := 50) hx hb dJ13_stringSize_95d88_24 (by decide) (fun c6 => ?_) (fun c6 => ?_)
        · refine lv_bipush (v := 19) hx hb dJ13_stringSize_95d88_50 (by decide) ?_
          refine lv_iload_n hx hb dJ13_stringSize_95d88_52 rfl (lv_at hl 1 rfl) ?_
          refine lv_iadd hx hb dJ13_stringSize_95d88_53 ?_
          have ev := (show v_J13_stringSize_95d88 b0 = 19 + dd from he5.trans (by rw [wJ13_stringSize_95d88_20, if_pos c6]))
          exact rt_i X hr (ad, f) B (PO_of B) ⟨rfl, by rw [ev], rfl⟩ rfl (Nat.le_of_ble_eq_true rfl) (Nat.le_of_ble_eq_true rfl) dJ13_stringSize_95d88_54
        · refine lv_lload_n hx hb dJ13_stringSize_95d88_27 rfl (lv_at hl 0 rfl) ?_
          refine lv_lload_n hx hb dJ13_stringSize_95d88_28 rfl (lv_at hl 2 rfl) ?_
          refine W.lcmp hx hb dJ13_stringSize_95d88_29 ?_
          refine lv_if_le (tgt := 38) hx hb dJ13_stringSize_95d88_30 (by decide) (fun c7 => ?_) (fun c7 => ?_)
          · refine lv_ldc2 hx hb hown (hts _ (List.mem_cons_of_mem _ lk_J13_53)) dJ13_stringSize_95d88_38 ?_
            refine lv_lload_n hx hb dJ13_stringSize_95d88_41 rfl (lv_at hl 2 rfl) ?_
            refine lv_lmul hx hb dJ13_stringSize_95d88_42 ?_
            refine lv_lstore_n (lv' := [(3, .long (10 * pp)), (0, .long xx), (2, .int dd), (5, .int ii)]) hx hb dJ13_stringSize_95d88_43 rfl hl (by decide) rfl (fun ls hl => ?_)
            refine lv_iinc (v := ii + 1) (lv' := [(5, .int (ii + 1)), (3, .long (10 * pp)), (0, .long xx), (2, .int dd)]) hx hb dJ13_stringSize_95d88_44 hl (k := 3) rfl rfl (by decide) rfl (fun ls hl => ?_)
            refine lv_goto (tgt := 20) hx hb dJ13_stringSize_95d88_47 (by decide) ?_
            exact ih5 xx dd (10 * pp) (ii + 1) H locs (fu_le c6 hn5) (show v_J13_stringSize_95d88 b0 = wJ13_stringSize_95d88_20 n5 xx dd (10 * pp) (ii + 1) from he5.trans (by rw [wJ13_stringSize_95d88_20, if_neg c6, if_pos c7])) B ls (lv_sub hl [2, 3, 1, 0] rfl)
          · refine lv_iload hx hb dJ13_stringSize_95d88_33 (lv_at hl 3 rfl) ?_
            refine lv_iload_n hx hb dJ13_stringSize_95d88_35 rfl (lv_at hl 1 rfl) ?_
            refine lv_iadd hx hb dJ13_stringSize_95d88_36 ?_
            have ev := (show v_J13_stringSize_95d88 b0 = ii + dd from he5.trans (by rw [wJ13_stringSize_95d88_20, if_neg c6, if_neg c7]))
            exact rt_i X hr (ad, f) B (PO_of B) ⟨rfl, by rw [ev], rfl⟩ rfl (Nat.le_of_ble_eq_true rfl) (Nat.le_of_ble_eq_true rfl) dJ13_stringSize_95d88_37
    exact loop5 (18 + 1) (-b0) 0 (-10) 1 H locs (by decide) (show v_J13_stringSize_95d88 b0 = wJ13_stringSize_95d88_20 (18 + 1) (-b0) 0 (-10) 1 from by unfold v_J13_stringSize_95d88; rw [if_neg c1]) B ls hl
