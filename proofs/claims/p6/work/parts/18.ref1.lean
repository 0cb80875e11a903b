def v_X4_one (a0 : Int32) : Int32 := if a0 = 0 then 0 else 1
set_option maxHeartbeats 4000000 in
set_option maxRecDepth 100000 in
theorem c_X4_one (l : Launch) (g : GG) (N : Nat) (ad : Nat → Nat) (f : Nat → va_E) (a0 : Int32) : KI l yX4_one cX4_one 1 (some .int) (rm 0 0 0) g [.int a0] N ad f N (fun r ad' f' => ad = ad' ∧ (v_X4_one a0) = r ∧ f = f') := by
  intro sz
  refine mt_start (by decide) (Nat.le_of_ble_eq_true rfl) ?_
  intro p e s m args below meth c hsz X hr hnam hA hK hT H locs B ls hl
  obtain ⟨hx, hb, hml, hown, hts, hlocks⟩ := id X
  have hl : lv_has ls 1 [(0, .int a0)] := hl
  refine lv_iload_n hx hb dX4_one_0 rfl (lv_at hl 0 rfl) ?_
  refine lv_if_eq (tgt := 8) hx hb dX4_one_1 (by decide) (fun c1 => ?_) (fun c1 => ?_)
  · refine lv_iconst (v := 0) hx hb dX4_one_8 (by decide) ?_
    have ev := (show v_X4_one a0 = 0 from by unfold v_X4_one; rw [if_pos c1])
    exact rt_i X hr (ad, f) B (PO_of B) ⟨rfl, ev, rfl⟩ rfl (Nat.le_of_ble_eq_true rfl) (Nat.le_of_ble_eq_true rfl) dX4_one_9
  · refine lv_iconst (v := 1) hx hb dX4_one_4 (by decide) ?_
    refine lv_goto (tgt := 9) hx hb dX4_one_5 (by decide) ?_
    have ev := (show v_X4_one a0 = 1 from by unfold v_X4_one; rw [if_neg c1])
    exact rt_i X hr (ad, f) B (PO_of B) ⟨rfl, ev, rfl⟩ rfl (Nat.le_of_ble_eq_true rfl) (Nat.le_of_ble_eq_true rfl) dX4_one_9
def v_X4_isIn (b0 : Int64) (b1 : Int64) (b2 : Int64) : Int32 := if (lg_cmp b0 b1) < 0 then 0 else (if 0 < (lg_cmp b0 b2) then 0 else 1)
theorem b01_X4_isIn {b0 : Int64} {b1 : Int64} {b2 : Int64} : (v_X4_isIn b0 b1 b2) = 0 ∨ (v_X4_isIn b0 b1 b2) = 1 := by
  unfold v_X4_isIn
  by_cases q1 : (lg_cmp b0 b1) < 0
  · rw [if_pos q1]
    exact Or.inl rfl
  · rw [if_neg q1]
    by_cases q2 : 0 < (lg_cmp b0 b2)
    · rw [if_pos q2]
      exact Or.inl rfl
    · rw [if_neg q2]
      exact Or.inr rfl
set_option maxHeartbeats 4000000 in
set_option maxRecDepth 100000 in
theorem c_X4_isIn (l : Launch) (g : GG) (N : Nat) (ad : Nat → Nat) (f : Nat → va_E) (b0 : Int64) (b1 : Int64) (b2 : Int64) : KI l yX4_isIn cX4_isIn 6 (some .boolean) (rm 0 0 0) g [.long b0, .long b1, .long b2] N ad f N (fun r ad' f' => ad = ad' ∧ (v_X4_isIn b0 b1 b2) = r ∧ f = f') := by
  intro sz
  refine mt_start (by decide) (Nat.le_of_ble_eq_true rfl) ?_
  intro p e s m args below meth c hsz X hr hnam hA hK hT H locs B ls hl
  obtain ⟨hx, hb, hml, hown, hts, hlocks⟩ := id X
  have hl : lv_has ls 6 [(0, .long b0), (2, .long b1), (4, .long b2)] := hl
  refine lv_lload_n hx hb dX4_isIn_0 rfl (lv_at hl 0 rfl) ?_
  refine lv_lload_n hx hb dX4_isIn_1 rfl (lv_at hl 1 rfl) ?_
  refine W.lcmp hx hb dX4_isIn_2 ?_
  refine lv_if_lt (tgt := 17) hx hb dX4_isIn_3 (by decide) (fun c1 => ?_) (fun c1 => ?_)
  · refine lv_iconst (v := 0) hx hb dX4_isIn_17 (by decide) ?_
    have ev := (show v_X4_isIn b0 b1 b2 = 0 from by unfold v_X4_isIn; rw [if_pos c1])
    exact rt_i X hr (ad, f) B (PO_of B) ⟨rfl, ev, rfl⟩ rfl (Nat.le_of_ble_eq_true rfl) (Nat.le_of_ble_eq_true rfl) dX4_isIn_18
  · refine lv_lload_n hx hb dX4_isIn_6 rfl (lv_at hl 0 rfl) ?_
    refine lv_lload hx hb dX4_isIn_7 (lv_at hl 2 rfl) ?_
    refine W.lcmp hx hb dX4_isIn_9 ?_
    refine lv_if_gt (tgt := 17) hx hb dX4_isIn_10 (by decide) (fun c2 => ?_) (fun c2 => ?_)
    · refine lv_iconst (v := 0) hx hb dX4_isIn_17 (by decide) ?_
      have ev := (show v_X4_isIn b0 b1 b2 = 0 from by unfold v_X4_isIn; rw [if_neg c1, if_pos c2])
      exact rt_i X hr (ad, f) B (PO_of B) ⟨rfl, ev, rfl⟩ rfl (Nat.le_of_ble_eq_true rfl) (Nat.le_of_ble_eq_true rfl) dX4_isIn_18
    · refine lv_iconst (v := 1) hx hb dX4_isIn_13 (by decide) ?_
      refine lv_goto (tgt := 18) hx hb dX4_isIn_14 (by decide) ?_
      have ev := (show v_X4_isIn b0 b1 b2 = 1 from by unfold v_X4_isIn; rw [if_neg c1, if_neg c2])
      exact rt_i X hr (ad, f) B (PO_of B) ⟨rfl, ev, rfl⟩ rfl (Nat.le_of_ble_eq_true rfl) (Nat.le_of_ble_eq_true rfl) dX4_isIn_18
def v_X4_isNone (a0 : Int32) : Int32 := if a0 < 0 then 1 else (if a0 < 4 then 0 else 1)
theorem b01_X4_isNone {a0 : Int32} : (v_X4_isNone a0) = 0 ∨ (v_X4_isNone a0) = 1 := by
  unfold v_X4_isNone
  by_cases q1 : a0 < 0
  · rw [if_pos q1]
    exact Or.inr rfl
  · rw [if_neg q1]
    by_cases q2 : a0 < 4
    · rw [if_pos q2]
      exact Or.inl rfl
    · rw [if_neg q2]
      exact Or.inr rfl
set_option maxHeartbeats 4000000 in
set_option maxRecDepth 100000 in
theorem c_X4_isNone (l : Launch) (g : GG) (N : Nat) (ad : Nat → Nat) (f : Nat → va_E) (a0 : Int32) : KI l yX4_isNone cX4_isNone 1 (some .boolean) (rm 0 0 0) g [.int a0] N ad f N (fun r ad' f' => ad = ad' ∧ (v_X4_isNone a0) = r ∧ f = f') := by
  intro sz
  refine mt_start (by decide) (Nat.le_of_ble_eq_true rfl) ?_
  intro p e s m args below meth c hsz X hr hnam hA hK hT H locs B ls hl
  obtain ⟨hx, hb, hml, hown, hts, hlocks⟩ := id X
  have hl : lv_has ls 1 [(0, .int a0)] := hl
  refine lv_iload_n hx hb dX4_isNone_0 rfl (lv_at hl 0 rfl) ?_
  refine lv_if_lt (tgt := 9) hx hb dX4_isNone_1 (by decide) (fun c1 => ?_) (fun c1 => ?_)
  · refine lv_iconst (v := 1) hx hb dX4_isNone_9 (by decide) ?_
    refine lv_goto (tgt := 14) hx hb dX4_isNone_10 (by decide) ?_
    have ev := (show v_X4_isNone a0 = 1 from by unfold v_X4_isNone; rw [if_pos c1])
    exact rt_i X hr (ad, f) B (PO_of B) ⟨rfl, ev, rfl⟩ rfl (Nat.le_of_ble_eq_true rfl) (Nat.le_of_ble_eq_true rfl) dX4_isNone_14
  · refine lv_iload_n hx hb dX4_isNone_4 rfl (lv_at hl 0 rfl) ?_
    refine lv_iconst (v := 4) hx hb dX4_isNone_5 (by decide) ?_
    refine lv_icmp_lt (tgt := 13) hx hb dX4_isNone_6 (by decide) (fun c2 => ?_) (fun c2 => ?_)
    · refine lv_iconst (v := 0) hx hb dX4_isNone_13 (by decide) ?_
      have ev := (show v_X4_isNone a0 = 0 from by unfold v_X4_isNone; rw [if_neg c1, if_pos c2])
      exact rt_i X hr (ad, f) B (PO_of B) ⟨rfl, ev, rfl⟩ rfl (Nat.le_of_ble_eq_true rfl) (Nat.le_of_ble_eq_true rfl) dX4_isNone_14
    · refine lv_iconst (v := 1) hx hb dX4_isNone_9 (by decide) ?_
      refine lv_goto (tgt := 14) hx hb dX4_isNone_10 (by decide) ?_
      have ev := (show v_X4_isNone a0 = 1 from by unfold v_X4_isNone; rw [if_neg c1, if_neg c2])
      exact rt_i X hr (ad, f) B (PO_of B) ⟨rfl, ev, rfl⟩ rfl (Nat.le_of_ble_eq_true rfl) (Nat.le_of_ble_eq_true rfl) dX4_isNone_14
def v_X4_isLong (a0 : Int32) : Int32 := if (a0 - a0 / 4 * 4) = 0 then (if (a0 - a0 / 100 * 100) = 0 then (if (a0 - a0 / 400 * 400) = 0 then 1 else 0) else 1) else 0
theorem b01_X4_isLong {a0 : Int32} : (v_X4_isLong a0) = 0 ∨ (v_X4_isLong a0) = 1 := by
  unfold v_X4_isLong
  by_cases q1 : (a0 - a0 / 4 * 4) = 0
  · rw [if_pos q1]
    by_cases q2 : (a0 - a0 / 100 * 100) = 0
    · rw [if_pos q2]
      by_cases q3 : (a0 - a0 / 400 * 400) = 0
      · rw [if_pos q3]
        exact Or.inr rfl
      · rw [if_neg q3]
        exact Or.inl rfl
    · rw [if_neg q2]
      exact Or.inr rfl
  · rw [if_neg q1]
    exact Or.inl rfl
set_option maxHeartbeats 4000000 in
set_option maxRecDepth 100000 in
theorem c_X4_isLong (l : Launch) (g : GG) (N : Nat) (ad : Nat → Nat) (f : Nat → va_E) (a0 : Int32) : KI l yX4_isLong cX4_isLong 1 (some .boolean) (rm 0 0 0) g [.int a0] N ad f N (fun r ad' f' => ad = ad' ∧ (v_X4_isLong a0) = r ∧ f = f') := by
  intro sz
  refine mt_start (by decide) (Nat.le_of_ble_eq_true rfl) ?_
  intro p e s m args below meth c hsz X hr hnam hA hK hT H locs B ls hl
  obtain ⟨hx, hb, hml, hown, hts, hlocks⟩ := id X
  have hl : lv_has ls 1 [(0, .int a0)] := hl
  refine lv_iload_n hx hb dX4_isLong_0 rfl (lv_at hl 0 rfl) ?_
  refine lv_iconst (v := 4) hx hb dX4_isLong_1 (by decide) ?_
  refine lv_irem hx hb dX4_isLong_2 (by decide) ?_
  refine lv_if_ne (tgt := 25) hx hb dX4_isLong_3 (by decide) (fun c1 => ?_) (fun c1 => ?_)
  · refine lv_iconst (v := 0) hx hb dX4_isLong_25 (by decide) ?_
    have ev := (show v_X4_isLong a0 = 0 from by unfold v_X4_isLong; rw [if_neg c1])
    exact rt_i X hr (ad, f) B (PO_of B) ⟨rfl, ev, rfl⟩ rfl (Nat.le_of_ble_eq_true rfl) (Nat.le_of_ble_eq_true rfl) dX4_isLong_26
  · refine lv_iload_n hx hb dX4_isLong_6 rfl (lv_at hl 0 rfl) ?_
    refine lv_bipush (v := 100) hx hb dX4_isLong_7 (by decide) ?_
    refine lv_irem hx hb dX4_isLong_9 (by decide) ?_
    refine lv_if_ne (tgt := 21) hx hb dX4_isLong_10 (by decide) (fun c2 => ?_) (fun c2 => ?_)
    · refine lv_iconst (v := 1) hx hb dX4_isLong_21 (by decide) ?_
      refine lv_goto (tgt := 26) hx hb dX4_isLong_22 (by decide) ?_
      have ev := (show v_X4_isLong a0 = 1 from by unfold v_X4_isLong; rw [if_pos c1, if_neg c2])
      exact rt_i X hr (ad, f) B (PO_of B) ⟨rfl, ev, rfl⟩ rfl (Nat.le_of_ble_eq_true rfl) (Nat.le_of_ble_eq_true rfl) dX4_isLong_26
    · refine lv_iload_n hx hb dX4_isLong_13 rfl (lv_at hl 0 rfl) ?_
      refine lv_sipush (v := 400) hx hb dX4_isLong_14 (by decide) ?_
      refine lv_irem hx hb dX4_isLong_17 (by decide) ?_
      refine lv_if_ne (tgt := 25) hx hb dX4_isLong_18 (by decide) (fun c3 => ?_) (fun c3 => ?_)
      · refine lv_iconst (v := 0) hx hb dX4_isLong_25 (by decide) ?_
        have ev := (show v_X4_isLong a0 = 0 from by unfold v_X4_isLong; rw [if_pos c1, if_pos c2, if_neg c3])
        exact rt_i X hr (ad, f) B (PO_of B) ⟨rfl, ev, rfl⟩ rfl (Nat.le_of_ble_eq_true rfl) (Nat.le_of_ble_eq_true rfl) dX4_isLong_26
      · refine lv_iconst (v := 1) hx hb dX4_isLong_21 (by decide) ?_
        refine lv_goto (tgt := 26) hx hb dX4_isLong_22 (by decide) ?_
        have ev := (show v_X4_isLong a0 = 1 from by unfold v_X4_isLong; rw [if_pos c1, if_pos c2, if_pos c3])
        exact rt_i X hr (ad, f) B (PO_of B) ⟨rfl, ev, rfl⟩ rfl (Nat.le_of_ble_eq_true rfl) (Nat.le_of_ble_eq_true rfl) dX4_isLong_26
def v_X4_add (b0 : Int64) (b1 : Int64) : Int64 := (b0 * 31) + b1
set_option maxHeartbeats 4000000 in
set_option maxRecDepth 100000 in
theorem c_X4_add (l : Launch) (g : GG) (N : Nat) (ad : Nat → Nat) (f : Nat → va_E) (b0 : Int64) (b1 : Int64) : KL l yX4_add cX4_add 4 (rm 0 0 0) g [.long b0, .long b1] N ad f N (fun r ad' f' => ad = ad' ∧ (v_X4_add b0 b1) = r ∧ f = f') := by
  intro sz
  refine mt_start (by decide) (Nat.le_of_ble_eq_true rfl) ?_
  intro p e s m args below meth c hsz X hr hnam hA hK hT H locs B ls hl
  obtain ⟨hx, hb, hml, hown, hts, hlocks⟩ := id X
  have hl : lv_has ls 4 [(0, .long b0), (2, .long b1)] := hl
  refine lv_lload_n hx hb dX4_add_0 rfl (lv_at hl 0 rfl) ?_
  refine lv_ldc2 hx hb hown (hts _ (List.mem_cons_of_mem _ lk_X4_264)) dX4_add_1 ?_
  refine lv_lmul hx hb dX4_add_4 ?_
  refine lv_lload_n hx hb dX4_add_5 rfl (lv_at hl 1 rfl) ?_
  refine lv_ladd hx hb dX4_add_6 ?_
  have ev := (show v_X4_add b0 b1 = (b0 * 31) + b1 from rfl)
  exact rt_l X hr (ad, f) B (PO_of B) ⟨rfl, ev, rfl⟩ (Nat.le_of_ble_eq_true rfl) (Nat.le_of_ble_eq_true rfl) dX4_add_7
def v_X4_span (b0 : Int64) (b1 : Int64) (b2 : Int64) : Option TR := if (v_X4_isIn b0 (-2147483648) 2147483647) = 0 then none else (if (v_X4_isIn b1 (-2147483648) 2147483647) = 0 then none else (if (v_X4_isIn b2 (-2147483648) 2147483647) = 0 then none else (some (b0.toInt32, b1.toInt32, b2.toInt32))))
set_option maxHeartbeats 4000000 in
set_option maxRecDepth 100000 in
theorem c_X4_span (l : Launch) (g : GG) (N : Nat) (ad : Nat → Nat) (f : Nat → va_E) (b0 : Int64) (b1 : Int64) (b2 : Int64) : KR l yX4_span cX4_span 7 (.array .int) (rm 1 1 3) g [.long b0, .long b1, .long b2] N ad f (N + nz (v_X4_span b0 b1 b2)) (fun r ad' f' => pw g (v_X4_span b0 b1 b2) N ad f r ad' f') := by
  intro sz
  refine mt_start (by decide) (Nat.le_of_ble_eq_true rfl) ?_
  intro p e s m args below meth c hsz X hr hnam hA hK hT H locs B ls hl
  obtain ⟨hx, hb, hml, hown, hts, hlocks⟩ := id X
  have hl : lv_has ls 7 [(0, .long b0), (2, .long b1), (4, .long b2)] := hl
  refine lv_lload_n hx hb dX4_span_0 rfl (lv_at hl 0 rfl) ?_
  refine lv_ldc2 hx hb hown (hts _ (List.mem_cons_of_mem _ lk_X4_33)) dX4_span_1 ?_
  refine lv_ldc2 hx hb hown (hts _ (List.mem_cons_of_mem _ lk_X4_35)) dX4_span_4 ?_
  refine k_i (k := 0) (n := 0) hA B (u_S (rest := []) X (c_X4_isIn l g N ad f b0 (-2147483648) 2147483647 H.size) mw_X4_isIn md_X4_isIn rfl lk_X4_37 ⟨Nat.le_of_ble_eq_true rfl, Nat.le_of_ble_eq_true rfl⟩ hA hK hT B hl.1 rfl (Nat.le_of_ble_eq_true rfl) dX4_span_7 ⟨Nat.le_of_ble_eq_true rfl, Nat.le_of_ble_eq_true rfl⟩) (Nat.le_of_ble_eq_true rfl) (Nat.le_of_ble_eq_true rfl) (fun r ad' f' H locs hw B => ?_)
  obtain ⟨rfl, rfl, rfl⟩ := hw
  refine lv_if_eq (tgt := 44) hx hb dX4_span_10 (by decide) (fun c1 => ?_) (fun c1 => ?_)
  · refine lv_iconst (v := 0) hx hb dX4_span_44 (by decide) ?_
    refine lv_istore (lv' := [(6, .int 0), (0, .long b0), (2, .long b1), (4, .long b2)]) hx hb dX4_span_45 hl (by decide) rfl (fun ls hl => ?_)
    refine lv_iload hx hb dX4_span_47 (lv_at hl 0 rfl) ?_
    refine lv_if_eq (tgt := 74) hx hb dX4_span_49 (by decide) (fun _ => ?_) (fun z => absurd z (by decide))
    refine lv_null hx hb dX4_span_74 ?_
    have ev := (show v_X4_span b0 b1 b2 = none from by unfold v_X4_span; rw [if_pos c1])
    exact rt_r (r := none) rfl X hr (Or.inr ⟨_, rfl⟩) (ad, f) B (by rw [ev]; exact PO_of B) (by rw [ev]; exact pw_in) (Nat.le_of_ble_eq_true rfl) (Nat.le_of_ble_eq_true rfl) dX4_span_75
  · refine lv_lload_n hx hb dX4_span_13 rfl (lv_at hl 1 rfl) ?_
    refine lv_ldc2 hx hb hown (hts _ (List.mem_cons_of_mem _ lk_X4_33)) dX4_span_14 ?_
    refine lv_ldc2 hx hb hown (hts _ (List.mem_cons_of_mem _ lk_X4_35)) dX4_span_17 ?_
    refine k_i (k := 0) (n := 0) hA B (u_S (rest := []) X (c_X4_isIn l g N ad f b1 (-2147483648) 2147483647 H.size) mw_X4_isIn md_X4_isIn rfl lk_X4_37 ⟨Nat.le_of_ble_eq_true rfl, Nat.le_of_ble_eq_true rfl⟩ hA hK hT B hl.1 rfl (Nat.le_of_ble_eq_true rfl) dX4_span_20 ⟨Nat.le_of_ble_eq_true rfl, Nat.le_of_ble_eq_true rfl⟩) (Nat.le_of_ble_eq_true rfl) (Nat.le_of_ble_eq_true rfl) (fun r ad' f' H locs hw B => ?_)
    obtain ⟨rfl, rfl, rfl⟩ := hw
    refine lv_if_eq (tgt := 44) hx hb dX4_span_23 (by decide) (fun c2 => ?_) (fun c2 => ?_)
    · refine lv_iconst (v := 0) hx hb dX4_span_44 (by decide) ?_
      refine lv_istore (lv' := [(6, .int 0), (0, .long b0), (2, .long b1), (4, .long b2)]) hx hb dX4_span_45 hl (by decide) rfl (fun ls hl => ?_)
      refine lv_iload hx hb dX4_span_47 (lv_at hl 0 rfl) ?_
      refine lv_if_eq (tgt := 74) hx hb dX4_span_49 (by decide) (fun _ => ?_) (fun z => absurd z (by decide))
      refine lv_null hx hb dX4_span_74 ?_
      have ev := (show v_X4_span b0 b1 b2 = none from by unfold v_X4_span; rw [if_neg c1, if_pos c2])
      exact rt_r (r := none) rfl X hr (Or.inr ⟨_, rfl⟩) (ad, f) B (by rw [ev]; exact PO_of B) (by rw [ev]; exact pw_in) (Nat.le_of_ble_eq_true rfl) (Nat.le_of_ble_eq_true rfl) dX4_span_75
    · refine lv_lload hx hb dX4_span_26 (lv_at hl 2 rfl) ?_
      refine lv_ldc2 hx hb hown (hts _ (List.mem_cons_of_mem _ lk_X4_33)) dX4_span_28 ?_
      refine lv_ldc2 hx hb hown (hts _ (List.mem_cons_of_mem _ lk_X4_35)) dX4_span_31 ?_
      refine k_i (k := 0) (n := 0) hA B (u_S (rest := []) X (c_X4_isIn l g N ad f b2 (-2147483648) 2147483647 H.size) mw_X4_isIn md_X4_isIn rfl lk_X4_37 ⟨Nat.le_of_ble_eq_true rfl, Nat.le_of_ble_eq_true rfl⟩ hA hK hT B hl.1 rfl (Nat.le_of_ble_eq_true rfl) dX4_span_34 ⟨Nat.le_of_ble_eq_true rfl, Nat.le_of_ble_eq_true rfl⟩) (Nat.le_of_ble_eq_true rfl) (Nat.le_of_ble_eq_true rfl) (fun r ad' f' H locs hw B => ?_)
      obtain ⟨rfl, rfl, rfl⟩ := hw
      refine lv_if_eq (tgt := 44) hx hb dX4_span_37 (by decide) (fun c3 => ?_) (fun c3 => ?_)
      · refine lv_iconst (v := 0) hx hb dX4_span_44 (by decide) ?_
        refine lv_istore (lv' := [(6, .int 0), (0, .long b0), (2, .long b1), (4, .long b2)]) hx hb dX4_span_45 hl (by decide) rfl (fun ls hl => ?_)
        refine lv_iload hx hb dX4_span_47 (lv_at hl 0 rfl) ?_
        refine lv_if_eq (tgt := 74) hx hb dX4_span_49 (by decide) (fun _ => ?_) (fun z => absurd z (by decide))
        refine lv_null hx hb dX4_span_74 ?_
        have ev := (show v_X4_span b0 b1 b2 = none from by unfold v_X4_span; rw [if_neg c1, if_neg c2, if_pos c3])
        exact rt_r (r := none) rfl X hr (Or.inr ⟨_, rfl⟩) (ad, f) B (by rw [ev]; exact PO_of B) (by rw [ev]; exact pw_in) (Nat.le_of_ble_eq_true rfl) (Nat.le_of_ble_eq_true rfl) dX4_span_75
      · refine lv_iconst (v := 1) hx hb dX4_span_40 (by decide) ?_
        refine lv_goto (tgt := 45) hx hb dX4_span_41 (by decide) ?_
        refine lv_istore (lv' := [(6, .int 1), (0, .long b0), (2, .long b1), (4, .long b2)]) hx hb dX4_span_45 hl (by decide) rfl (fun ls hl => ?_)
        refine lv_iload hx hb dX4_span_47 (lv_at hl 0 rfl) ?_
        refine lv_if_eq (tgt := 74) hx hb dX4_span_49 (by decide) (fun z => absurd z (by decide)) (fun _ => ?_)
        refine lv_iconst (v := 3) hx hb dX4_span_52 (by decide) ?_
        refine h_new3 (cz := 1) (sz := 3) X hA hK B (Nat.le_of_ble_eq_true rfl) (Nat.le_of_ble_eq_true rfl) (Nat.le_of_ble_eq_true rfl) (Nat.le_of_ble_eq_true rfl) dX4_span_53 (fun z4 H B => ?_)
        refine lv_dup hx hb dX4_span_55 rfl ?_
        refine lv_iconst (v := 0) hx hb dX4_span_56 (by decide) ?_
        refine lv_lload_n hx hb dX4_span_57 rfl (lv_at hl 1 rfl) ?_
        refine lv_l2i (v := b0.toInt32) hx hb dX4_span_58 rfl ?_
        refine h_st (t := (0, 0, 0)) (t' := (b0.toInt32, 0, 0)) X hK B (Nat.lt_succ_self _) up_eq up_eq (by unfold vp_in; decide) (rw3_s0 _ _) dX4_span_59 (fun H locs B => ?_)
        rw [bx_uu] at B
        refine lv_dup hx hb dX4_span_60 rfl ?_
        refine lv_iconst (v := 1) hx hb dX4_span_61 (by decide) ?_
        refine lv_lload_n hx hb dX4_span_62 rfl (lv_at hl 2 rfl) ?_
        refine lv_l2i (v := b1.toInt32) hx hb dX4_span_63 rfl ?_
        refine h_st (t := (b0.toInt32, 0, 0)) (t' := (b0.toInt32, b1.toInt32, 0)) X hK B (Nat.lt_succ_self _) up_eq up_eq (by unfold vp_in; decide) (rw3_s1 _ _) dX4_span_64 (fun H locs B => ?_)
        rw [bx_uu] at B
        refine lv_dup hx hb dX4_span_65 rfl ?_
        refine lv_iconst (v := 2) hx hb dX4_span_66 (by decide) ?_
        refine lv_lload hx hb dX4_span_67 (lv_at hl 3 rfl) ?_
        refine lv_l2i (v := b2.toInt32) hx hb dX4_span_69 rfl ?_
        refine h_st (t := (b0.toInt32, b1.toInt32, 0)) (t' := (b0.toInt32, b1.toInt32, b2.toInt32)) X hK B (Nat.lt_succ_self _) up_eq up_eq (by unfold vp_in; decide) (rw3_s2 _ _) dX4_span_70 (fun H locs B => ?_)
        rw [bx_uu] at B
        refine lv_goto (tgt := 75) hx hb dX4_span_71 (by decide) ?_
        have ev := (show v_X4_span b0 b1 b2 = some (b0.toInt32, b1.toInt32, b2.toInt32) from by unfold v_X4_span; rw [if_neg c1, if_neg c2, if_neg c3])
        have B : WB g (aw N ad sz) s.heap (N + 1) (va_up ad N z4) (va_up f N (c_row g (b0.toInt32, b1.toInt32, b2.toInt32))) H locs := WB_pick B (by omega) (Nat.lt_succ_self _) (fun _ hk => (up_lt hk)) (fun _ hk => (up_lt hk)) up_eq up_eq
        exact rt_r (r := some z4) rfl X hr (Or.inr ⟨_, rfl⟩) (va_up ad N z4, va_up f N (c_row g (b0.toInt32, b1.toInt32, b2.toInt32))) B (by rw [ev]; exact PO_of B) (by rw [ev]; exact pw_is) (Nat.le_of_ble_eq_true rfl) (Nat.le_of_ble_eq_true rfl) dX4_span_75
def v_X4_isSame (tj0 : TR) (tj1 : TR) : Int32 := if tj0.1 = tj1.1 then (if tj0.2.1 = tj1.2.1 then (if tj0.2.2 = tj1.2.2 then 1 else 0) else 0) else 0
theorem b01_X4_isSame {tj0 : TR} {tj1 : TR} : (v_X4_isSame tj0 tj1) = 0 ∨ (v_X4_isSame tj0 tj1) = 1 := by
  unfold v_X4_isSame
  by_cases q1 : tj0.1 = tj1.1
  · rw [if_pos q1]
    by_cases q2 : tj0.2.1 = tj1.2.1
    · rw [if_pos q2]
      by_cases q3 : tj0.2.2 = tj1.2.2
      · rw [if_pos q3]
        exact Or.inr rfl
      · rw [if_neg q3]
        exact Or.inl rfl
    · rw [if_neg q2]
      exact Or.inl rfl
  · rw [if_neg q1]
    exact Or.inl rfl
set_option maxHeartbeats 4000000 in
set_option maxRecDepth 100000 in
theorem c_X4_isSame (l : Launch) (g : GG) (N : Nat) (ad : Nat → Nat) (f : Nat → va_E) (j0 bj0 : Nat) (tj0 : TR) (hj0 : j0 < N) (hbj0 : ad j0 = bj0) (hfj0 : f j0 = c_row g tj0) (j1 bj1 : Nat) (tj1 : TR) (hj1 : j1 < N) (hbj1 : ad j1 = bj1) (hfj1 : f j1 = c_row g tj1) : KI l yX4_isSame cX4_isSame 2 (some .boolean) (rm 0 0 0) g [.ref bj0, .ref bj1] N ad f N (fun r ad' f' => ad = ad' ∧ (v_X4_isSame tj0 tj1) = r ∧ f = f') := by
  intro sz
  refine mt_start (by decide) (Nat.le_of_ble_eq_true rfl) ?_
  intro p e s m args below meth c hsz X hr hnam hA hK hT H locs B ls hl
  obtain ⟨hx, hb, hml, hown, hts, hlocks⟩ := id X
  have hl : lv_has ls 2 [(0, .ref bj0), (1, .ref bj1)] := hl
  refine lv_aload_n hx hb dX4_isSame_0 rfl (lv_at hl 0 rfl) ?_
  refine lv_iconst (v := 0) hx hb dX4_isSame_1 (by decide) ?_
  refine h_ld0 X hK B hj0 hbj0 hfj0 dX4_isSame_2 ?_
  refine lv_aload_n hx hb dX4_isSame_3 rfl (lv_at hl 1 rfl) ?_
  refine lv_iconst (v := 0) hx hb dX4_isSame_4 (by decide) ?_
  refine h_ld0 X hK B hj1 hbj1 hfj1 dX4_isSame_5 ?_
  refine lv_icmp_ne (tgt := 31) hx hb dX4_isSame_6 (by decide) (fun c1 => ?_) (fun c1 => ?_)
  · refine lv_iconst (v := 0) hx hb dX4_isSame_31 (by decide) ?_
    have ev := (show v_X4_isSame tj0 tj1 = 0 from by unfold v_X4_isSame; rw [if_neg c1])
    exact rt_i X hr (ad, f) B (PO_of B) ⟨rfl, ev, rfl⟩ rfl (Nat.le_of_ble_eq_true rfl) (Nat.le_of_ble_eq_true rfl) dX4_isSame_32
  · refine lv_aload_n hx hb dX4_isSame_9 rfl (lv_at hl 0 rfl) ?_
    refine lv_iconst (v := 1) hx hb dX4_isSame_10 (by decide) ?_
    refine h_ld1 X hK B hj0 hbj0 hfj0 dX4_isSame_11 ?_
    refine lv_aload_n hx hb dX4_isSame_12 rfl (lv_at hl 1 rfl) ?_
    refine lv_iconst (v := 1) hx hb dX4_isSame_13 (by decide) ?_
    refine h_ld1 X hK B hj1 hbj1 hfj1 dX4_isSame_14 ?_
    refine lv_icmp_ne (tgt := 31) hx hb dX4_isSame_15 (by decide) (fun c2 => ?_) (fun c2 => ?_)
    · refine lv_iconst (v := 0) hx hb dX4_isSame_31 (by decide) ?_
      have ev := (show v_X4_isSame tj0 tj1 = 0 from by unfold v_X4_isSame; rw [if_pos c1, if_neg c2])
      exact rt_i X hr (ad, f) B (PO_of B) ⟨rfl, ev, rfl⟩ rfl (Nat.le_of_ble_eq_true rfl) (Nat.le_of_ble_eq_true rfl) dX4_isSame_32
    · refine lv_aload_n hx hb dX4_isSame_18 rfl (lv_at hl 0 rfl) ?_
      refine lv_iconst (v := 2) hx hb dX4_isSame_19 (by decide) ?_
      refine h_ld2 X hK B hj0 hbj0 hfj0 dX4_isSame_20 ?_
      refine lv_aload_n hx hb dX4_isSame_21 rfl (lv_at hl 1 rfl) ?_
      refine lv_iconst (v := 2) hx hb dX4_isSame_22 (by decide) ?_
      refine h_ld2 X hK B hj1 hbj1 hfj1 dX4_isSame_23 ?_
      refine lv_icmp_ne (tgt := 31) hx hb dX4_isSame_24 (by decide) (fun c3 => ?_) (fun c3 => ?_)
      · refine lv_iconst (v := 0) hx hb dX4_isSame_31 (by decide) ?_
        have ev := (show v_X4_isSame tj0 tj1 = 0 from by unfold v_X4_isSame; rw [if_pos c1, if_pos c2, if_neg c3])
        exact rt_i X hr (ad, f) B (PO_of B) ⟨rfl, ev, rfl⟩ rfl (Nat.le_of_ble_eq_true rfl) (Nat.le_of_ble_eq_true rfl) dX4_isSame_32
      · refine lv_iconst (v := 1) hx hb dX4_isSame_27 (by decide) ?_
        refine lv_goto (tgt := 32) hx hb dX4_isSame_28 (by decide) ?_
        have ev := (show v_X4_isSame tj0 tj1 = 1 from by unfold v_X4_isSame; rw [if_pos c1, if_pos c2, if_pos c3])
        exact rt_i X hr (ad, f) B (PO_of B) ⟨rfl, ev, rfl⟩ rfl (Nat.le_of_ble_eq_true rfl) (Nat.le_of_ble_eq_true rfl) dX4_isSame_32
def v_X4_total (tj0 : TR) : Int64 := (12 * tj0.1.toInt64) + tj0.2.1.toInt64
set_option maxHeartbeats 4000000 in
set_option maxRecDepth 100000 in
theorem c_X4_total (l : Launch) (g : GG) (N : Nat) (ad : Nat → Nat) (f : Nat → va_E) (j0 bj0 : Nat) (tj0 : TR) (hj0 : j0 < N) (hbj0 : ad j0 = bj0) (hfj0 : f j0 = c_row g tj0) : KL l yX4_total cX4_total 1 (rm 0 0 0) g [.ref bj0] N ad f N (fun r ad' f' => ad = ad' ∧ (v_X4_total tj0) = r ∧ f = f') := by
  intro sz
  refine mt_start (by decide) (Nat.le_of_ble_eq_true rfl) ?_
  intro p e s m args below meth c hsz X hr hnam hA hK hT H locs B ls hl
  obtain ⟨hx, hb, hml, hown, hts, hlocks⟩ := id X
  have hl : lv_has ls 1 [(0, .ref bj0)] := hl
  refine lv_ldc2 hx hb hown (hts _ (List.mem_cons_of_mem _ lk_X4_41)) dX4_total_0 ?_
  refine lv_aload_n hx hb dX4_total_3 rfl (lv_at hl 0 rfl) ?_
  refine lv_iconst (v := 0) hx hb dX4_total_4 (by decide) ?_
  refine h_ld0 X hK B hj0 hbj0 hfj0 dX4_total_5 ?_
  refine lv_i2l (v := tj0.1.toInt64) hx hb dX4_total_6 rfl ?_
  refine lv_lmul hx hb dX4_total_7 ?_
  refine lv_aload_n hx hb dX4_total_8 rfl (lv_at hl 0 rfl) ?_
  refine lv_iconst (v := 1) hx hb dX4_total_9 (by decide) ?_
  refine h_ld1 X hK B hj0 hbj0 hfj0 dX4_total_10 ?_
  refine lv_i2l (v := tj0.2.1.toInt64) hx hb dX4_total_11 rfl ?_
  refine lv_ladd hx hb dX4_total_12 ?_
  have ev := (show v_X4_total tj0 = (12 * tj0.1.toInt64) + tj0.2.1.toInt64 from rfl)
  exact rt_l X hr (ad, f) B (PO_of B) ⟨rfl, ev, rfl⟩ (Nat.le_of_ble_eq_true rfl) (Nat.le_of_ble_eq_true rfl) dX4_total_13
def v_X4_isAlike (tj0 : TR) (tj1 : TR) : Int32 := if (lg_cmp (v_X4_total tj0) (v_X4_total tj1)) = 0 then (if tj0.2.2 = tj1.2.2 then 1 else 0) else 0
theorem b01_X4_isAlike {tj0 : TR} {tj1 : TR} : (v_X4_isAlike tj0 tj1) = 0 ∨ (v_X4_isAlike tj0 tj1) = 1 := by
  unfold v_X4_isAlike
  by_cases q1 : (lg_cmp (v_X4_total tj0) (v_X4_total tj1)) = 0
  · rw [if_pos q1]
    by_cases q2 : tj0.2.2 = tj1.2.2
    · rw [if_pos q2]
      exact Or.inr rfl
    · rw [if_neg q2]
      exact Or.inl rfl
  · rw [if_neg q1]
    exact Or.inl rfl
set_option maxHeartbeats 4000000 in
set_option maxRecDepth 100000 in
theorem c_X4_isAlike (l : Launch) (g : GG) (N : Nat) (ad : Nat → Nat) (f : Nat → va_E) (j0 bj0 : Nat) (tj0 : TR) (hj0 : j0 < N) (hbj0 : ad j0 = bj0) (hfj0 : f j0 = c_row g tj0) (j1 bj1 : Nat) (tj1 : TR) (hj1 : j1 < N) (hbj1 : ad j1 = bj1) (hfj1 : f j1 = c_row g tj1) : KI l yX4_isAlike cX4_isAlike 2 (some .boolean) (rm 1 0 0) g [.ref bj0, .ref bj1] N ad f N (fun r ad' f' => ad = ad' ∧ (v_X4_isAlike tj0 tj1) = r ∧ f = f') := by
  intro sz
  refine mt_start (by decide) (Nat.le_of_ble_eq_true rfl) ?_
  intro p e s m args below meth c hsz X hr hnam hA hK hT H locs B ls hl
  obtain ⟨hx, hb, hml, hown, hts, hlocks⟩ := id X
  have hl : lv_has ls 2 [(0, .ref bj0), (1, .ref bj1)] := hl
  refine lv_aload_n hx hb dX4_isAlike_0 rfl (lv_at hl 0 rfl) ?_
  refine k_l (k := 0) (n := 0) hA B (u_S (rest := []) X (c_X4_total l g N ad f j0 bj0 tj0 hj0 hbj0 hfj0 H.size) mw_X4_total md_X4_total rfl lk_X4_43 ⟨Nat.le_of_ble_eq_true rfl, Nat.le_of_ble_eq_true rfl⟩ hA hK hT B hl.1 rfl (Nat.le_of_ble_eq_true rfl) dX4_isAlike_1 ⟨Nat.le_of_ble_eq_true rfl, Nat.le_of_ble_eq_true rfl⟩) (Nat.le_of_ble_eq_true rfl) (Nat.le_of_ble_eq_true rfl) (fun r ad' f' H locs hw B => ?_)
  obtain ⟨rfl, rfl, rfl⟩ := hw
  refine lv_aload_n hx hb dX4_isAlike_4 rfl (lv_at hl 1 rfl) ?_
  refine k_l (k := 0) (n := 0) hA B (u_S (rest := [.long (v_X4_total tj0)]) X (c_X4_total l g N ad f j1 bj1 tj1 hj1 hbj1 hfj1 H.size) mw_X4_total md_X4_total rfl lk_X4_43 ⟨Nat.le_of_ble_eq_true rfl, Nat.le_of_ble_eq_true rfl⟩ hA hK hT B hl.1 rfl (Nat.le_of_ble_eq_true rfl) dX4_isAlike_5 ⟨Nat.le_of_ble_eq_true rfl, Nat.le_of_ble_eq_true rfl⟩) (Nat.le_of_ble_eq_true rfl) (Nat.le_of_ble_eq_true rfl) (fun r ad' f' H locs hw B => ?_)
  obtain ⟨rfl, rfl, rfl⟩ := hw
  refine W.lcmp hx hb dX4_isAlike_8 ?_
  refine lv_if_ne (tgt := 25) hx hb dX4_isAlike_9 (by decide) (fun c1 => ?_) (fun c1 => ?_)
  · refine lv_iconst (v := 0) hx hb dX4_isAlike_25 (by decide) ?_
    have ev := (show v_X4_isAlike tj0 tj1 = 0 from by unfold v_X4_isAlike; rw [if_neg c1])
    exact rt_i X hr (ad, f) B (PO_of B) ⟨rfl, ev, rfl⟩ rfl (Nat.le_of_ble_eq_true rfl) (Nat.le_of_ble_eq_true rfl) dX4_isAlike_26
  · refine lv_aload_n hx hb dX4_isAlike_12 rfl (lv_at hl 0 rfl) ?_
    refine lv_iconst (v := 2) hx hb dX4_isAlike_13 (by decide) ?_
    refine h_ld2 X hK B hj0 hbj0 hfj0 dX4_isAlike_14 ?_
    refine lv_aload_n hx hb dX4_isAlike_15 rfl (lv_at hl 1 rfl) ?_
    refine lv_iconst (v := 2) hx hb dX4_isAlike_16 (by decide) ?_
    refine h_ld2 X hK B hj1 hbj1 hfj1 dX4_isAlike_17 ?_
    refine lv_icmp_ne (tgt := 25) hx hb dX4_isAlike_18 (by decide) (fun c2 => ?_) (fun c2 => ?_)
    · refine lv_iconst (v := 0) hx hb dX4_isAlike_25 (by decide) ?_
      have ev := (show v_X4_isAlike tj0 tj1 = 0 from by unfold v_X4_isAlike; rw [if_pos c1, if_neg c2])
      exact rt_i X hr (ad, f) B (PO_of B) ⟨rfl, ev, rfl⟩ rfl (Nat.le_of_ble_eq_true rfl) (Nat.le_of_ble_eq_true rfl) dX4_isAlike_26
    · refine lv_iconst (v := 1) hx hb dX4_isAlike_21 (by decide) ?_
      refine lv_goto (tgt := 26) hx hb dX4_isAlike_22 (by decide) ?_
      have ev := (show v_X4_isAlike tj0 tj1 = 1 from by unfold v_X4_isAlike; rw [if_pos c1, if_pos c2])
      exact rt_i X hr (ad, f) B (PO_of B) ⟨rfl, ev, rfl⟩ rfl (Nat.le_of_ble_eq_true rfl) (Nat.le_of_ble_eq_true rfl) dX4_isAlike_26
def v_X4_sum (tj0 : TR) (b1 : Int64) (tj2 : TR) : Option TR := om (v_X4_span (tj0.1.toInt64 + (b1 * tj2.1.toInt64)) (tj0.2.1.toInt64 + (b1 * tj2.2.1.toInt64)) (tj0.2.2.toInt64 + (b1 * tj2.2.2.toInt64))) none (fun t1 => some t1)
set_option maxHeartbeats 4000000 in
set_option maxRecDepth 100000 in
theorem c_X4_sum (l : Launch) (g : GG) (N : Nat) (ad : Nat → Nat) (f : Nat → va_E) (j0 bj0 : Nat) (tj0 : TR) (hj0 : j0 < N) (hbj0 : ad j0 = bj0) (hfj0 : f j0 = c_row g tj0) (b1 : Int64) (j2 bj2 : Nat) (tj2 : TR) (hj2 : j2 < N) (hbj2 : ad j2 = bj2) (hfj2 : f j2 = c_row g tj2) : KR l yX4_sum cX4_sum 4 (.array .int) (rm 2 1 3) g [.ref bj0, .long b1, .ref bj2] N ad f (N + nz (v_X4_sum tj0 b1 tj2)) (fun r ad' f' => pw g (v_X4_sum tj0 b1 tj2) N ad f r ad' f') := by
  intro sz
  refine mt_start (by decide) (Nat.le_of_ble_eq_true rfl) ?_
  intro p e s m args below meth c hsz X hr hnam hA hK hT H locs B ls hl
  obtain ⟨hx, hb, hml, hown, hts, hlocks⟩ := id X
  have hl : lv_has ls 4 [(0, .ref bj0), (1, .long b1), (3, .ref bj2)] := hl
  refine lv_aload_n hx hb dX4_sum_0 rfl (lv_at hl 0 rfl) ?_
  refine lv_iconst (v := 0) hx hb dX4_sum_1 (by decide) ?_
  refine h_ld0 X hK B hj0 hbj0 hfj0 dX4_sum_2 ?_
  refine lv_i2l (v := tj0.1.toInt64) hx hb dX4_sum_3 rfl ?_
  refine lv_lload_n hx hb dX4_sum_4 rfl (lv_at hl 1 rfl) ?_
  refine lv_aload_n hx hb dX4_sum_5 rfl (lv_at hl 2 rfl) ?_
  refine lv_iconst (v := 0) hx hb dX4_sum_6 (by decide) ?_
  refine h_ld0 X hK B hj2 hbj2 hfj2 dX4_sum_7 ?_
  refine lv_i2l (v := tj2.1.toInt64) hx hb dX4_sum_8 rfl ?_
  refine lv_lmul hx hb dX4_sum_9 ?_
  refine lv_ladd hx hb dX4_sum_10 ?_
  refine lv_aload_n hx hb dX4_sum_11 rfl (lv_at hl 0 rfl) ?_
  refine lv_iconst (v := 1) hx hb dX4_sum_12 (by decide) ?_
  refine h_ld1 X hK B hj0 hbj0 hfj0 dX4_sum_13 ?_
  refine lv_i2l (v := tj0.2.1.toInt64) hx hb dX4_sum_14 rfl ?_
  refine lv_lload_n hx hb dX4_sum_15 rfl (lv_at hl 1 rfl) ?_
  refine lv_aload_n hx hb dX4_sum_16 rfl (lv_at hl 2 rfl) ?_
  refine lv_iconst (v := 1) hx hb dX4_sum_17 (by decide) ?_
  refine h_ld1 X hK B hj2 hbj2 hfj2 dX4_sum_18 ?_
  refine lv_i2l (v := tj2.2.1.toInt64) hx hb dX4_sum_19 rfl ?_
  refine lv_lmul hx hb dX4_sum_20 ?_
  refine lv_ladd hx hb dX4_sum_21 ?_
  refine lv_aload_n hx hb dX4_sum_22 rfl (lv_at hl 0 rfl) ?_
  refine lv_iconst (v := 2) hx hb dX4_sum_23 (by decide) ?_
  refine h_ld2 X hK B hj0 hbj0 hfj0 dX4_sum_24 ?_
  refine lv_i2l (v := tj0.2.2.toInt64) hx hb dX4_sum_25 rfl ?_
  refine lv_lload_n hx hb dX4_sum_26 rfl (lv_at hl 1 rfl) ?_
  refine lv_aload_n hx hb dX4_sum_27 rfl (lv_at hl 2 rfl) ?_
  refine lv_iconst (v := 2) hx hb dX4_sum_28 (by decide) ?_
  refine h_ld2 X hK B hj2 hbj2 hfj2 dX4_sum_29 ?_
  refine lv_i2l (v := tj2.2.2.toInt64) hx hb dX4_sum_30 rfl ?_
  refine lv_lmul hx hb dX4_sum_31 ?_
  refine lv_ladd hx hb dX4_sum_32 ?_
  refine k_r (k := 1) (n := 3) hA B (u_S (rest := []) X (c_X4_span l g N ad f (tj0.1.toInt64 + (b1 * tj2.1.toInt64)) (tj0.2.1.toInt64 + (b1 * tj2.2.1.toInt64)) (tj0.2.2.toInt64 + (b1 * tj2.2.2.toInt64)) H.size) mw_X4_span md_X4_span rfl lk_X4_47 ⟨Nat.le_of_ble_eq_true rfl, Nat.le_of_ble_eq_true rfl⟩ hA hK hT B hl.1 rfl (Nat.le_of_ble_eq_true rfl) dX4_sum_33 ⟨Nat.le_of_ble_eq_true rfl, Nat.le_of_ble_eq_true rfl⟩) (Nat.le_of_ble_eq_true rfl) (Nat.le_of_ble_eq_true rfl) (fun r ad' f' H locs hw B => ?_)
  generalize o1 : (v_X4_span (tj0.1.toInt64 + (b1 * tj2.1.toInt64)) (tj0.2.1.toInt64 + (b1 * tj2.2.1.toInt64)) (tj0.2.2.toInt64 + (b1 * tj2.2.2.toInt64))) = v9 at hw B
  cases v9 with
  | none =>
    obtain ⟨rfl, rfl, rfl⟩ := pw_n hw
    have ev := (show v_X4_sum tj0 b1 tj2 = none from by unfold v_X4_sum; rw [om_none o1])
    exact rt_r (r := none) rfl X hr (Or.inr ⟨_, rfl⟩) (ad, f) B (by rw [ev]; exact PO_of B) (by rw [ev]; exact pw_in) (Nat.le_of_ble_eq_true rfl) (Nat.le_of_ble_eq_true rfl) dX4_sum_36
  | some t1 =>
    obtain ⟨z1, rfl, rfl, rfl⟩ := pw_s hw
    have ev := (show v_X4_sum tj0 b1 tj2 = some t1 from by unfold v_X4_sum; rw [om_some o1])
    have B : WB g (aw N ad sz) s.heap (N + 1) (va_up ad N z1) (va_up f N (c_row g t1)) H locs := WB_pick B (by omega) (Nat.lt_succ_self _) (fun _ hk => (up_lt hk)) (fun _ hk => (up_lt hk)) up_eq up_eq
    exact rt_r (r := some z1) rfl X hr (Or.inr ⟨_, rfl⟩) (va_up ad N z1, va_up f N (c_row g t1)) B (by rw [ev]; exact PO_of B) (by rw [ev]; exact pw_is) (Nat.le_of_ble_eq_true rfl) (Nat.le_of_ble_eq_true rfl) dX4_sum_36
def v_X4_tidied (tj0 : TR) : Option TR := om (v_X4_span ((v_X4_total tj0) / 12) ((v_X4_total tj0) - (v_X4_total tj0) / 12 * 12) tj0.2.2.toInt64) none (fun t1 => some t1)
set_option maxHeartbeats 4000000 in
set_option maxRecDepth 100000 in
theorem c_X4_tidied (l : Launch) (g : GG) (N : Nat) (ad : Nat → Nat) (f : Nat → va_E) (j0 bj0 : Nat) (tj0 : TR) (hj0 : j0 < N) (hbj0 : ad j0 = bj0) (hfj0 : f j0 = c_row g tj0) : KR l yX4_tidied cX4_tidied 1 (.array .int) (rm 2 1 3) g [.ref bj0] N ad f (N + nz (v_X4_tidied tj0)) (fun r ad' f' => pw g (v_X4_tidied tj0) N ad f r ad' f') := by
  intro sz
  refine mt_start (by decide) (Nat.le_of_ble_eq_true rfl) ?_
  intro p e s m args below meth c hsz X hr hnam hA hK hT H locs B ls hl
  obtain ⟨hx, hb, hml, hown, hts, hlocks⟩ := id X
  have hl : lv_has ls 1 [(0, .ref bj0)] := hl
  refine lv_aload_n hx hb dX4_tidied_0 rfl (lv_at hl 0 rfl) ?_
  refine k_l (k := 0) (n := 0) hA B (u_S (rest := []) X (c_X4_total l g N ad f j0 bj0 tj0 hj0 hbj0 hfj0 H.size) mw_X4_total md_X4_total rfl lk_X4_43 ⟨Nat.le_of_ble_eq_true rfl, Nat.le_of_ble_eq_true rfl⟩ hA hK hT B hl.1 rfl (Nat.le_of_ble_eq_true rfl) dX4_tidied_1 ⟨Nat.le_of_ble_eq_true rfl, Nat.le_of_ble_eq_true rfl⟩) (Nat.le_of_ble_eq_true rfl) (Nat.le_of_ble_eq_true rfl) (fun r ad' f' H locs hw B => ?_)
  obtain ⟨rfl, rfl, rfl⟩ := hw
  refine lv_ldc2 hx hb hown (hts _ (List.mem_cons_of_mem _ lk_X4_41)) dX4_tidied_4 ?_
  refine lv_ldiv hx hb dX4_tidied_7 (by decide) ?_
  refine lv_aload_n hx hb dX4_tidied_8 rfl (lv_at hl 0 rfl) ?_
  refine k_l (k := 0) (n := 0) hA B (u_S (rest := [.long ((v_X4_total tj0) / 12)]) X (c_X4_total l g N ad f j0 bj0 tj0 hj0 hbj0 hfj0 H.size) mw_X4_total md_X4_total rfl lk_X4_43 ⟨Nat.le_of_ble_eq_true rfl, Nat.le_of_ble_eq_true rfl⟩ hA hK hT B hl.1 rfl (Nat.le_of_ble_eq_true rfl) dX4_tidied_9 ⟨Nat.le_of_ble_eq_true rfl, Nat.le_of_ble_eq_true rfl⟩) (Nat.le_of_ble_eq_true rfl) (Nat.le_of_ble_eq_true rfl) (fun r ad' f' H locs hw B => ?_)
  obtain ⟨rfl, rfl, rfl⟩ := hw
  refine lv_ldc2 hx hb hown (hts _ (List.mem_cons_of_mem _ lk_X4_41)) dX4_tidied_12 ?_
  refine lv_lrem hx hb dX4_tidied_15 (by decide) ?_
  refine lv_aload_n hx hb dX4_tidied_16 rfl (lv_at hl 0 rfl) ?_
  refine lv_iconst (v := 2) hx hb dX4_tidied_17 (by decide) ?_
  refine h_ld2 X hK B hj0 hbj0 hfj0 dX4_tidied_18 ?_
  refine lv_i2l (v := tj0.2.2.toInt64) hx hb dX4_tidied_19 rfl ?_
  refine k_r (k := 1) (n := 3) hA B (u_S (rest := []) X (c_X4_span l g N ad f ((v_X4_total tj0) / 12) ((v_X4_total tj0) - (v_X4_total tj0) / 12 * 12) tj0.2.2.toInt64 H.size) mw_X4_span md_X4_span rfl lk_X4_47 ⟨Nat.le_of_ble_eq_true rfl, Nat.le_of_ble_eq_true rfl⟩ hA hK hT B hl.1 rfl (Nat.le_of_ble_eq_true rfl) dX4_tidied_20 ⟨Nat.le_of_ble_eq_true rfl, Nat.le_of_ble_eq_true rfl⟩) (Nat.le_of_ble_eq_true rfl) (Nat.le_of_ble_eq_true rfl) (fun r ad' f' H locs hw B => ?_)
  generalize o1 : (v_X4_span ((v_X4_total tj0) / 12) ((v_X4_total tj0) - (v_X4_total tj0) / 12 * 12) tj0.2.2.toInt64) = v9 at hw B
  cases v9 with
  | none =>
    obtain ⟨rfl, rfl, rfl⟩ := pw_n hw
    have ev := (show v_X4_tidied tj0 = none from by unfold v_X4_tidied; rw [om_none o1])
    exact rt_r (r := none) rfl X hr (Or.inr ⟨_, rfl⟩) (ad, f) B (by rw [ev]; exact PO_of B) (by rw [ev]; exact pw_in) (Nat.le_of_ble_eq_true rfl) (Nat.le_of_ble_eq_true rfl) dX4_tidied_23
  | some t1 =>
    obtain ⟨z1, rfl, rfl, rfl⟩ := pw_s hw
    have ev := (show v_X4_tidied tj0 = some t1 from by unfold v_X4_tidied; rw [om_some o1])
    have B : WB g (aw N ad sz) s.heap (N + 1) (va_up ad N z1) (va_up f N (c_row g t1)) H locs := WB_pick B (by omega) (Nat.lt_succ_self _) (fun _ hk => (up_lt hk)) (fun _ hk => (up_lt hk)) up_eq up_eq
    exact rt_r (r := some z1) rfl X hr (Or.inr ⟨_, rfl⟩) (va_up ad N z1, va_up f N (c_row g t1)) B (by rw [ev]; exact PO_of B) (by rw [ev]; exact pw_is) (Nat.le_of_ble_eq_true rfl) (Nat.le_of_ble_eq_true rfl) dX4_tidied_23
def v_X4_nothing : TR := (0, 0, 0)
set_option maxHeartbeats 4000000 in
set_option maxRecDepth 100000 in
theorem c_X4_nothing (l : Launch) (g : GG) (N : Nat) (ad : Nat → Nat) (f : Nat → va_E) : KR l yX4_nothing cX4_nothing 0 (.array .int) (rm 0 1 3) g [] N ad f (N + 1) (fun r ad' f' => ∃ a : Nat, some a = r ∧ va_up ad N a = ad' ∧ va_up f N (c_row g v_X4_nothing) = f') := by
  intro sz
  refine mt_start (by decide) (Nat.le_of_ble_eq_true rfl) ?_
  intro p e s m args below meth c hsz X hr hnam hA hK hT H locs B ls hl
  obtain ⟨hx, hb, hml, hown, hts, hlocks⟩ := id X
  have hl : lv_has ls 0 [] := hl
  refine lv_iconst (v := 3) hx hb dX4_nothing_0 (by decide) ?_
  refine h_new3 (cz := 1) (sz := 3) X hA hK B (Nat.le_of_ble_eq_true rfl) (Nat.le_of_ble_eq_true rfl) (Nat.le_of_ble_eq_true rfl) (Nat.le_of_ble_eq_true rfl) dX4_nothing_1 (fun z1 H B => ?_)
  have ev := (show v_X4_nothing = (0, 0, 0) from rfl)
  have B : WB g (aw N ad sz) s.heap (N + 1) (va_up ad N z1) (va_up f N (c_row g (0, 0, 0))) H locs := WB_pick B (by omega) (Nat.lt_succ_self _) (fun _ hk => (up_lt hk)) (fun _ hk => (up_lt hk)) up_eq up_eq
  exact rt_r (r := some z1) rfl X hr (Or.inr ⟨_, rfl⟩) (va_up ad N z1, va_up f N (c_row g (0, 0, 0))) B (PO_of B) ⟨_, rfl, rfl, by rw [ev]⟩ (Nat.le_of_ble_eq_true rfl) (Nat.le_of_ble_eq_true rfl) dX4_nothing_3
def v_X4_opposed (tj0 : TR) : Option TR := om (v_X4_sum (v_X4_nothing) (-1) tj0) none (fun t2 => some t2)
set_option maxHeartbeats 4000000 in
set_option maxRecDepth 100000 in
theorem c_X4_opposed (l : Launch) (g : GG) (N : Nat) (ad : Nat → Nat) (f : Nat → va_E) (j0 bj0 : Nat) (tj0 : TR) (hj0 : j0 < N) (hbj0 : ad j0 = bj0) (hfj0 : f j0 = c_row g tj0) : KR l yX4_opposed cX4_opposed 1 (.array .int) (rm 3 2 6) g [.ref bj0] N ad f (N + nz (v_X4_opposed tj0)) (fun r ad' f' => pw g (v_X4_opposed tj0) N ad f r ad' f') := by
  intro sz
  refine mt_start (by decide) (Nat.le_of_ble_eq_true rfl) ?_
  intro p e s m args below meth c hsz X hr hnam hA hK hT H locs B ls hl
  obtain ⟨hx, hb, hml, hown, hts, hlocks⟩ := id X
  have hl : lv_has ls 1 [(0, .ref bj0)] := hl
  refine k_r (k := 1) (n := 3) hA B (u_S (rest := []) X (c_X4_nothing l g N ad f H.size) mw_X4_nothing md_X4_nothing rfl lk_X4_51 ⟨Nat.le_of_ble_eq_true rfl, Nat.le_of_ble_eq_true rfl⟩ hA hK hT B hl.1 rfl (Nat.le_of_ble_eq_true rfl) dX4_opposed_0 ⟨Nat.le_of_ble_eq_true rfl, Nat.le_of_ble_eq_true rfl⟩) (Nat.le_of_ble_eq_true rfl) (Nat.le_of_ble_eq_true rfl) (fun r ad' f' H locs hw B => ?_)
  obtain ⟨z1, rfl, rfl, rfl⟩ := hw
  refine lv_ldc2 hx hb hown (hts _ (List.mem_cons_of_mem _ lk_X4_55)) dX4_opposed_3 ?_
  refine lv_aload_n hx hb dX4_opposed_6 rfl (lv_at hl 0 rfl) ?_
  refine k_r (k := 2) (n := 6) hA B (u_S (rest := []) X (c_X4_sum l g (N + 1) (va_up ad N z1) (va_up f N (c_row g (v_X4_nothing))) N z1 (v_X4_nothing) (Nat.lt_succ_self _) up_eq up_eq (-1) j0 bj0 tj0 (Nat.lt_succ_of_lt hj0) ((up_lt hj0).trans hbj0) ((up_lt hj0).trans hfj0) H.size) mw_X4_sum md_X4_sum rfl lk_X4_57 ⟨Nat.le_of_ble_eq_true rfl, Nat.le_of_ble_eq_true rfl⟩ hA hK hT B hl.1 rfl (Nat.le_of_ble_eq_true rfl) dX4_opposed_7 ⟨Nat.le_of_ble_eq_true rfl, Nat.le_of_ble_eq_true rfl⟩) (Nat.le_of_ble_eq_true rfl) (Nat.le_of_ble_eq_true rfl) (fun r ad' f' H locs hw B => ?_)
  generalize o2 : (v_X4_sum (v_X4_nothing) (-1) tj0) = v9 at hw B
  cases v9 with
  | none =>
    obtain ⟨rfl, rfl, rfl⟩ := pw_n hw
    have ev := (show v_X4_opposed tj0 = none from by unfold v_X4_opposed; rw [om_none o2])
    have B : WB g (aw N ad sz) s.heap N ad f H locs := B.drop (by omega) (fun _ hk => (up_lt hk)) (fun _ hk => (up_lt hk))
    exact rt_r (r := none) rfl X hr (Or.inr ⟨_, rfl⟩) (ad, f) B (by rw [ev]; exact PO_of B) (by rw [ev]; exact pw_in) (Nat.le_of_ble_eq_true rfl) (Nat.le_of_ble_eq_true rfl) dX4_opposed_10
  | some t2 =>
    obtain ⟨z2, rfl, rfl, rfl⟩ := pw_s hw
    have ev := (show v_X4_opposed tj0 = some t2 from by unfold v_X4_opposed; rw [om_some o2])
    have B : WB g (aw N ad sz) s.heap (N + 1) (va_up ad N z2) (va_up f N (c_row g t2)) H locs := WB_pick B (by omega) (Nat.lt_succ_self _) (fun _ hk => ((up_lt (Nat.lt_succ_of_lt hk)).trans (up_lt hk))) (fun _ hk => ((up_lt (Nat.lt_succ_of_lt hk)).trans (up_lt hk))) up_eq up_eq
    exact rt_r (r := some z2) rfl X hr (Or.inr ⟨_, rfl⟩) (va_up ad N z2, va_up f N (c_row g t2)) B (by rw [ev]; exact PO_of B) (by rw [ev]; exact pw_is) (Nat.le_of_ble_eq_true rfl) (Nat.le_of_ble_eq_true rfl) dX4_opposed_10
def wX4_daysTo_6 (a0 : Int32) : Nat → Int32 → Int32 → Int32
  | 0, yy, ds => 0
  | n + 1, yy, ds => if a0 ≤ yy then ds else (wX4_daysTo_6 a0 n (yy + 1) (ds + (365 + (v_X4_one (v_X4_isLong yy)))))
def v_X4_daysTo (a0 : Int32) : Int32 := wX4_daysTo_6 a0 ((a0.toInt - (1600 : Int32).toInt).toNat + 1) 1600 0
set_option maxHeartbeats 4000000 in
set_option maxRecDepth 100000 in
theorem c_X4_daysTo (l : Launch) (g : GG) (N : Nat) (ad : Nat → Nat) (f : Nat → va_E) (a0 : Int32) : KI l yX4_daysTo cX4_daysTo 3 (some .int) (rm 1 0 0) g [.int a0] N ad f N (fun r ad' f' => ad = ad' ∧ (v_X4_daysTo a0) = r ∧ f = f') := by
  intro sz
  refine mt_start (by decide) (Nat.le_of_ble_eq_true rfl) ?_
  intro p e s m args below meth c hsz X hr hnam hA hK hT H locs B ls hl
  obtain ⟨hx, hb, hml, hown, hts, hlocks⟩ := id X
  have hl : lv_has ls 3 [(0, .int a0)] := hl
  refine lv_iconst (v := 0) hx hb dX4_daysTo_0 (by decide) ?_
  refine lv_istore_n (lv' := [(1, .int 0), (0, .int a0)]) hx hb dX4_daysTo_1 rfl hl (by decide) rfl (fun ls hl => ?_)
  refine lv_sipush (v := 1600) hx hb dX4_daysTo_2 (by decide) ?_
  refine lv_istore_n (lv' := [(2, .int 1600), (1, .int 0), (0, .int a0)]) hx hb dX4_daysTo_5 rfl hl (by decide) rfl (fun ls hl => ?_)
  have loop1 : ∀ (n1 : Nat) (yy : Int32) (ds : Int32) (H : Heap) (locs : List Loc), (a0.toInt - yy.toInt).toNat < n1 → v_X4_daysTo a0 = wX4_daysTo_6 a0 n1 yy ds → WB g (aw N ad sz) s.heap N ad f H locs → ∀ ls : Array Slot, lv_has ls 3 [(2, .int yy), (1, .int ds), (0, .int a0)] → W p l e (rm 1 0 0) s m args below meth c H locs 0 0 (MQ below (va_Qi (fun r (u : WS) => (fun r ad' f' => ad = ad' ∧ (v_X4_daysTo a0) = r ∧ f = f') r u.1 u.2) (fun u t => PO g N u.1 u.2 (aw N ad sz) t) (aw N ad sz)) args s (rm 1 0 0).cells (rm 1 0 0).slots (aw N ad sz)) (F0 m 6 ls []) := by
    intro n1
    induction n1 with
    | zero => intro yy ds H locs hn; exact absurd hn (Nat.not_lt_zero _)
    | succ n1 ih1 =>
      intro yy ds H locs hn1 he1 B ls hl
      refine lv_iload_n hx hb dX4_daysTo_6 rfl (lv_at hl 0 rfl) ?_
      refine lv_iload_n hx hb dX4_daysTo_7 rfl (lv_at hl 2 rfl) ?_
      refine lv_icmp_ge (tgt := 31) hx hb dX4_daysTo_8 (by decide) (fun c2 => ?_) (fun c2 => ?_)
      · refine lv_iload_n hx hb dX4_daysTo_31 rfl (lv_at hl 1 rfl) ?_
        have ev := (show v_X4_daysTo a0 = ds from he1.trans (by rw [wX4_daysTo_6, if_pos c2]))
        exact rt_i X hr (ad, f) B (PO_of B) ⟨rfl, ev, rfl⟩ rfl (Nat.le_of_ble_eq_true rfl) (Nat.le_of_ble_eq_true rfl) dX4_daysTo_32
      · refine lv_iload_n hx hb dX4_daysTo_11 rfl (lv_at hl 1 rfl) ?_
        refine lv_sipush (v := 365) hx hb dX4_daysTo_12 (by decide) ?_
        refine lv_iload_n hx hb dX4_daysTo_15 rfl (lv_at hl 0 rfl) ?_
        refine k_i (k := 0) (n := 0) hA B (u_S (rest := [.int 365, .int ds]) X (c_X4_isLong l g N ad f yy H.size) mw_X4_isLong md_X4_isLong rfl lk_X4_174 ⟨Nat.le_of_ble_eq_true rfl, Nat.le_of_ble_eq_true rfl⟩ hA hK hT B hl.1 rfl (Nat.le_of_ble_eq_true rfl) dX4_daysTo_16 ⟨Nat.le_of_ble_eq_true rfl, Nat.le_of_ble_eq_true rfl⟩) (Nat.le_of_ble_eq_true rfl) (Nat.le_of_ble_eq_true rfl) (fun r ad' f' H locs hw B => ?_)
        obtain ⟨rfl, rfl, rfl⟩ := hw
        refine k_i (k := 0) (n := 0) hA B (u_S (rest := [.int 365, .int ds]) X (c_X4_one l g N ad f (v_X4_isLong yy) H.size) mw_X4_one md_X4_one rfl lk_X4_91 ⟨Nat.le_of_ble_eq_true rfl, Nat.le_of_ble_eq_true rfl⟩ hA hK hT B hl.1 rfl (Nat.le_of_ble_eq_true rfl) dX4_daysTo_19 ⟨Nat.le_of_ble_eq_true rfl, Nat.le_of_ble_eq_true rfl⟩) (Nat.le_of_ble_eq_true rfl) (Nat.le_of_ble_eq_true rfl) (fun r ad' f' H locs hw B => ?_)
        obtain ⟨rfl, rfl, rfl⟩ := hw
        refine lv_iadd hx hb dX4_daysTo_22 ?_
        refine lv_iadd hx hb dX4_daysTo_23 ?_
        refine lv_istore_n (lv' := [(1, .int (ds + (365 + (v_X4_one (v_X4_isLong yy))))), (2, .int yy), (0, .int a0)]) hx hb dX4_daysTo_24 rfl hl (by decide) rfl (fun ls hl => ?_)
        refine lv_iinc (v := yy + 1) (lv' := [(2, .int (yy + 1)), (1, .int (ds + (365 + (v_X4_one (v_X4_isLong yy))))), (0, .int a0)]) hx hb dX4_daysTo_25 hl (k := 1) rfl rfl (by decide) rfl (fun ls hl => ?_)
        refine lv_goto (tgt := 6) hx hb dX4_daysTo_28 (by decide) ?_
        exact ih1 (yy + 1) (ds + (365 + (v_X4_one (v_X4_isLong yy)))) H locs (fu_le c2 hn1) (show v_X4_daysTo a0 = wX4_daysTo_6 a0 n1 (yy + 1) (ds + (365 + (v_X4_one (v_X4_isLong yy)))) from he1.trans (by rw [wX4_daysTo_6, if_neg c2])) B ls (lv_sub hl [0, 1, 2] rfl)
  exact loop1 ((a0.toInt - (1600 : Int32).toInt).toNat + 1) 1600 0 H locs (Nat.lt_succ_self _) (show v_X4_daysTo a0 = wX4_daysTo_6 a0 ((a0.toInt - (1600 : Int32).toInt).toNat + 1) 1600 0 from rfl) B ls hl
