section
/-! dates that are in the calendar, and that apart's month is there -/
def okd (t : TR) : Prop := 1600 ≤ t.1.toInt ∧ t.1.toInt ≤ 2400 ∧ 1 ≤ t.2.1.toInt ∧ t.2.1.toInt ≤ 12 ∧ 1 ≤ t.2.2.toInt ∧ t.2.2.toInt ≤ 31
theorem okd_mo {t : TR} (h : okd t) : ¬ 12 < t.2.1 := by
  rw [Int32.lt_iff_toInt_lt]
  have := h.2.2.2.1
  have e12 : (12 : Int32).toInt = 12 := rfl
  omega
theorem add_i {x y : Int32} (h1 : -2147483648 ≤ x.toInt + y.toInt) (h2 : x.toInt + y.toInt ≤ 2147483647) : (x + y).toInt = x.toInt + y.toInt := by
  rw [Int32.toInt_add, Int.bmod_eq_of_le (by omega) (by omega)]
theorem sub_i {x y : Int32} (h1 : -2147483648 ≤ x.toInt - y.toInt) (h2 : x.toInt - y.toInt ≤ 2147483647) : (x - y).toInt = x.toInt - y.toInt := by
  rw [Int32.toInt_sub, Int.bmod_eq_of_le (by omega) (by omega)]
theorem add_l {x y : Int64} (h1 : -9223372036854775808 ≤ x.toInt + y.toInt) (h2 : x.toInt + y.toInt ≤ 9223372036854775807) : (x + y).toInt = x.toInt + y.toInt := by
  rw [Int64.toInt_add, Int.bmod_eq_of_le (by omega) (by omega)]
theorem sub_l {x y : Int64} (h1 : -9223372036854775808 ≤ x.toInt - y.toInt) (h2 : x.toInt - y.toInt ≤ 9223372036854775807) : (x - y).toInt = x.toInt - y.toInt := by
  rw [Int64.toInt_sub, Int.bmod_eq_of_le (by omega) (by omega)]
theorem ylen1 (y : Int32) : (365 + v_X4_one (v_X4_isLong y)).toInt = 365 ∨ (365 + v_X4_one (v_X4_isLong y)).toInt = 366 := by
  unfold v_X4_one
  by_cases h : v_X4_isLong y = 0
  · rw [if_pos h]; exact Or.inl rfl
  · rw [if_neg h]; exact Or.inr rfl
theorem dT_w {a0 : Int32} (ha : a0.toInt ≤ 2401) : ∀ (n j : Nat) (yy ds : Int32), (a0.toInt - yy.toInt).toNat < n → yy.toInt = 1600 + j → 0 ≤ ds.toInt → ds.toInt ≤ 366 * j → j ≤ 801 → 0 ≤ (wX4_daysTo_6 a0 n yy ds).toInt ∧ (wX4_daysTo_6 a0 n yy ds).toInt ≤ 300000 := by
  intro n
  induction n with
  | zero => intro j yy ds h; omega
  | succ n ih =>
    intro j yy ds hn hy h0 h1 hj
    rw [wX4_daysTo_6]
    by_cases c : a0 ≤ yy
    · rw [if_pos c]; omega
    · rw [if_neg c]
      rw [Int32.le_iff_toInt_le] at c
      have e1 : (1 : Int32).toInt = 1 := rfl
      have ey : (yy + 1).toInt = yy.toInt + 1 := add_i (by omega) (by omega)
      have hl := ylen1 yy
      have ed := add_i (x := ds) (y := 365 + v_X4_one (v_X4_isLong yy)) (by omega) (by omega)
      exact ih (j + 1) _ _ (by omega) (by omega) (by omega) (by omega) (by omega)
theorem dT_b {a : Int32} (h0 : 1600 ≤ a.toInt) (h1 : a.toInt ≤ 2401) : 0 ≤ (v_X4_daysTo a).toInt ∧ (v_X4_daysTo a).toInt ≤ 300000 := by
  unfold v_X4_daysTo
  have e : (1600 : Int32).toInt = 1600 := rfl
  have e0 : (0 : Int32).toInt = 0 := rfl
  exact dT_w h1 _ 0 1600 0 (by omega) (by omega) (by omega) (by omega) (by omega)
theorem nb_w {t : TR} (ht : t.2.1.toInt ≤ 12) : ∀ (n j : Nat) (mm ds : Int32), (t.2.1.toInt - mm.toInt).toNat < n → mm.toInt = j + 1 → j ≤ 12 → -1000000 ≤ ds.toInt → ds.toInt ≤ 1000000 + 31 * j → ds.toInt ≤ (wX4_number_22 t n mm ds).toInt ∧ (mm.toInt < t.2.1.toInt → ds.toInt + 28 ≤ (wX4_number_22 t n mm ds).toInt) ∧ (wX4_number_22 t n mm ds).toInt ≤ 1000400 := by
  intro n
  induction n with
  | zero => intro j mm ds h; omega
  | succ n ih =>
    intro j mm ds hn hm hj h0 h1
    rw [wX4_number_22]
    by_cases c : t.2.1 ≤ mm
    · rw [if_pos c]
      rw [Int32.le_iff_toInt_le] at c
      omega
    · rw [if_neg c]
      rw [Int32.le_iff_toInt_le] at c
      have e1 : (1 : Int32).toInt = 1 := rfl
      have em : (mm + 1).toInt = mm.toInt + 1 := add_i (by omega) (by omega)
      have hj2 : j < 12 := by omega
      have emm : mm = nI (j + 1) := Int32.toInt_inj.mp (by rw [nI_toInt (by omega)]; omega)
      have hl := len_at t.1 j hj2
      rw [← emm] at hl
      obtain ⟨-, l1, l2⟩ := yrest_s (decide (v_X4_isLong t.1 = 0)) j hj2
      have el : (v_X4_length t.1 mm).toInt = (ylen (decide (v_X4_isLong t.1 = 0)) j : Int) := by rw [hl, nI_toInt (by omega)]
      have ed := add_i (x := ds) (y := v_X4_length t.1 mm) (by omega) (by omega)
      have := ih (j + 1) (mm + 1) (ds + v_X4_length t.1 mm) (by omega) (by omega) (by omega) (by omega) (by omega)
      omega
/-- a date's number -/
theorem num_f {t : TR} (h : okd t) {D T : Int32} (hD : v_X4_daysTo 1970 = D) (hT : v_X4_daysTo t.1 = T) : 0 ≤ T.toInt ∧ T.toInt - D.toInt + t.2.2.toInt - 1 ≤ (v_X4_number t).toInt ∧ (1 < t.2.1.toInt → T.toInt - D.toInt + t.2.2.toInt - 1 + 28 ≤ (v_X4_number t).toInt) ∧ (t.2.1.toInt = 1 → (v_X4_number t).toInt = T.toInt - D.toInt + t.2.2.toInt - 1) := by
  obtain ⟨h1, h2, h3, h4, h5, h6⟩ := h
  have a1 := dT_b h1 (by omega)
  rw [hT] at a1
  have e70 : (1970 : Int32).toInt = 1970 := rfl
  have a2 := dT_b (a := 1970) (by omega) (by omega)
  rw [hD] at a2
  have e1 : (1 : Int32).toInt = 1 := rfl
  have b1 := sub_i (x := T) (y := D) (by omega) (by omega)
  have b2 := add_i (x := T - D) (y := t.2.2) (by omega) (by omega)
  have b3 := sub_i (x := T - D + t.2.2) (y := 1) (by omega) (by omega)
  unfold v_X4_number
  rw [hT, hD]
  have k := nb_w h4 ((t.2.1.toInt - (1 : Int32).toInt).toNat + 1) 0 1 (T - D + t.2.2 - 1) (by omega) (by omega) (by omega) (by omega) (by omega)
  refine ⟨a1.1, by omega, by omega, fun hm => ?_⟩
  rw [wX4_number_22, if_pos (by rw [Int32.le_iff_toInt_le, hm]; exact Int.le_refl _)]
  omega
theorem dT_0 {a : Int32} (h : a.toInt = 1600) : v_X4_daysTo a = 0 := by
  have e : a = 1600 := Int32.toInt_inj.mp (h.trans rfl)
  unfold v_X4_daysTo
  rw [wX4_daysTo_6, if_pos (by rw [e]; decide)]
theorem mul12 {x : Int64} (h0 : 0 ≤ x.toInt) (h1 : x.toInt ≤ 100000) : (12 * x).toInt = 12 * x.toInt := by
  have e12 : (12 : Int64).toInt = 12 := rfl
  rw [Int64.toInt_mul, e12, Int.bmod_eq_of_le (by omega) (by omega)]
theorem mul12i {x : Int32} (h0 : -100000 ≤ x.toInt) (h1 : x.toInt ≤ 100000) : (12 * x).toInt = 12 * x.toInt := by
  have e12 : (12 : Int32).toInt = 12 := rfl
  rw [Int32.toInt_mul, e12, Int.bmod_eq_of_le (by omega) (by omega)]
theorem onb_ne {t : TR} {w : Int64} (ht : okd t) (h1 : 19200 ≤ 12 * t.1.toInt + t.2.1.toInt - 1 + w.toInt) (h2 : 12 * t.1.toInt + t.2.1.toInt - 1 + w.toInt ≤ 28811) : v_X4_onByMonths t w ≠ none := by
  obtain ⟨g1, g2, g3, g4, g5, g6⟩ := ht
  unfold v_X4_onByMonths
  have e12 : (12 : Int64).toInt = 12 := rfl
  have e1 : (1 : Int64).toInt = 1 := rfl
  have ea : t.1.toInt64.toInt = t.1.toInt := Int32.toInt_toInt64 _
  have eb : t.2.1.toInt64.toInt = t.2.1.toInt := Int32.toInt_toInt64 _
  have m1 := mul12 (x := t.1.toInt64) (by omega) (by omega)
  have m2 := add_l (x := 12 * t.1.toInt64) (y := t.2.1.toInt64) (by omega) (by omega)
  have m3 := sub_l (x := 12 * t.1.toInt64 + t.2.1.toInt64) (y := 1) (by omega) (by omega)
  have m4 := add_l (x := 12 * t.1.toInt64 + t.2.1.toInt64 - 1) (y := w) (by omega) (by omega)
  have hin : ¬ v_X4_isIn (12 * t.1.toInt64 + t.2.1.toInt64 - 1 + w) 19200 28811 = 0 := in_iff.mpr (by
    rw [Int64.le_iff_toInt_le, Int64.le_iff_toInt_le]
    have z1 : (19200 : Int64).toInt = 19200 := rfl
    have z2 : (28811 : Int64).toInt = 28811 := rfl
    omega)
  rw [if_neg hin]
  exact fun q => (nomatch q)
theorem ap_w {a b : TR} (ha : okd a) (hb : okd b) : (12 * (b.1 - a.1) + b.2.1 - a.2.1).toInt = 12 * (b.1.toInt - a.1.toInt) + b.2.1.toInt - a.2.1.toInt := by
  obtain ⟨g1, g2, g3, g4, g5, g6⟩ := ha
  obtain ⟨k1, k2, k3, k4, k5, k6⟩ := hb
  have e12 : (12 : Int32).toInt = 12 := rfl
  have m0 := sub_i (x := b.1) (y := a.1) (by omega) (by omega)
  have m1 := mul12i (x := b.1 - a.1) (by omega) (by omega)
  have m2 := add_i (x := 12 * (b.1 - a.1)) (y := b.2.1) (by omega) (by omega)
  have m3 := sub_i (x := 12 * (b.1 - a.1) + b.2.1) (y := a.2.1) (by omega) (by omega)
  omega
theorem ap_0 {a b : TR} (ha : okd a) (hb : okd b) : v_X4_onByMonths a (12 * (b.1 - a.1) + b.2.1 - a.2.1).toInt64 ≠ none := by
  have e := ap_w ha hb
  refine onb_ne ha ?_ ?_ <;> rw [Int32.toInt_toInt64, e] <;> (obtain ⟨k1, k2, k3, k4, k5, k6⟩ := hb; omega)
theorem ap_p {a b : TR} (ha : okd a) (hb : okd b) (hw : ¬ 0 ≤ 12 * (b.1 - a.1) + b.2.1 - a.2.1) : v_X4_onByMonths a (12 * (b.1 - a.1) + b.2.1 - a.2.1 + 1).toInt64 ≠ none := by
  have e := ap_w ha hb
  rw [Int32.le_iff_toInt_le, e] at hw
  have e0 : (0 : Int32).toInt = 0 := rfl
  have e1 : (1 : Int32).toInt = 1 := rfl
  obtain ⟨g1, g2, g3, g4, g5, g6⟩ := id ha
  obtain ⟨k1, k2, k3, k4, k5, k6⟩ := id hb
  have m := add_i (x := 12 * (b.1 - a.1) + b.2.1 - a.2.1) (y := 1) (by omega) (by omega)
  refine onb_ne ha ?_ ?_ <;> rw [Int32.toInt_toInt64, m, e] <;> omega
theorem ap_ar {ya ma yb mb w : Int} (h1 : 1600 ≤ yb) (h2 : yb ≤ 2400) (h3 : 1 ≤ mb) (h4 : mb ≤ 12) (hn : ¬ (yb = 1600 ∧ mb = 1)) (hw : w = 12 * (yb - ya) + mb - ma + -1) : 19200 ≤ 12 * ya + ma - 1 + w ∧ 12 * ya + ma - 1 + w ≤ 28811 := by omega
theorem ap_m {a b : TR} (ha : okd a) (hb : okd b) (hn : v_X4_number a ≤ v_X4_number b) (hd : ¬ a.2.2 ≤ b.2.2) : v_X4_onByMonths a (12 * (b.1 - a.1) + b.2.1 - a.2.1 + (-1)).toInt64 ≠ none := by
  have e := ap_w ha hb
  have e1 : (-1 : Int32).toInt = -1 := rfl
  obtain ⟨D, hD⟩ : ∃ D, v_X4_daysTo 1970 = D := ⟨_, rfl⟩
  obtain ⟨Ta, hTa⟩ : ∃ D, v_X4_daysTo a.1 = D := ⟨_, rfl⟩
  obtain ⟨Tb, hTb⟩ : ∃ D, v_X4_daysTo b.1 = D := ⟨_, rfl⟩
  have na := num_f ha hD hTa
  have nb := num_f hb hD hTb
  rw [Int32.le_iff_toInt_le] at hn hd
  obtain ⟨g1, g2, g3, g4, g5, g6⟩ := id ha
  obtain ⟨k1, k2, k3, k4, k5, k6⟩ := id hb
  have hnot : ¬ (b.1.toInt = 1600 ∧ b.2.1.toInt = 1) := by
    rintro ⟨q1, q2⟩
    have hb1 := nb.2.2.2 q2
    rw [dT_0 q1] at hTb
    subst hTb
    have e0 : (0 : Int32).toInt = 0 := rfl
    omega
  clear hn hd na nb hD hTa hTb
  generalize hw : 12 * (b.1 - a.1) + b.2.1 - a.2.1 = w at e
  have m := add_i (x := w) (y := -1) (by omega) (by omega)
  rw [e, e1] at m
  have z := ap_ar k1 k2 k3 k4 hnot ((Int32.toInt_toInt64 _).trans m)
  exact onb_ne ha z.1 z.2
theorem au_le {a : Int32} (h : ¬ 9 < a) : (a.toInt - (0 : Int32).toInt).toNat + 1 ≤ 10 := by
  rw [Int32.lt_iff_toInt_lt] at h
  have h9 : (9 : Int32).toInt = 9 := rfl
  have h0 : (0 : Int32).toInt = 0 := rfl
  omega
end
section
def v_X4_apart (tj0 : TR) (tj1 : TR) : Option TR := if (v_X4_number tj0) ≤ (v_X4_number tj1) then (if tj0.2.2 ≤ tj1.2.2 then (om (v_X4_onByMonths tj0 ((((12 * (tj1.1 - tj0.1)) + tj1.2.1) - tj0.2.1).toInt64)) none (fun t4 => some ((((12 * (tj1.1 - tj0.1)) + tj1.2.1) - tj0.2.1) / 12, (((12 * (tj1.1 - tj0.1)) + tj1.2.1) - tj0.2.1) - (((12 * (tj1.1 - tj0.1)) + tj1.2.1) - tj0.2.1) / 12 * 12, (v_X4_number tj1) - (v_X4_number t4)))) else (om (v_X4_onByMonths tj0 (((((12 * (tj1.1 - tj0.1)) + tj1.2.1) - tj0.2.1) + (-1)).toInt64)) none (fun t6 => some (((((12 * (tj1.1 - tj0.1)) + tj1.2.1) - tj0.2.1) + (-1)) / 12, ((((12 * (tj1.1 - tj0.1)) + tj1.2.1) - tj0.2.1) + (-1)) - ((((12 * (tj1.1 - tj0.1)) + tj1.2.1) - tj0.2.1) + (-1)) / 12 * 12, (v_X4_number tj1) - (v_X4_number t6))))) else (if tj0.2.2 ≤ 28 then (if tj1.2.2 ≤ tj0.2.2 then (om (v_X4_onByMonths tj0 ((((12 * (tj1.1 - tj0.1)) + tj1.2.1) - tj0.2.1).toInt64)) none (fun t10 => some ((((12 * (tj1.1 - tj0.1)) + tj1.2.1) - tj0.2.1) / 12, (((12 * (tj1.1 - tj0.1)) + tj1.2.1) - tj0.2.1) - (((12 * (tj1.1 - tj0.1)) + tj1.2.1) - tj0.2.1) / 12 * 12, (v_X4_number tj1) - (v_X4_number t10)))) else (if 0 ≤ (((12 * (tj1.1 - tj0.1)) + tj1.2.1) - tj0.2.1) then (om (v_X4_onByMonths tj0 ((((12 * (tj1.1 - tj0.1)) + tj1.2.1) - tj0.2.1).toInt64)) none (fun t13 => some ((((12 * (tj1.1 - tj0.1)) + tj1.2.1) - tj0.2.1) / 12, (((12 * (tj1.1 - tj0.1)) + tj1.2.1) - tj0.2.1) - (((12 * (tj1.1 - tj0.1)) + tj1.2.1) - tj0.2.1) / 12 * 12, (v_X4_number tj1) - (v_X4_number t13)))) else (om (v_X4_onByMonths tj0 (((((12 * (tj1.1 - tj0.1)) + tj1.2.1) - tj0.2.1) + 1).toInt64)) none (fun t15 => some (((((12 * (tj1.1 - tj0.1)) + tj1.2.1) - tj0.2.1) + 1) / 12, ((((12 * (tj1.1 - tj0.1)) + tj1.2.1) - tj0.2.1) + 1) - ((((12 * (tj1.1 - tj0.1)) + tj1.2.1) - tj0.2.1) + 1) / 12 * 12, (v_X4_number tj1) - (v_X4_number t15)))))) else none)
set_option maxHeartbeats 4000000 in
set_option maxRecDepth 100000 in
theorem c_X4_apart (l : Launch) (g : GG) (N : Nat) (ad : Nat → Nat) (f : Nat → va_E) (j0 bj0 : Nat) (tj0 : TR) (hj0 : j0 < N) (hbj0 : ad j0 = bj0) (hfj0 : f j0 = c_row g tj0) (j1 bj1 : Nat) (tj1 : TR) (hj1 : j1 < N) (hbj1 : ad j1 = bj1) (hfj1 : f j1 = c_row g tj1) (hda : okd tj0) (hdb : okd tj1) : KR l yX4_apart cX4_apart 4 (.array .int) (rm 3 2 6) g [.ref bj0, .ref bj1] N ad f (N + nz (v_X4_apart tj0 tj1)) (fun r ad' f' => pw g (v_X4_apart tj0 tj1) N ad f r ad' f') := by
  intro sz
  refine mt_start (by decide) (Nat.le_of_ble_eq_true rfl) ?_
  intro p e s m args below meth c hsz X hr hnam hA hK hT H locs B ls hl
  obtain ⟨hx, hb, hml, hown, hts, hlocks⟩ := id X
  have hl : lv_has ls 4 [(0, .ref bj0), (1, .ref bj1)] := hl
  refine lv_bipush (v := 12) hx hb dX4_apart_0 (by decide) ?_
  refine lv_aload_n hx hb dX4_apart_2 rfl (lv_at hl 1 rfl) ?_
  refine lv_iconst (v := 0) hx hb dX4_apart_3 (by decide) ?_
  refine h_ld0 X hK B hj1 hbj1 hfj1 dX4_apart_4 ?_
  refine lv_aload_n hx hb dX4_apart_5 rfl (lv_at hl 0 rfl) ?_
  refine lv_iconst (v := 0) hx hb dX4_apart_6 (by decide) ?_
  refine h_ld0 X hK B hj0 hbj0 hfj0 dX4_apart_7 ?_
  refine lv_isub hx hb dX4_apart_8 ?_
  refine lv_imul hx hb dX4_apart_9 ?_
  refine lv_aload_n hx hb dX4_apart_10 rfl (lv_at hl 1 rfl) ?_
  refine lv_iconst (v := 1) hx hb dX4_apart_11 (by decide) ?_
  refine h_ld1 X hK B hj1 hbj1 hfj1 dX4_apart_12 ?_
  refine lv_iadd hx hb dX4_apart_13 ?_
  refine lv_aload_n hx hb dX4_apart_14 rfl (lv_at hl 0 rfl) ?_
  refine lv_iconst (v := 1) hx hb dX4_apart_15 (by decide) ?_
  refine h_ld1 X hK B hj0 hbj0 hfj0 dX4_apart_16 ?_
  refine lv_isub hx hb dX4_apart_17 ?_
  refine lv_istore_n (lv' := [(2, .int (((12 * (tj1.1 - tj0.1)) + tj1.2.1) - tj0.2.1)), (0, .ref bj0), (1, .ref bj1)]) hx hb dX4_apart_18 rfl hl (by decide) rfl (fun ls hl => ?_)
  refine lv_aload_n hx hb dX4_apart_19 rfl (lv_at hl 2 rfl) ?_
  refine k_i (k := 0) (n := 0) hA B (u_S (rest := []) X (c_X4_number l g N ad f j1 bj1 tj1 hj1 hbj1 hfj1 (okd_mo hdb) H.size) mw_X4_number md_X4_number rfl lk_X4_198 ⟨Nat.le_of_ble_eq_true rfl, Nat.le_of_ble_eq_true rfl⟩ hA hK hT B hl.1 rfl (Nat.le_of_ble_eq_true rfl) dX4_apart_20 ⟨Nat.le_of_ble_eq_true rfl, Nat.le_of_ble_eq_true rfl⟩) (Nat.le_of_ble_eq_true rfl) (Nat.le_of_ble_eq_true rfl) (fun r ad' f' H locs hw B => ?_)
  obtain ⟨rfl, rfl, rfl⟩ := hw
  refine lv_aload_n hx hb dX4_apart_23 rfl (lv_at hl 1 rfl) ?_
  refine k_i (k := 0) (n := 0) hA B (u_S (rest := [.int (v_X4_number tj1)]) X (c_X4_number l g N ad f j0 bj0 tj0 hj0 hbj0 hfj0 (okd_mo hda) H.size) mw_X4_number md_X4_number rfl lk_X4_198 ⟨Nat.le_of_ble_eq_true rfl, Nat.le_of_ble_eq_true rfl⟩ hA hK hT B hl.1 rfl (Nat.le_of_ble_eq_true rfl) dX4_apart_24 ⟨Nat.le_of_ble_eq_true rfl, Nat.le_of_ble_eq_true rfl⟩) (Nat.le_of_ble_eq_true rfl) (Nat.le_of_ble_eq_true rfl) (fun r ad' f' H locs hw B => ?_)
  obtain ⟨rfl, rfl, rfl⟩ := hw
  refine lv_icmp_ge (tgt := 34) hx hb dX4_apart_27 (by decide) (fun c1 => ?_) (fun c1 => ?_)
  · refine lv_iconst (v := 0) hx hb dX4_apart_34 (by decide) ?_
    refine lv_istore_n (lv' := [(3, .int 0), (2, .int (((12 * (tj1.1 - tj0.1)) + tj1.2.1) - tj0.2.1)), (0, .ref bj0), (1, .ref bj1)]) hx hb dX4_apart_35 rfl hl (by decide) rfl (fun ls hl => ?_)
    refine lv_iload_n hx hb dX4_apart_36 rfl (lv_at hl 0 rfl) ?_
    refine lv_if_eq (tgt := 50) hx hb dX4_apart_37 (by decide) (fun _ => ?_) (fun z => absurd z (by decide))
    refine lv_iload_n hx hb dX4_apart_50 rfl (lv_at hl 0 rfl) ?_
    refine lv_if_ne (tgt := 66) hx hb dX4_apart_51 (by decide) (fun z => absurd z (by decide)) (fun _ => ?_)
    refine lv_aload_n hx hb dX4_apart_54 rfl (lv_at hl 3 rfl) ?_
    refine lv_iconst (v := 2) hx hb dX4_apart_55 (by decide) ?_
    refine h_ld2 X hK B hj1 hbj1 hfj1 dX4_apart_56 ?_
    refine lv_aload_n hx hb dX4_apart_57 rfl (lv_at hl 2 rfl) ?_
    refine lv_iconst (v := 2) hx hb dX4_apart_58 (by decide) ?_
    refine h_ld2 X hK B hj0 hbj0 hfj0 dX4_apart_59 ?_
    refine lv_icmp_ge (tgt := 66) hx hb dX4_apart_60 (by decide) (fun c2 => ?_) (fun c2 => ?_)
    · refine lv_iload_n hx hb dX4_apart_66 rfl (lv_at hl 0 rfl) ?_
      refine lv_if_eq (tgt := 86) hx hb dX4_apart_67 (by decide) (fun _ => ?_) (fun z => absurd z (by decide))
      refine lv_iconst (v := 3) hx hb dX4_apart_86 (by decide) ?_
      refine h_new3 (cz := 1) (sz := 3) X hA hK B (Nat.le_of_ble_eq_true rfl) (Nat.le_of_ble_eq_true rfl) (Nat.le_of_ble_eq_true rfl) (Nat.le_of_ble_eq_true rfl) dX4_apart_87 (fun z3 H B => ?_)
      refine lv_dup hx hb dX4_apart_89 rfl ?_
      refine lv_iconst (v := 0) hx hb dX4_apart_90 (by decide) ?_
      refine lv_iload_n hx hb dX4_apart_91 rfl (lv_at hl 1 rfl) ?_
      refine lv_bipush (v := 12) hx hb dX4_apart_92 (by decide) ?_
      refine lv_idiv hx hb dX4_apart_94 (by decide) ?_
      refine h_st (t := (0, 0, 0)) (t' := ((((12 * (tj1.1 - tj0.1)) + tj1.2.1) - tj0.2.1) / 12, 0, 0)) X hK B (Nat.lt_succ_self _) up_eq up_eq (by unfold vp_in; decide) (rw3_s0 _ _) dX4_apart_95 (fun H locs B => ?_)
      rw [bx_uu] at B
      refine lv_dup hx hb dX4_apart_96 rfl ?_
      refine lv_iconst (v := 1) hx hb dX4_apart_97 (by decide) ?_
      refine lv_iload_n hx hb dX4_apart_98 rfl (lv_at hl 1 rfl) ?_
      refine lv_bipush (v := 12) hx hb dX4_apart_99 (by decide) ?_
      refine lv_irem hx hb dX4_apart_101 (by decide) ?_
      refine h_st (t := ((((12 * (tj1.1 - tj0.1)) + tj1.2.1) - tj0.2.1) / 12, 0, 0)) (t' := ((((12 * (tj1.1 - tj0.1)) + tj1.2.1) - tj0.2.1) / 12, (((12 * (tj1.1 - tj0.1)) + tj1.2.1) - tj0.2.1) - (((12 * (tj1.1 - tj0.1)) + tj1.2.1) - tj0.2.1) / 12 * 12, 0)) X hK B (Nat.lt_succ_self _) up_eq up_eq (by unfold vp_in; decide) (rw3_s1 _ _) dX4_apart_102 (fun H locs B => ?_)
      rw [bx_uu] at B
      refine lv_dup hx hb dX4_apart_103 rfl ?_
      refine lv_iconst (v := 2) hx hb dX4_apart_104 (by decide) ?_
      refine lv_aload_n hx hb dX4_apart_105 rfl (lv_at hl 3 rfl) ?_
      refine k_i (k := 1) (n := 3) hA B (u_S (rest := [.int 2, .ref z3, .ref z3]) X (c_X4_number l g (N + 1) (va_up ad N z3) (va_up f N (c_row g ((((12 * (tj1.1 - tj0.1)) + tj1.2.1) - tj0.2.1) / 12, (((12 * (tj1.1 - tj0.1)) + tj1.2.1) - tj0.2.1) - (((12 * (tj1.1 - tj0.1)) + tj1.2.1) - tj0.2.1) / 12 * 12, 0))) j1 bj1 tj1 (Nat.lt_succ_of_lt hj1) ((up_lt hj1).trans hbj1) ((up_lt hj1).trans hfj1) (okd_mo hdb) H.size) mw_X4_number md_X4_number rfl lk_X4_198 ⟨Nat.le_of_ble_eq_true rfl, Nat.le_of_ble_eq_true rfl⟩ hA hK hT B hl.1 rfl (Nat.le_of_ble_eq_true rfl) dX4_apart_106 ⟨Nat.le_of_ble_eq_true rfl, Nat.le_of_ble_eq_true rfl⟩) (Nat.le_of_ble_eq_true rfl) (Nat.le_of_ble_eq_true rfl) (fun r ad' f' H locs hw B => ?_)
      obtain ⟨rfl, rfl, rfl⟩ := hw
      refine lv_aload_n hx hb dX4_apart_109 rfl (lv_at hl 2 rfl) ?_
      refine lv_iload_n hx hb dX4_apart_110 rfl (lv_at hl 1 rfl) ?_
      refine lv_i2l (v := (((12 * (tj1.1 - tj0.1)) + tj1.2.1) - tj0.2.1).toInt64) hx hb dX4_apart_111 rfl ?_
      refine k_r (k := 2) (n := 6) hA B (u_S (rest := [.int (v_X4_number tj1), .int 2, .ref z3, .ref z3]) X (c_X4_onByMonths l g (N + 1) (va_up ad N z3) (va_up f N (c_row g ((((12 * (tj1.1 - tj0.1)) + tj1.2.1) - tj0.2.1) / 12, (((12 * (tj1.1 - tj0.1)) + tj1.2.1) - tj0.2.1) - (((12 * (tj1.1 - tj0.1)) + tj1.2.1) - tj0.2.1) / 12 * 12, 0))) j0 bj0 tj0 (Nat.lt_succ_of_lt hj0) ((up_lt hj0).trans hbj0) ((up_lt hj0).trans hfj0) ((((12 * (tj1.1 - tj0.1)) + tj1.2.1) - tj0.2.1).toInt64) H.size) mw_X4_onByMonths md_X4_onByMonths rfl lk_X4_194 ⟨Nat.le_of_ble_eq_true rfl, Nat.le_of_ble_eq_true rfl⟩ hA hK hT B hl.1 rfl (Nat.le_of_ble_eq_true rfl) dX4_apart_112 ⟨Nat.le_of_ble_eq_true rfl, Nat.le_of_ble_eq_true rfl⟩) (Nat.le_of_ble_eq_true rfl) (Nat.le_of_ble_eq_true rfl) (fun r ad' f' H locs hw B => ?_)
      generalize o4 : (v_X4_onByMonths tj0 ((((12 * (tj1.1 - tj0.1)) + tj1.2.1) - tj0.2.1).toInt64)) = v9 at hw B
      obtain ⟨t4, rfl⟩ : ∃ t, v9 = some t := by cases v9 with | none => exact absurd o4 (ap_0 hda hdb) | some t => exact ⟨t, rfl⟩
      obtain ⟨z4, rfl, rfl, rfl⟩ := pw_s hw
      refine k_i (k := 2) (n := 6) hA B (u_S (rest := [.int (v_X4_number tj1), .int 2, .ref z3, .ref z3]) X (c_X4_number l g (N + 1 + 1) (va_up (va_up ad N z3) (N + 1) z4) (va_up (va_up f N (c_row g ((((12 * (tj1.1 - tj0.1)) + tj1.2.1) - tj0.2.1) / 12, (((12 * (tj1.1 - tj0.1)) + tj1.2.1) - tj0.2.1) - (((12 * (tj1.1 - tj0.1)) + tj1.2.1) - tj0.2.1) / 12 * 12, 0))) (N + 1) (c_row g t4)) (N + 1) z4 t4 (Nat.lt_succ_self _) up_eq up_eq (onb_mo o4) H.size) mw_X4_number md_X4_number rfl lk_X4_198 ⟨Nat.le_of_ble_eq_true rfl, Nat.le_of_ble_eq_true rfl⟩ hA hK hT B hl.1 rfl (Nat.le_of_ble_eq_true rfl) dX4_apart_115 ⟨Nat.le_of_ble_eq_true rfl, Nat.le_of_ble_eq_true rfl⟩) (Nat.le_of_ble_eq_true rfl) (Nat.le_of_ble_eq_true rfl) (fun r ad' f' H locs hw B => ?_)
      obtain ⟨rfl, rfl, rfl⟩ := hw
      refine lv_isub hx hb dX4_apart_118 ?_
      have B : WB g (aw N ad sz) s.heap (N + 1) (va_up ad N z3) (va_up f N (c_row g ((((12 * (tj1.1 - tj0.1)) + tj1.2.1) - tj0.2.1) / 12, (((12 * (tj1.1 - tj0.1)) + tj1.2.1) - tj0.2.1) - (((12 * (tj1.1 - tj0.1)) + tj1.2.1) - tj0.2.1) / 12 * 12, 0))) H locs := B.drop (by omega) (fun _ hk => (up_lt hk)) (fun _ hk => (up_lt hk))
      refine h_st (t := ((((12 * (tj1.1 - tj0.1)) + tj1.2.1) - tj0.2.1) / 12, (((12 * (tj1.1 - tj0.1)) + tj1.2.1) - tj0.2.1) - (((12 * (tj1.1 - tj0.1)) + tj1.2.1) - tj0.2.1) / 12 * 12, 0)) (t' := ((((12 * (tj1.1 - tj0.1)) + tj1.2.1) - tj0.2.1) / 12, (((12 * (tj1.1 - tj0.1)) + tj1.2.1) - tj0.2.1) - (((12 * (tj1.1 - tj0.1)) + tj1.2.1) - tj0.2.1) / 12 * 12, (v_X4_number tj1) - (v_X4_number t4))) X hK B (Nat.lt_succ_self _) up_eq up_eq (by unfold vp_in; decide) (rw3_s2 _ _) dX4_apart_119 (fun H locs B => ?_)
      rw [bx_uu] at B
      have ev := (show v_X4_apart tj0 tj1 = some ((((12 * (tj1.1 - tj0.1)) + tj1.2.1) - tj0.2.1) / 12, (((12 * (tj1.1 - tj0.1)) + tj1.2.1) - tj0.2.1) - (((12 * (tj1.1 - tj0.1)) + tj1.2.1) - tj0.2.1) / 12 * 12, (v_X4_number tj1) - (v_X4_number t4)) from by unfold v_X4_apart; rw [if_pos c1, if_pos c2, om_some o4])
      have B : WB g (aw N ad sz) s.heap (N + 1) (va_up ad N z3) (va_up f N (c_row g ((((12 * (tj1.1 - tj0.1)) + tj1.2.1) - tj0.2.1) / 12, (((12 * (tj1.1 - tj0.1)) + tj1.2.1) - tj0.2.1) - (((12 * (tj1.1 - tj0.1)) + tj1.2.1) - tj0.2.1) / 12 * 12, (v_X4_number tj1) - (v_X4_number t4)))) H locs := WB_pick B (by omega) (Nat.lt_succ_self _) (fun _ hk => (up_lt hk)) (fun _ hk => (up_lt hk)) up_eq up_eq
      exact rt_r (r := some z3) rfl X hr (Or.inr ⟨_, rfl⟩) (va_up ad N z3, va_up f N (c_row g ((((12 * (tj1.1 - tj0.1)) + tj1.2.1) - tj0.2.1) / 12, (((12 * (tj1.1 - tj0.1)) + tj1.2.1) - tj0.2.1) - (((12 * (tj1.1 - tj0.1)) + tj1.2.1) - tj0.2.1) / 12 * 12, (v_X4_number tj1) - (v_X4_number t4)))) B (by rw [ev]; exact PO_of B) (by rw [ev]; exact pw_is) (Nat.le_of_ble_eq_true rfl) (Nat.le_of_ble_eq_true rfl) dX4_apart_120
    · refine lv_iinc (v := (((12 * (tj1.1 - tj0.1)) + tj1.2.1) - tj0.2.1) + (-1)) (lv' := [(2, .int ((((12 * (tj1.1 - tj0.1)) + tj1.2.1) - tj0.2.1) + (-1))), (3, .int 0), (0, .ref bj0), (1, .ref bj1)]) hx hb dX4_apart_63 hl (k := 1) rfl rfl (by decide) rfl (fun ls hl => ?_)
      refine lv_iload_n hx hb dX4_apart_66 rfl (lv_at hl 1 rfl) ?_
      refine lv_if_eq (tgt := 86) hx hb dX4_apart_67 (by decide) (fun _ => ?_) (fun z => absurd z (by decide))
      refine lv_iconst (v := 3) hx hb dX4_apart_86 (by decide) ?_
      refine h_new3 (cz := 1) (sz := 3) X hA hK B (Nat.le_of_ble_eq_true rfl) (Nat.le_of_ble_eq_true rfl) (Nat.le_of_ble_eq_true rfl) (Nat.le_of_ble_eq_true rfl) dX4_apart_87 (fun z5 H B => ?_)
      refine lv_dup hx hb dX4_apart_89 rfl ?_
      refine lv_iconst (v := 0) hx hb dX4_apart_90 (by decide) ?_
      refine lv_iload_n hx hb dX4_apart_91 rfl (lv_at hl 0 rfl) ?_
      refine lv_bipush (v := 12) hx hb dX4_apart_92 (by decide) ?_
      refine lv_idiv hx hb dX4_apart_94 (by decide) ?_
      refine h_st (t := (0, 0, 0)) (t' := (((((12 * (tj1.1 - tj0.1)) + tj1.2.1) - tj0.2.1) + (-1)) / 12, 0, 0)) X hK B (Nat.lt_succ_self _) up_eq up_eq (by unfold vp_in; decide) (rw3_s0 _ _) dX4_apart_95 (fun H locs B => ?_)
      rw [bx_uu] at B
      refine lv_dup hx hb dX4_apart_96 rfl ?_
      refine lv_iconst (v := 1) hx hb dX4_apart_97 (by decide) ?_
      refine lv_iload_n hx hb dX4_apart_98 rfl (lv_at hl 0 rfl) ?_
      refine lv_bipush (v := 12) hx hb dX4_apart_99 (by decide) ?_
      refine lv_irem hx hb dX4_apart_101 (by decide) ?_
      refine h_st (t := (((((12 * (tj1.1 - tj0.1)) + tj1.2.1) - tj0.2.1) + (-1)) / 12, 0, 0)) (t' := (((((12 * (tj1.1 - tj0.1)) + tj1.2.1) - tj0.2.1) + (-1)) / 12, ((((12 * (tj1.1 - tj0.1)) + tj1.2.1) - tj0.2.1) + (-1)) - ((((12 * (tj1.1 - tj0.1)) + tj1.2.1) - tj0.2.1) + (-1)) / 12 * 12, 0)) X hK B (Nat.lt_succ_self _) up_eq up_eq (by unfold vp_in; decide) (rw3_s1 _ _) dX4_apart_102 (fun H locs B => ?_)
      rw [bx_uu] at B
      refine lv_dup hx hb dX4_apart_103 rfl ?_
      refine lv_iconst (v := 2) hx hb dX4_apart_104 (by decide) ?_
      refine lv_aload_n hx hb dX4_apart_105 rfl (lv_at hl 3 rfl) ?_
      refine k_i (k := 1) (n := 3) hA B (u_S (rest := [.int 2, .ref z5, .ref z5]) X (c_X4_number l g (N + 1) (va_up ad N z5) (va_up f N (c_row g (((((12 * (tj1.1 - tj0.1)) + tj1.2.1) - tj0.2.1) + (-1)) / 12, ((((12 * (tj1.1 - tj0.1)) + tj1.2.1) - tj0.2.1) + (-1)) - ((((12 * (tj1.1 - tj0.1)) + tj1.2.1) - tj0.2.1) + (-1)) / 12 * 12, 0))) j1 bj1 tj1 (Nat.lt_succ_of_lt hj1) ((up_lt hj1).trans hbj1) ((up_lt hj1).trans hfj1) (okd_mo hdb) H.size) mw_X4_number md_X4_number rfl lk_X4_198 ⟨Nat.le_of_ble_eq_true rfl, Nat.le_of_ble_eq_true rfl⟩ hA hK hT B hl.1 rfl (Nat.le_of_ble_eq_true rfl) dX4_apart_106 ⟨Nat.le_of_ble_eq_true rfl, Nat.le_of_ble_eq_true rfl⟩) (Nat.le_of_ble_eq_true rfl) (Nat.le_of_ble_eq_true rfl) (fun r ad' f' H locs hw B => ?_)
      obtain ⟨rfl, rfl, rfl⟩ := hw
      refine lv_aload_n hx hb dX4_apart_109 rfl (lv_at hl 2 rfl) ?_
      refine lv_iload_n hx hb dX4_apart_110 rfl (lv_at hl 0 rfl) ?_
      refine lv_i2l (v := ((((12 * (tj1.1 - tj0.1)) + tj1.2.1) - tj0.2.1) + (-1)).toInt64) hx hb dX4_apart_111 rfl ?_
      refine k_r (k := 2) (n := 6) hA B (u_S (rest := [.int (v_X4_number tj1), .int 2, .ref z5, .ref z5]) X (c_X4_onByMonths l g (N + 1) (va_up ad N z5) (va_up f N (c_row g (((((12 * (tj1.1 - tj0.1)) + tj1.2.1) - tj0.2.1) + (-1)) / 12, ((((12 * (tj1.1 - tj0.1)) + tj1.2.1) - tj0.2.1) + (-1)) - ((((12 * (tj1.1 - tj0.1)) + tj1.2.1) - tj0.2.1) + (-1)) / 12 * 12, 0))) j0 bj0 tj0 (Nat.lt_succ_of_lt hj0) ((up_lt hj0).trans hbj0) ((up_lt hj0).trans hfj0) (((((12 * (tj1.1 - tj0.1)) + tj1.2.1) - tj0.2.1) + (-1)).toInt64) H.size) mw_X4_onByMonths md_X4_onByMonths rfl lk_X4_194 ⟨Nat.le_of_ble_eq_true rfl, Nat.le_of_ble_eq_true rfl⟩ hA hK hT B hl.1 rfl (Nat.le_of_ble_eq_true rfl) dX4_apart_112 ⟨Nat.le_of_ble_eq_true rfl, Nat.le_of_ble_eq_true rfl⟩) (Nat.le_of_ble_eq_true rfl) (Nat.le_of_ble_eq_true rfl) (fun r ad' f' H locs hw B => ?_)
      generalize o6 : (v_X4_onByMonths tj0 (((((12 * (tj1.1 - tj0.1)) + tj1.2.1) - tj0.2.1) + (-1)).toInt64)) = v9 at hw B
      obtain ⟨t6, rfl⟩ : ∃ t, v9 = some t := by cases v9 with | none => exact absurd o6 (ap_m hda hdb c1 c2) | some t => exact ⟨t, rfl⟩
      obtain ⟨z6, rfl, rfl, rfl⟩ := pw_s hw
      refine k_i (k := 2) (n := 6) hA B (u_S (rest := [.int (v_X4_number tj1), .int 2, .ref z5, .ref z5]) X (c_X4_number l g (N + 1 + 1) (va_up (va_up ad N z5) (N + 1) z6) (va_up (va_up f N (c_row g (((((12 * (tj1.1 - tj0.1)) + tj1.2.1) - tj0.2.1) + (-1)) / 12, ((((12 * (tj1.1 - tj0.1)) + tj1.2.1) - tj0.2.1) + (-1)) - ((((12 * (tj1.1 - tj0.1)) + tj1.2.1) - tj0.2.1) + (-1)) / 12 * 12, 0))) (N + 1) (c_row g t6)) (N + 1) z6 t6 (Nat.lt_succ_self _) up_eq up_eq (onb_mo o6) H.size) mw_X4_number md_X4_number rfl lk_X4_198 ⟨Nat.le_of_ble_eq_true rfl, Nat.le_of_ble_eq_true rfl⟩ hA hK hT B hl.1 rfl (Nat.le_of_ble_eq_true rfl) dX4_apart_115 ⟨Nat.le_of_ble_eq_true rfl, Nat.le_of_ble_eq_true rfl⟩) (Nat.le_of_ble_eq_true rfl) (Nat.le_of_ble_eq_true rfl) (fun r ad' f' H locs hw B => ?_)
      obtain ⟨rfl, rfl, rfl⟩ := hw
      refine lv_isub hx hb dX4_apart_118 ?_
      have B : WB g (aw N ad sz) s.heap (N + 1) (va_up ad N z5) (va_up f N (c_row g (((((12 * (tj1.1 - tj0.1)) + tj1.2.1) - tj0.2.1) + (-1)) / 12, ((((12 * (tj1.1 - tj0.1)) + tj1.2.1) - tj0.2.1) + (-1)) - ((((12 * (tj1.1 - tj0.1)) + tj1.2.1) - tj0.2.1) + (-1)) / 12 * 12, 0))) H locs := B.drop (by omega) (fun _ hk => (up_lt hk)) (fun _ hk => (up_lt hk))
      refine h_st (t := (((((12 * (tj1.1 - tj0.1)) + tj1.2.1) - tj0.2.1) + (-1)) / 12, ((((12 * (tj1.1 - tj0.1)) + tj1.2.1) - tj0.2.1) + (-1)) - ((((12 * (tj1.1 - tj0.1)) + tj1.2.1) - tj0.2.1) + (-1)) / 12 * 12, 0)) (t' := (((((12 * (tj1.1 - tj0.1)) + tj1.2.1) - tj0.2.1) + (-1)) / 12, ((((12 * (tj1.1 - tj0.1)) + tj1.2.1) - tj0.2.1) + (-1)) - ((((12 * (tj1.1 - tj0.1)) + tj1.2.1) - tj0.2.1) + (-1)) / 12 * 12, (v_X4_number tj1) - (v_X4_number t6))) X hK B (Nat.lt_succ_self _) up_eq up_eq (by unfold vp_in; decide) (rw3_s2 _ _) dX4_apart_119 (fun H locs B => ?_)
      rw [bx_uu] at B
      have ev := (show v_X4_apart tj0 tj1 = some (((((12 * (tj1.1 - tj0.1)) + tj1.2.1) - tj0.2.1) + (-1)) / 12, ((((12 * (tj1.1 - tj0.1)) + tj1.2.1) - tj0.2.1) + (-1)) - ((((12 * (tj1.1 - tj0.1)) + tj1.2.1) - tj0.2.1) + (-1)) / 12 * 12, (v_X4_number tj1) - (v_X4_number t6)) from by unfold v_X4_apart; rw [if_pos c1, if_neg c2, om_some o6])
      have B : WB g (aw N ad sz) s.heap (N + 1) (va_up ad N z5) (va_up f N (c_row g (((((12 * (tj1.1 - tj0.1)) + tj1.2.1) - tj0.2.1) + (-1)) / 12, ((((12 * (tj1.1 - tj0.1)) + tj1.2.1) - tj0.2.1) + (-1)) - ((((12 * (tj1.1 - tj0.1)) + tj1.2.1) - tj0.2.1) + (-1)) / 12 * 12, (v_X4_number tj1) - (v_X4_number t6)))) H locs := WB_pick B (by omega) (Nat.lt_succ_self _) (fun _ hk => (up_lt hk)) (fun _ hk => (up_lt hk)) up_eq up_eq
      exact rt_r (r := some z5) rfl X hr (Or.inr ⟨_, rfl⟩) (va_up ad N z5, va_up f N (c_row g (((((12 * (tj1.1 - tj0.1)) + tj1.2.1) - tj0.2.1) + (-1)) / 12, ((((12 * (tj1.1 - tj0.1)) + tj1.2.1) - tj0.2.1) + (-1)) - ((((12 * (tj1.1 - tj0.1)) + tj1.2.1) - tj0.2.1) + (-1)) / 12 * 12, (v_X4_number tj1) - (v_X4_number t6)))) B (by rw [ev]; exact PO_of B) (by rw [ev]; exact pw_is) (Nat.le_of_ble_eq_true rfl) (Nat.le_of_ble_eq_true rfl) dX4_apart_120
  · refine lv_iconst (v := 1) hx hb dX4_apart_30 (by decide) ?_
    refine lv_goto (tgt := 35) hx hb dX4_apart_31 (by decide) ?_
    refine lv_istore_n (lv' := [(3, .int 1), (2, .int (((12 * (tj1.1 - tj0.1)) + tj1.2.1) - tj0.2.1)), (0, .ref bj0), (1, .ref bj1)]) hx hb dX4_apart_35 rfl hl (by decide) rfl (fun ls hl => ?_)
    refine lv_iload_n hx hb dX4_apart_36 rfl (lv_at hl 0 rfl) ?_
    refine lv_if_eq (tgt := 50) hx hb dX4_apart_37 (by decide) (fun z => absurd z (by decide)) (fun _ => ?_)
    refine lv_aload_n hx hb dX4_apart_40 rfl (lv_at hl 2 rfl) ?_
    refine lv_iconst (v := 2) hx hb dX4_apart_41 (by decide) ?_
    refine h_ld2 X hK B hj0 hbj0 hfj0 dX4_apart_42 ?_
    refine lv_bipush (v := 28) hx hb dX4_apart_43 (by decide) ?_
    refine lv_icmp_le (tgt := 50) hx hb dX4_apart_45 (by decide) (fun c7 => ?_) (fun c7 => ?_)
    · refine lv_iload_n hx hb dX4_apart_50 rfl (lv_at hl 0 rfl) ?_
      refine lv_if_ne (tgt := 66) hx hb dX4_apart_51 (by decide) (fun _ => ?_) (fun z => absurd z (by decide))
      refine lv_iload_n hx hb dX4_apart_66 rfl (lv_at hl 0 rfl) ?_
      refine lv_if_eq (tgt := 86) hx hb dX4_apart_67 (by decide) (fun z => absurd z (by decide)) (fun _ => ?_)
      refine lv_aload_n hx hb dX4_apart_70 rfl (lv_at hl 3 rfl) ?_
      refine lv_iconst (v := 2) hx hb dX4_apart_71 (by decide) ?_
      refine h_ld2 X hK B hj1 hbj1 hfj1 dX4_apart_72 ?_
      refine lv_aload_n hx hb dX4_apart_73 rfl (lv_at hl 2 rfl) ?_
      refine lv_iconst (v := 2) hx hb dX4_apart_74 (by decide) ?_
      refine h_ld2 X hK B hj0 hbj0 hfj0 dX4_apart_75 ?_
      refine lv_icmp_le (tgt := 86) hx hb dX4_apart_76 (by decide) (fun c8 => ?_) (fun c8 => ?_)
      · refine lv_iconst (v := 3) hx hb dX4_apart_86 (by decide) ?_
        refine h_new3 (cz := 1) (sz := 3) X hA hK B (Nat.le_of_ble_eq_true rfl) (Nat.le_of_ble_eq_true rfl) (Nat.le_of_ble_eq_true rfl) (Nat.le_of_ble_eq_true rfl) dX4_apart_87 (fun z9 H B => ?_)
        refine lv_dup hx hb dX4_apart_89 rfl ?_
        refine lv_iconst (v := 0) hx hb dX4_apart_90 (by decide) ?_
        refine lv_iload_n hx hb dX4_apart_91 rfl (lv_at hl 1 rfl) ?_
        refine lv_bipush (v := 12) hx hb dX4_apart_92 (by decide) ?_
        refine lv_idiv hx hb dX4_apart_94 (by decide) ?_
        refine h_st (t := (0, 0, 0)) (t' := ((((12 * (tj1.1 - tj0.1)) + tj1.2.1) - tj0.2.1) / 12, 0, 0)) X hK B (Nat.lt_succ_self _) up_eq up_eq (by unfold vp_in; decide) (rw3_s0 _ _) dX4_apart_95 (fun H locs B => ?_)
        rw [bx_uu] at B
        refine lv_dup hx hb dX4_apart_96 rfl ?_
        refine lv_iconst (v := 1) hx hb dX4_apart_97 (by decide) ?_
        refine lv_iload_n hx hb dX4_apart_98 rfl (lv_at hl 1 rfl) ?_
        refine lv_bipush (v := 12) hx hb dX4_apart_99 (by decide) ?_
        refine lv_irem hx hb dX4_apart_101 (by decide) ?_
        refine h_st (t := ((((12 * (tj1.1 - tj0.1)) + tj1.2.1) - tj0.2.1) / 12, 0, 0)) (t' := ((((12 * (tj1.1 - tj0.1)) + tj1.2.1) - tj0.2.1) / 12, (((12 * (tj1.1 - tj0.1)) + tj1.2.1) - tj0.2.1) - (((12 * (tj1.1 - tj0.1)) + tj1.2.1) - tj0.2.1) / 12 * 12, 0)) X hK B (Nat.lt_succ_self _) up_eq up_eq (by unfold vp_in; decide) (rw3_s1 _ _) dX4_apart_102 (fun H locs B => ?_)
        rw [bx_uu] at B
        refine lv_dup hx hb dX4_apart_103 rfl ?_
        refine lv_iconst (v := 2) hx hb dX4_apart_104 (by decide) ?_
        refine lv_aload_n hx hb dX4_apart_105 rfl (lv_at hl 3 rfl) ?_
        refine k_i (k := 1) (n := 3) hA B (u_S (rest := [.int 2, .ref z9, .ref z9]) X (c_X4_number l g (N + 1) (va_up ad N z9) (va_up f N (c_row g ((((12 * (tj1.1 - tj0.1)) + tj1.2.1) - tj0.2.1) / 12, (((12 * (tj1.1 - tj0.1)) + tj1.2.1) - tj0.2.1) - (((12 * (tj1.1 - tj0.1)) + tj1.2.1) - tj0.2.1) / 12 * 12, 0))) j1 bj1 tj1 (Nat.lt_succ_of_lt hj1) ((up_lt hj1).trans hbj1) ((up_lt hj1).trans hfj1) (okd_mo hdb) H.size) mw_X4_number md_X4_number rfl lk_X4_198 ⟨Nat.le_of_ble_eq_true rfl, Nat.le_of_ble_eq_true rfl⟩ hA hK hT B hl.1 rfl (Nat.le_of_ble_eq_true rfl) dX4_apart_106 ⟨Nat.le_of_ble_eq_true rfl, Nat.le_of_ble_eq_true rfl⟩) (Nat.le_of_ble_eq_true rfl) (Nat.le_of_ble_eq_true rfl) (fun r ad' f' H locs hw B => ?_)
        obtain ⟨rfl, rfl, rfl⟩ := hw
        refine lv_aload_n hx hb dX4_apart_109 rfl (lv_at hl 2 rfl) ?_
        refine lv_iload_n hx hb dX4_apart_110 rfl (lv_at hl 1 rfl) ?_
        refine lv_i2l (v := (((12 * (tj1.1 - tj0.1)) + tj1.2.1) - tj0.2.1).toInt64) hx hb dX4_apart_111 rfl ?_
        refine k_r (k := 2) (n := 6) hA B (u_S (rest := [.int (v_X4_number tj1), .int 2, .ref z9, .ref z9]) X (c_X4_onByMonths l g (N + 1) (va_up ad N z9) (va_up f N (c_row g ((((12 * (tj1.1 - tj0.1)) + tj1.2.1) - tj0.2.1) / 12, (((12 * (tj1.1 - tj0.1)) + tj1.2.1) - tj0.2.1) - (((12 * (tj1.1 - tj0.1)) + tj1.2.1) - tj0.2.1) / 12 * 12, 0))) j0 bj0 tj0 (Nat.lt_succ_of_lt hj0) ((up_lt hj0).trans hbj0) ((up_lt hj0).trans hfj0) ((((12 * (tj1.1 - tj0.1)) + tj1.2.1) - tj0.2.1).toInt64) H.size) mw_X4_onByMonths md_X4_onByMonths rfl lk_X4_194 ⟨Nat.le_of_ble_eq_true rfl, Nat.le_of_ble_eq_true rfl⟩ hA hK hT B hl.1 rfl (Nat.le_of_ble_eq_true rfl) dX4_apart_112 ⟨Nat.le_of_ble_eq_true rfl, Nat.le_of_ble_eq_true rfl⟩) (Nat.le_of_ble_eq_true rfl) (Nat.le_of_ble_eq_true rfl) (fun r ad' f' H locs hw B => ?_)
        generalize o10 : (v_X4_onByMonths tj0 ((((12 * (tj1.1 - tj0.1)) + tj1.2.1) - tj0.2.1).toInt64)) = v9 at hw B
        obtain ⟨t10, rfl⟩ : ∃ t, v9 = some t := by cases v9 with | none => exact absurd o10 (ap_0 hda hdb) | some t => exact ⟨t, rfl⟩
        obtain ⟨z10, rfl, rfl, rfl⟩ := pw_s hw
        refine k_i (k := 2) (n := 6) hA B (u_S (rest := [.int (v_X4_number tj1), .int 2, .ref z9, .ref z9]) X (c_X4_number l g (N + 1 + 1) (va_up (va_up ad N z9) (N + 1) z10) (va_up (va_up f N (c_row g ((((12 * (tj1.1 - tj0.1)) + tj1.2.1) - tj0.2.1) / 12, (((12 * (tj1.1 - tj0.1)) + tj1.2.1) - tj0.2.1) - (((12 * (tj1.1 - tj0.1)) + tj1.2.1) - tj0.2.1) / 12 * 12, 0))) (N + 1) (c_row g t10)) (N + 1) z10 t10 (Nat.lt_succ_self _) up_eq up_eq (onb_mo o10) H.size) mw_X4_number md_X4_number rfl lk_X4_198 ⟨Nat.le_of_ble_eq_true rfl, Nat.le_of_ble_eq_true rfl⟩ hA hK hT B hl.1 rfl (Nat.le_of_ble_eq_true rfl) dX4_apart_115 ⟨Nat.le_of_ble_eq_true rfl, Nat.le_of_ble_eq_true rfl⟩) (Nat.le_of_ble_eq_true rfl) (Nat.le_of_ble_eq_true rfl) (fun r ad' f' H locs hw B => ?_)
        obtain ⟨rfl, rfl, rfl⟩ := hw
        refine lv_isub hx hb dX4_apart_118 ?_
        have B : WB g (aw N ad sz) s.heap (N + 1) (va_up ad N z9) (va_up f N (c_row g ((((12 * (tj1.1 - tj0.1)) + tj1.2.1) - tj0.2.1) / 12, (((12 * (tj1.1 - tj0.1)) + tj1.2.1) - tj0.2.1) - (((12 * (tj1.1 - tj0.1)) + tj1.2.1) - tj0.2.1) / 12 * 12, 0))) H locs := B.drop (by omega) (fun _ hk => (up_lt hk)) (fun _ hk => (up_lt hk))
        refine h_st (t := ((((12 * (tj1.1 - tj0.1)) + tj1.2.1) - tj0.2.1) / 12, (((12 * (tj1.1 - tj0.1)) + tj1.2.1) - tj0.2.1) - (((12 * (tj1.1 - tj0.1)) + tj1.2.1) - tj0.2.1) / 12 * 12, 0)) (t' := ((((12 * (tj1.1 - tj0.1)) + tj1.2.1) - tj0.2.1) / 12, (((12 * (tj1.1 - tj0.1)) + tj1.2.1) - tj0.2.1) - (((12 * (tj1.1 - tj0.1)) + tj1.2.1) - tj0.2.1) / 12 * 12, (v_X4_number tj1) - (v_X4_number t10))) X hK B (Nat.lt_succ_self _) up_eq up_eq (by unfold vp_in; decide) (rw3_s2 _ _) dX4_apart_119 (fun H locs B => ?_)
        rw [bx_uu] at B
        have ev := (show v_X4_apart tj0 tj1 = some ((((12 * (tj1.1 - tj0.1)) + tj1.2.1) - tj0.2.1) / 12, (((12 * (tj1.1 - tj0.1)) + tj1.2.1) - tj0.2.1) - (((12 * (tj1.1 - tj0.1)) + tj1.2.1) - tj0.2.1) / 12 * 12, (v_X4_number tj1) - (v_X4_number t10)) from by unfold v_X4_apart; rw [if_neg c1, if_pos c7, if_pos c8, om_some o10])
        have B : WB g (aw N ad sz) s.heap (N + 1) (va_up ad N z9) (va_up f N (c_row g ((((12 * (tj1.1 - tj0.1)) + tj1.2.1) - tj0.2.1) / 12, (((12 * (tj1.1 - tj0.1)) + tj1.2.1) - tj0.2.1) - (((12 * (tj1.1 - tj0.1)) + tj1.2.1) - tj0.2.1) / 12 * 12, (v_X4_number tj1) - (v_X4_number t10)))) H locs := WB_pick B (by omega) (Nat.lt_succ_self _) (fun _ hk => (up_lt hk)) (fun _ hk => (up_lt hk)) up_eq up_eq
        exact rt_r (r := some z9) rfl X hr (Or.inr ⟨_, rfl⟩) (va_up ad N z9, va_up f N (c_row g ((((12 * (tj1.1 - tj0.1)) + tj1.2.1) - tj0.2.1) / 12, (((12 * (tj1.1 - tj0.1)) + tj1.2.1) - tj0.2.1) - (((12 * (tj1.1 - tj0.1)) + tj1.2.1) - tj0.2.1) / 12 * 12, (v_X4_number tj1) - (v_X4_number t10)))) B (by rw [ev]; exact PO_of B) (by rw [ev]; exact pw_is) (Nat.le_of_ble_eq_true rfl) (Nat.le_of_ble_eq_true rfl) dX4_apart_120
      · refine lv_iload_n hx hb dX4_apart_79 rfl (lv_at hl 1 rfl) ?_
        refine lv_if_ge (tgt := 86) hx hb dX4_apart_80 (by decide) (fun c11 => ?_) (fun c11 => ?_)
        · refine lv_iconst (v := 3) hx hb dX4_apart_86 (by decide) ?_
          refine h_new3 (cz := 1) (sz := 3) X hA hK B (Nat.le_of_ble_eq_true rfl) (Nat.le_of_ble_eq_true rfl) (Nat.le_of_ble_eq_true rfl) (Nat.le_of_ble_eq_true rfl) dX4_apart_87 (fun z12 H B => ?_)
          refine lv_dup hx hb dX4_apart_89 rfl ?_
          refine lv_iconst (v := 0) hx hb dX4_apart_90 (by decide) ?_
          refine lv_iload_n hx hb dX4_apart_91 rfl (lv_at hl 1 rfl) ?_
          refine lv_bipush (v := 12) hx hb dX4_apart_92 (by decide) ?_
          refine lv_idiv hx hb dX4_apart_94 (by decide) ?_
          refine h_st (t := (0, 0, 0)) (t' := ((((12 * (tj1.1 - tj0.1)) + tj1.2.1) - tj0.2.1) / 12, 0, 0)) X hK B (Nat.lt_succ_self _) up_eq up_eq (by unfold vp_in; decide) (rw3_s0 _ _) dX4_apart_95 (fun H locs B => ?_)
          rw [bx_uu] at B
          refine lv_dup hx hb dX4_apart_96 rfl ?_
          refine lv_iconst (v := 1) hx hb dX4_apart_97 (by decide) ?_
          refine lv_iload_n hx hb dX4_apart_98 rfl (lv_at hl 1 rfl) ?_
          refine lv_bipush (v := 12) hx hb dX4_apart_99 (by decide) ?_
          refine lv_irem hx hb dX4_apart_101 (by decide) ?_
          refine h_st (t := ((((12 * (tj1.1 - tj0.1)) + tj1.2.1) - tj0.2.1) / 12, 0, 0)) (t' := ((((12 * (tj1.1 - tj0.1)) + tj1.2.1) - tj0.2.1) / 12, (((12 * (tj1.1 - tj0.1)) + tj1.2.1) - tj0.2.1) - (((12 * (tj1.1 - tj0.1)) + tj1.2.1) - tj0.2.1) / 12 * 12, 0)) X hK B (Nat.lt_succ_self _) up_eq up_eq (by unfold vp_in; decide) (rw3_s1 _ _) dX4_apart_102 (fun H locs B => ?_)
          rw [bx_uu] at B
          refine lv_dup hx hb dX4_apart_103 rfl ?_
          refine lv_iconst (v := 2) hx hb dX4_apart_104 (by decide) ?_
          refine lv_aload_n hx hb dX4_apart_105 rfl (lv_at hl 3 rfl) ?_
          refine k_i (k := 1) (n := 3) hA B (u_S (rest := [.int 2, .ref z12, .ref z12]) X (c_X4_number l g (N + 1) (va_up ad N z12) (va_up f N (c_row g ((((12 * (tj1.1 - tj0.1)) + tj1.2.1) - tj0.2.1) / 12, (((12 * (tj1.1 - tj0.1)) + tj1.2.1) - tj0.2.1) - (((12 * (tj1.1 - tj0.1)) + tj1.2.1) - tj0.2.1) / 12 * 12, 0))) j1 bj1 tj1 (Nat.lt_succ_of_lt hj1) ((up_lt hj1).trans hbj1) ((up_lt hj1).trans hfj1) (okd_mo hdb) H.size) mw_X4_number md_X4_number rfl lk_X4_198 ⟨Nat.le_of_ble_eq_true rfl, Nat.le_of_ble_eq_true rfl⟩ hA hK hT B hl.1 rfl (Nat.le_of_ble_eq_true rfl) dX4_apart_106 ⟨Nat.le_of_ble_eq_true rfl, Nat.le_of_ble_eq_true rfl⟩) (Nat.le_of_ble_eq_true rfl) (Nat.le_of_ble_eq_true rfl) (fun r ad' f' H locs hw B => ?_)
          obtain ⟨rfl, rfl, rfl⟩ := hw
          refine lv_aload_n hx hb dX4_apart_109 rfl (lv_at hl 2 rfl) ?_
          refine lv_iload_n hx hb dX4_apart_110 rfl (lv_at hl 1 rfl) ?_
          refine lv_i2l (v := (((12 * (tj1.1 - tj0.1)) + tj1.2.1) - tj0.2.1).toInt64) hx hb dX4_apart_111 rfl ?_
          refine k_r (k := 2) (n := 6) hA B (u_S (rest := [.int (v_X4_number tj1), .int 2, .ref z12, .ref z12]) X (c_X4_onByMonths l g (N + 1) (va_up ad N z12) (va_up f N (c_row g ((((12 * (tj1.1 - tj0.1)) + tj1.2.1) - tj0.2.1) / 12, (((12 * (tj1.1 - tj0.1)) + tj1.2.1) - tj0.2.1) - (((12 * (tj1.1 - tj0.1)) + tj1.2.1) - tj0.2.1) / 12 * 12, 0))) j0 bj0 tj0 (Nat.lt_succ_of_lt hj0) ((up_lt hj0).trans hbj0) ((up_lt hj0).trans hfj0) ((((12 * (tj1.1 - tj0.1)) + tj1.2.1) - tj0.2.1).toInt64) H.size) mw_X4_onByMonths md_X4_onByMonths rfl lk_X4_194 ⟨Nat.le_of_ble_eq_true rfl, Nat.le_of_ble_eq_true rfl⟩ hA hK hT B hl.1 rfl (Nat.le_of_ble_eq_true rfl) dX4_apart_112 ⟨Nat.le_of_ble_eq_true rfl, Nat.le_of_ble_eq_true rfl⟩) (Nat.le_of_ble_eq_true rfl) (Nat.le_of_ble_eq_true rfl) (fun r ad' f' H locs hw B => ?_)
          generalize o13 : (v_X4_onByMonths tj0 ((((12 * (tj1.1 - tj0.1)) + tj1.2.1) - tj0.2.1).toInt64)) = v9 at hw B
          obtain ⟨t13, rfl⟩ : ∃ t, v9 = some t := by cases v9 with | none => exact absurd o13 (ap_0 hda hdb) | some t => exact ⟨t, rfl⟩
          obtain ⟨z13, rfl, rfl, rfl⟩ := pw_s hw
          refine k_i (k := 2) (n := 6) hA B (u_S (rest := [.int (v_X4_number tj1), .int 2, .ref z12, .ref z12]) X (c_X4_number l g (N + 1 + 1) (va_up (va_up ad N z12) (N + 1) z13) (va_up (va_up f N (c_row g ((((12 * (tj1.1 - tj0.1)) + tj1.2.1) - tj0.2.1) / 12, (((12 * (tj1.1 - tj0.1)) + tj1.2.1) - tj0.2.1) - (((12 * (tj1.1 - tj0.1)) + tj1.2.1) - tj0.2.1) / 12 * 12, 0))) (N + 1) (c_row g t13)) (N + 1) z13 t13 (Nat.lt_succ_self _) up_eq up_eq (onb_mo o13) H.size) mw_X4_number md_X4_number rfl lk_X4_198 ⟨Nat.le_of_ble_eq_true rfl, Nat.le_of_ble_eq_true rfl⟩ hA hK hT B hl.1 rfl (Nat.le_of_ble_eq_true rfl) dX4_apart_115 ⟨Nat.le_of_ble_eq_true rfl, Nat.le_of_ble_eq_true rfl⟩) (Nat.le_of_ble_eq_true rfl) (Nat.le_of_ble_eq_true rfl) (fun r ad' f' H locs hw B => ?_)
          obtain ⟨rfl, rfl, rfl⟩ := hw
          refine lv_isub hx hb dX4_apart_118 ?_
          have B : WB g (aw N ad sz) s.heap (N + 1) (va_up ad N z12) (va_up f N (c_row g ((((12 * (tj1.1 - tj0.1)) + tj1.2.1) - tj0.2.1) / 12, (((12 * (tj1.1 - tj0.1)) + tj1.2.1) - tj0.2.1) - (((12 * (tj1.1 - tj0.1)) + tj1.2.1) - tj0.2.1) / 12 * 12, 0))) H locs := B.drop (by omega) (fun _ hk => (up_lt hk)) (fun _ hk => (up_lt hk))
          refine h_st (t := ((((12 * (tj1.1 - tj0.1)) + tj1.2.1) - tj0.2.1) / 12, (((12 * (tj1.1 - tj0.1)) + tj1.2.1) - tj0.2.1) - (((12 * (tj1.1 - tj0.1)) + tj1.2.1) - tj0.2.1) / 12 * 12, 0)) (t' := ((((12 * (tj1.1 - tj0.1)) + tj1.2.1) - tj0.2.1) / 12, (((12 * (tj1.1 - tj0.1)) + tj1.2.1) - tj0.2.1) - (((12 * (tj1.1 - tj0.1)) + tj1.2.1) - tj0.2.1) / 12 * 12, (v_X4_number tj1) - (v_X4_number t13))) X hK B (Nat.lt_succ_self _) up_eq up_eq (by unfold vp_in; decide) (rw3_s2 _ _) dX4_apart_119 (fun H locs B => ?_)
          rw [bx_uu] at B
          have ev := (show v_X4_apart tj0 tj1 = some ((((12 * (tj1.1 - tj0.1)) + tj1.2.1) - tj0.2.1) / 12, (((12 * (tj1.1 - tj0.1)) + tj1.2.1) - tj0.2.1) - (((12 * (tj1.1 - tj0.1)) + tj1.2.1) - tj0.2.1) / 12 * 12, (v_X4_number tj1) - (v_X4_number t13)) from by unfold v_X4_apart; rw [if_neg c1, if_pos c7, if_neg c8, if_pos c11, om_some o13])
          have B : WB g (aw N ad sz) s.heap (N + 1) (va_up ad N z12) (va_up f N (c_row g ((((12 * (tj1.1 - tj0.1)) + tj1.2.1) - tj0.2.1) / 12, (((12 * (tj1.1 - tj0.1)) + tj1.2.1) - tj0.2.1) - (((12 * (tj1.1 - tj0.1)) + tj1.2.1) - tj0.2.1) / 12 * 12, (v_X4_number tj1) - (v_X4_number t13)))) H locs := WB_pick B (by omega) (Nat.lt_succ_self _) (fun _ hk => (up_lt hk)) (fun _ hk => (up_lt hk)) up_eq up_eq
          exact rt_r (r := some z12) rfl X hr (Or.inr ⟨_, rfl⟩) (va_up ad N z12, va_up f N (c_row g ((((12 * (tj1.1 - tj0.1)) + tj1.2.1) - tj0.2.1) / 12, (((12 * (tj1.1 - tj0.1)) + tj1.2.1) - tj0.2.1) - (((12 * (tj1.1 - tj0.1)) + tj1.2.1) - tj0.2.1) / 12 * 12, (v_X4_number tj1) - (v_X4_number t13)))) B (by rw [ev]; exact PO_of B) (by rw [ev]; exact pw_is) (Nat.le_of_ble_eq_true rfl) (Nat.le_of_ble_eq_true rfl) dX4_apart_120
        · refine lv_iinc (v := (((12 * (tj1.1 - tj0.1)) + tj1.2.1) - tj0.2.1) + 1) (lv' := [(2, .int ((((12 * (tj1.1 - tj0.1)) + tj1.2.1) - tj0.2.1) + 1)), (3, .int 1), (0, .ref bj0), (1, .ref bj1)]) hx hb dX4_apart_83 hl (k := 1) rfl rfl (by decide) rfl (fun ls hl => ?_)
          refine lv_iconst (v := 3) hx hb dX4_apart_86 (by decide) ?_
          refine h_new3 (cz := 1) (sz := 3) X hA hK B (Nat.le_of_ble_eq_true rfl) (Nat.le_of_ble_eq_true rfl) (Nat.le_of_ble_eq_true rfl) (Nat.le_of_ble_eq_true rfl) dX4_apart_87 (fun z14 H B => ?_)
          refine lv_dup hx hb dX4_apart_89 rfl ?_
          refine lv_iconst (v := 0) hx hb dX4_apart_90 (by decide) ?_
          refine lv_iload_n hx hb dX4_apart_91 rfl (lv_at hl 0 rfl) ?_
          refine lv_bipush (v := 12) hx hb dX4_apart_92 (by decide) ?_
          refine lv_idiv hx hb dX4_apart_94 (by decide) ?_
          refine h_st (t := (0, 0, 0)) (t' := (((((12 * (tj1.1 - tj0.1)) + tj1.2.1) - tj0.2.1) + 1) / 12, 0, 0)) X hK B (Nat.lt_succ_self _) up_eq up_eq (by unfold vp_in; decide) (rw3_s0 _ _) dX4_apart_95 (fun H locs B => ?_)
          rw [bx_uu] at B
          refine lv_dup hx hb dX4_apart_96 rfl ?_
          refine lv_iconst (v := 1) hx hb dX4_apart_97 (by decide) ?_
          refine lv_iload_n hx hb dX4_apart_98 rfl (lv_at hl 0 rfl) ?_
          refine lv_bipush (v := 12) hx hb dX4_apart_99 (by decide) ?_
          refine lv_irem hx hb dX4_apart_101 (by decide) ?_
          refine h_st (t := (((((12 * (tj1.1 - tj0.1)) + tj1.2.1) - tj0.2.1) + 1) / 12, 0, 0)) (t' := (((((12 * (tj1.1 - tj0.1)) + tj1.2.1) - tj0.2.1) + 1) / 12, ((((12 * (tj1.1 - tj0.1)) + tj1.2.1) - tj0.2.1) + 1) - ((((12 * (tj1.1 - tj0.1)) + tj1.2.1) - tj0.2.1) + 1) / 12 * 12, 0)) X hK B (Nat.lt_succ_self _) up_eq up_eq (by unfold vp_in; decide) (rw3_s1 _ _) dX4_apart_102 (fun H locs B => ?_)
          rw [bx_uu] at B
          refine lv_dup hx hb dX4_apart_103 rfl ?_
          refine lv_iconst (v := 2) hx hb dX4_apart_104 (by decide) ?_
          refine lv_aload_n hx hb dX4_apart_105 rfl (lv_at hl 3 rfl) ?_
          refine k_i (k := 1) (n := 3) hA B (u_S (rest := [.int 2, .ref z14, .ref z14]) X (c_X4_number l g (N + 1) (va_up ad N z14) (va_up f N (c_row g (((((12 * (tj1.1 - tj0.1)) + tj1.2.1) - tj0.2.1) + 1) / 12, ((((12 * (tj1.1 - tj0.1)) + tj1.2.1) - tj0.2.1) + 1) - ((((12 * (tj1.1 - tj0.1)) + tj1.2.1) - tj0.2.1) + 1) / 12 * 12, 0))) j1 bj1 tj1 (Nat.lt_succ_of_lt hj1) ((up_lt hj1).trans hbj1) ((up_lt hj1).trans hfj1) (okd_mo hdb) H.size) mw_X4_number md_X4_number rfl lk_X4_198 ⟨Nat.le_of_ble_eq_true rfl, Nat.le_of_ble_eq_true rfl⟩ hA hK hT B hl.1 rfl (Nat.le_of_ble_eq_true rfl) dX4_apart_106 ⟨Nat.le_of_ble_eq_true rfl, Nat.le_of_ble_eq_true rfl⟩) (Nat.le_of_ble_eq_true rfl) (Nat.le_of_ble_eq_true rfl) (fun r ad' f' H locs hw B => ?_)
          obtain ⟨rfl, rfl, rfl⟩ := hw
          refine lv_aload_n hx hb dX4_apart_109 rfl (lv_at hl 2 rfl) ?_
          refine lv_iload_n hx hb dX4_apart_110 rfl (lv_at hl 0 rfl) ?_
          refine lv_i2l (v := ((((12 * (tj1.1 - tj0.1)) + tj1.2.1) - tj0.2.1) + 1).toInt64) hx hb dX4_apart_111 rfl ?_
          refine k_r (k := 2) (n := 6) hA B (u_S (rest := [.int (v_X4_number tj1), .int 2, .ref z14, .ref z14]) X (c_X4_onByMonths l g (N + 1) (va_up ad N z14) (va_up f N (c_row g (((((12 * (tj1.1 - tj0.1)) + tj1.2.1) - tj0.2.1) + 1) / 12, ((((12 * (tj1.1 - tj0.1)) + tj1.2.1) - tj0.2.1) + 1) - ((((12 * (tj1.1 - tj0.1)) + tj1.2.1) - tj0.2.1) + 1) / 12 * 12, 0))) j0 bj0 tj0 (Nat.lt_succ_of_lt hj0) ((up_lt hj0).trans hbj0) ((up_lt hj0).trans hfj0) (((((12 * (tj1.1 - tj0.1)) + tj1.2.1) - tj0.2.1) + 1).toInt64) H.size) mw_X4_onByMonths md_X4_onByMonths rfl lk_X4_194 ⟨Nat.le_of_ble_eq_true rfl, Nat.le_of_ble_eq_true rfl⟩ hA hK hT B hl.1 rfl (Nat.le_of_ble_eq_true rfl) dX4_apart_112 ⟨Nat.le_of_ble_eq_true rfl, Nat.le_of_ble_eq_true rfl⟩) (Nat.le_of_ble_eq_true rfl) (Nat.le_of_ble_eq_true rfl) (fun r ad' f' H locs hw B => ?_)
          generalize o15 : (v_X4_onByMonths tj0 (((((12 * (tj1.1 - tj0.1)) + tj1.2.1) - tj0.2.1) + 1).toInt64)) = v9 at hw B
          obtain ⟨t15, rfl⟩ : ∃ t, v9 = some t := by cases v9 with | none => exact absurd o15 (ap_p hda hdb c11) | some t => exact ⟨t, rfl⟩
          obtain ⟨z15, rfl, rfl, rfl⟩ := pw_s hw
          refine k_i (k := 2) (n := 6) hA B (u_S (rest := [.int (v_X4_number tj1), .int 2, .ref z14, .ref z14]) X (c_X4_number l g (N + 1 + 1) (va_up (va_up ad N z14) (N + 1) z15) (va_up (va_up f N (c_row g (((((12 * (tj1.1 - tj0.1)) + tj1.2.1) - tj0.2.1) + 1) / 12, ((((12 * (tj1.1 - tj0.1)) + tj1.2.1) - tj0.2.1) + 1) - ((((12 * (tj1.1 - tj0.1)) + tj1.2.1) - tj0.2.1) + 1) / 12 * 12, 0))) (N + 1) (c_row g t15)) (N + 1) z15 t15 (Nat.lt_succ_self _) up_eq up_eq (onb_mo o15) H.size) mw_X4_number md_X4_number rfl lk_X4_198 ⟨Nat.le_of_ble_eq_true rfl, Nat.le_of_ble_eq_true rfl⟩ hA hK hT B hl.1 rfl (Nat.le_of_ble_eq_true rfl) dX4_apart_115 ⟨Nat.le_of_ble_eq_true rfl, Nat.le_of_ble_eq_true rfl⟩) (Nat.le_of_ble_eq_true rfl) (Nat.le_of_ble_eq_true rfl) (fun r ad' f' H locs hw B => ?_)
          obtain ⟨rfl, rfl, rfl⟩ := hw
          refine lv_isub hx hb dX4_apart_118 ?_
          have B : WB g (aw N ad sz) s.heap (N + 1) (va_up ad N z14) (va_up f N (c_row g (((((12 * (tj1.1 - tj0.1)) + tj1.2.1) - tj0.2.1) + 1) / 12, ((((12 * (tj1.1 - tj0.1)) + tj1.2.1) - tj0.2.1) + 1) - ((((12 * (tj1.1 - tj0.1)) + tj1.2.1) - tj0.2.1) + 1) / 12 * 12, 0))) H locs := B.drop (by omega) (fun _ hk => (up_lt hk)) (fun _ hk => (up_lt hk))
          refine h_st (t := (((((12 * (tj1.1 - tj0.1)) + tj1.2.1) - tj0.2.1) + 1) / 12, ((((12 * (tj1.1 - tj0.1)) + tj1.2.1) - tj0.2.1) + 1) - ((((12 * (tj1.1 - tj0.1)) + tj1.2.1) - tj0.2.1) + 1) / 12 * 12, 0)) (t' := (((((12 * (tj1.1 - tj0.1)) + tj1.2.1) - tj0.2.1) + 1) / 12, ((((12 * (tj1.1 - tj0.1)) + tj1.2.1) - tj0.2.1) + 1) - ((((12 * (tj1.1 - tj0.1)) + tj1.2.1) - tj0.2.1) + 1) / 12 * 12, (v_X4_number tj1) - (v_X4_number t15))) X hK B (Nat.lt_succ_self _) up_eq up_eq (by unfold vp_in; decide) (rw3_s2 _ _) dX4_apart_119 (fun H locs B => ?_)
          rw [bx_uu] at B
          have ev := (show v_X4_apart tj0 tj1 = some (((((12 * (tj1.1 - tj0.1)) + tj1.2.1) - tj0.2.1) + 1) / 12, ((((12 * (tj1.1 - tj0.1)) + tj1.2.1) - tj0.2.1) + 1) - ((((12 * (tj1.1 - tj0.1)) + tj1.2.1) - tj0.2.1) + 1) / 12 * 12, (v_X4_number tj1) - (v_X4_number t15)) from by unfold v_X4_apart; rw [if_neg c1, if_pos c7, if_neg c8, if_neg c11, om_some o15])
          have B : WB g (aw N ad sz) s.heap (N + 1) (va_up ad N z14) (va_up f N (c_row g (((((12 * (tj1.1 - tj0.1)) + tj1.2.1) - tj0.2.1) + 1) / 12, ((((12 * (tj1.1 - tj0.1)) + tj1.2.1) - tj0.2.1) + 1) - ((((12 * (tj1.1 - tj0.1)) + tj1.2.1) - tj0.2.1) + 1) / 12 * 12, (v_X4_number tj1) - (v_X4_number t15)))) H locs := WB_pick B (by omega) (Nat.lt_succ_self _) (fun _ hk => (up_lt hk)) (fun _ hk => (up_lt hk)) up_eq up_eq
          exact rt_r (r := some z14) rfl X hr (Or.inr ⟨_, rfl⟩) (va_up ad N z14, va_up f N (c_row g (((((12 * (tj1.1 - tj0.1)) + tj1.2.1) - tj0.2.1) + 1) / 12, ((((12 * (tj1.1 - tj0.1)) + tj1.2.1) - tj0.2.1) + 1) - ((((12 * (tj1.1 - tj0.1)) + tj1.2.1) - tj0.2.1) + 1) / 12 * 12, (v_X4_number tj1) - (v_X4_number t15)))) B (by rw [ev]; exact PO_of B) (by rw [ev]; exact pw_is) (Nat.le_of_ble_eq_true rfl) (Nat.le_of_ble_eq_true rfl) dX4_apart_120
    · refine lv_null hx hb dX4_apart_48 ?_
      have ev := (show v_X4_apart tj0 tj1 = none from by unfold v_X4_apart; rw [if_neg c1, if_neg c7])
      exact rt_r (r := none) rfl X hr (Or.inr ⟨_, rfl⟩) (ad, f) B (by rw [ev]; exact PO_of B) (by rw [ev]; exact pw_in) (Nat.le_of_ble_eq_true rfl) (Nat.le_of_ble_eq_true rfl) dX4_apart_49
def wX4_addedUp_6 (tj0 : TR) (a1 : Int32) : Nat → Int32 → TR → Option TR
  | 0, kk, tm => none
  | n + 1, kk, tm => if a1 ≤ kk then (some tm) else (om (v_X4_sum tm 1 tj0) (if a1 ≤ (kk + 1) then none else none) (fun t4 => wX4_addedUp_6 tj0 a1 n (kk + 1) t4))
def v_X4_addedUp (tj0 : TR) (a1 : Int32) : Option TR := wX4_addedUp_6 tj0 a1 ((a1.toInt - (0 : Int32).toInt).toNat + 1) 0 (v_X4_nothing)
set_option maxHeartbeats 4000000 in
set_option maxRecDepth 100000 in
theorem c_X4_addedUp (l : Launch) (g : GG) (N : Nat) (ad : Nat → Nat) (f : Nat → va_E) (j0 bj0 : Nat) (tj0 : TR) (hj0 : j0 < N) (hbj0 : ad j0 = bj0) (hfj0 : f j0 = c_row g tj0) (a1 : Int32) (ha : ¬ 9 < a1) : KR l yX4_addedUp cX4_addedUp 4 (.array .int) (rm 3 11 33) g [.ref bj0, .int a1] N ad f (N + nz (v_X4_addedUp tj0 a1)) (fun r ad' f' => pw g (v_X4_addedUp tj0 a1) N ad f r ad' f') := by
  intro sz
  refine mt_start (by decide) (Nat.le_of_ble_eq_true rfl) ?_
  intro p e s m args below meth c hsz X hr hnam hA hK hT H locs B ls hl
  obtain ⟨hx, hb, hml, hown, hts, hlocks⟩ := id X
  have hl : lv_has ls 4 [(0, .ref bj0), (1, .int a1)] := hl
  refine k_r (k := 1) (n := 3) hA B (u_S (rest := []) X (c_X4_nothing l g N ad f H.size) mw_X4_nothing md_X4_nothing rfl lk_X4_51 ⟨Nat.le_of_ble_eq_true rfl, Nat.le_of_ble_eq_true rfl⟩ hA hK hT B hl.1 rfl (Nat.le_of_ble_eq_true rfl) dX4_addedUp_0 ⟨Nat.le_of_ble_eq_true rfl, Nat.le_of_ble_eq_true rfl⟩) (Nat.le_of_ble_eq_true rfl) (Nat.le_of_ble_eq_true rfl) (fun r ad' f' H locs hw B => ?_)
  obtain ⟨z1, rfl, rfl, rfl⟩ := hw
  refine lv_astore_n (lv' := [(2, .ref z1), (0, .ref bj0), (1, .int a1)]) hx hb dX4_addedUp_3 rfl hl (by decide) rfl (fun ls hl => ?_)
  refine lv_iconst (v := 0) hx hb dX4_addedUp_4 (by decide) ?_
  refine lv_istore_n (lv' := [(3, .int 0), (2, .ref z1), (0, .ref bj0), (1, .int a1)]) hx hb dX4_addedUp_5 rfl hl (by decide) rfl (fun ls hl => ?_)
  have loop2 : ∀ (n2 : Nat) (kk : Int32) (tm : TR) (atm : Nat) (C2 : Nat) (S2 : Nat) (H : Heap) (locs : List Loc), C2 + n2 * 1 ≤ 11 → S2 + n2 * 3 ≤ 33 → (a1.toInt - kk.toInt).toNat < n2 → v_X4_addedUp tj0 a1 = wX4_addedUp_6 tj0 a1 n2 kk tm → WB g (aw N ad sz) s.heap (N + 1) (va_up ad N atm) (va_up f N (c_row g tm)) H locs → ∀ ls : Array Slot, lv_has ls 4 [(3, .int kk), (2, .ref atm), (0, .ref bj0), (1, .int a1)] → W p l e (rm 3 11 33) s m args below meth c H locs C2 S2 (MQ below (va_Qq (fun r (u : WS) => (fun r ad' f' => pw g (v_X4_addedUp tj0 a1) N ad f r ad' f') r u.1 u.2) (fun u t => PO g (N + nz (v_X4_addedUp tj0 a1)) u.1 u.2 (aw N ad sz) t) (aw N ad sz)) args s (rm 3 11 33).cells (rm 3 11 33).slots (aw N ad sz)) (F0 m 6 ls []) := by
    intro n2
    induction n2 with
    | zero => intro kk tm atm C2 S2 H locs _ _ hn; exact absurd hn (Nat.not_lt_zero _)
    | succ n2 ih2 =>
      intro kk tm atm C2 S2 H locs hC2 hS2 hn2 he2 B ls hl
      refine lv_iload_n hx hb dX4_addedUp_6 rfl (lv_at hl 0 rfl) ?_
      refine lv_iload_n hx hb dX4_addedUp_7 rfl (lv_at hl 3 rfl) ?_
      refine lv_icmp_ge (tgt := 28) hx hb dX4_addedUp_8 (by decide) (fun c3 => ?_) (fun c3 => ?_)
      · refine W.widen (show (C2 + 0) ≤ 11 by omega) (show (S2 + 0) ≤ 33 by omega) ?_
        refine lv_aload_n hx hb dX4_addedUp_28 rfl (lv_at hl 1 rfl) ?_
        have ev := (show v_X4_addedUp tj0 a1 = some tm from he2.trans (by rw [wX4_addedUp_6, if_pos c3]))
        have B : WB g (aw N ad sz) s.heap (N + 1) (va_up ad N atm) (va_up f N (c_row g tm)) H locs := WB_pick B (by omega) (Nat.lt_succ_self _) (fun _ hk => (up_lt hk)) (fun _ hk => (up_lt hk)) up_eq up_eq
        exact rt_r (r := some atm) rfl X hr (Or.inr ⟨_, rfl⟩) (va_up ad N atm, va_up f N (c_row g tm)) B (by rw [ev]; exact PO_of B) (by rw [ev]; exact pw_is) (Nat.le_of_ble_eq_true rfl) (Nat.le_of_ble_eq_true rfl) dX4_addedUp_29
      · refine lv_aload_n hx hb dX4_addedUp_11 rfl (lv_at hl 1 rfl) ?_
        refine lv_ifnull hx hb dX4_addedUp_12 ?_
        refine lv_aload_n hx hb dX4_addedUp_15 rfl (lv_at hl 1 rfl) ?_
        refine lv_lconst (v := 1) hx hb dX4_addedUp_16 (by decide) ?_
        refine lv_aload_n hx hb dX4_addedUp_17 rfl (lv_at hl 2 rfl) ?_
        refine k_r (k := (C2 + 1)) (n := (S2 + 3)) hA B (u_S (rest := []) X (c_X4_sum l g (N + 1) (va_up ad N atm) (va_up f N (c_row g tm)) N atm tm (Nat.lt_succ_self _) up_eq up_eq 1 j0 bj0 tj0 (Nat.lt_succ_of_lt hj0) ((up_lt hj0).trans hbj0) ((up_lt hj0).trans hfj0) H.size) mw_X4_sum md_X4_sum rfl lk_X4_57 ⟨Nat.le_of_ble_eq_true rfl, Nat.le_of_ble_eq_true rfl⟩ hA hK hT B hl.1 rfl (Nat.le_of_ble_eq_true rfl) dX4_addedUp_18 (by dsimp only [rm]; omega)) (by dsimp only [rm]; omega) (by dsimp only [rm]; omega) (fun r ad' f' H locs hw B => ?_)
        generalize o4 : (v_X4_sum tm 1 tj0) = v9 at hw B
        cases v9 with
        | none =>
          obtain ⟨rfl, rfl, rfl⟩ := pw_n hw
          refine lv_astore_nN (lv' := [(2, .null), (3, .int kk), (0, .ref bj0), (1, .int a1)]) hx hb dX4_addedUp_21 rfl hl (by decide) rfl (fun ls hl => ?_)
          refine lv_iinc (v := kk + 1) (lv' := [(3, .int (kk + 1)), (2, .null), (0, .ref bj0), (1, .int a1)]) hx hb dX4_addedUp_22 hl (k := 1) rfl rfl (by decide) rfl (fun ls hl => ?_)
          refine lv_goto (tgt := 6) hx hb dX4_addedUp_25 (by decide) ?_
          refine lv_iload_n hx hb dX4_addedUp_6 rfl (lv_at hl 0 rfl) ?_
          refine lv_iload_n hx hb dX4_addedUp_7 rfl (lv_at hl 3 rfl) ?_
          refine lv_icmp_ge (tgt := 28) hx hb dX4_addedUp_8 (by decide) (fun c5 => ?_) (fun c5 => ?_)
          · refine W.widen (show (C2 + 1) ≤ 11 by omega) (show (S2 + 3) ≤ 33 by omega) ?_
            refine lv_aload_nN hx hb dX4_addedUp_28 rfl (lv_at hl 1 rfl) ?_
            have ev := (show v_X4_addedUp tj0 a1 = none from he2.trans (by rw [wX4_addedUp_6, if_neg c3, om_none o4, if_pos c5]))
            have B : WB g (aw N ad sz) s.heap N ad f H locs := B.drop (by omega) (fun _ hk => (up_lt hk)) (fun _ hk => (up_lt hk))
            exact rt_r (r := none) rfl X hr (Or.inr ⟨_, rfl⟩) (ad, f) B (by rw [ev]; exact PO_of B) (by rw [ev]; exact pw_in) (Nat.le_of_ble_eq_true rfl) (Nat.le_of_ble_eq_true rfl) dX4_addedUp_29
          · refine lv_aload_nN hx hb dX4_addedUp_11 rfl (lv_at hl 1 rfl) ?_
            refine lv_ifnullN (tgt := 28) hx hb dX4_addedUp_12 (by decide) ?_
            refine W.widen (show (C2 + 1) ≤ 11 by omega) (show (S2 + 3) ≤ 33 by omega) ?_
            refine lv_aload_nN hx hb dX4_addedUp_28 rfl (lv_at hl 1 rfl) ?_
            have ev := (show v_X4_addedUp tj0 a1 = none from he2.trans (by rw [wX4_addedUp_6, if_neg c3, om_none o4, if_neg c5]))
            have B : WB g (aw N ad sz) s.heap N ad f H locs := B.drop (by omega) (fun _ hk => (up_lt hk)) (fun _ hk => (up_lt hk))
            exact rt_r (r := none) rfl X hr (Or.inr ⟨_, rfl⟩) (ad, f) B (by rw [ev]; exact PO_of B) (by rw [ev]; exact pw_in) (Nat.le_of_ble_eq_true rfl) (Nat.le_of_ble_eq_true rfl) dX4_addedUp_29
        | some t4 =>
          obtain ⟨z4, rfl, rfl, rfl⟩ := pw_s hw
          refine lv_astore_n (lv' := [(2, .ref z4), (3, .int kk), (0, .ref bj0), (1, .int a1)]) hx hb dX4_addedUp_21 rfl hl (by decide) rfl (fun ls hl => ?_)
          refine lv_iinc (v := kk + 1) (lv' := [(3, .int (kk + 1)), (2, .ref z4), (0, .ref bj0), (1, .int a1)]) hx hb dX4_addedUp_22 hl (k := 1) rfl rfl (by decide) rfl (fun ls hl => ?_)
          refine lv_goto (tgt := 6) hx hb dX4_addedUp_25 (by decide) ?_
          have B : WB g (aw N ad sz) s.heap (N + 1) (va_up ad N z4) (va_up f N (c_row g t4)) H locs := WB_pick B (by omega) (Nat.lt_succ_self _) (fun _ hk => ((up_lt (Nat.lt_succ_of_lt hk)).trans (up_lt hk))) (fun _ hk => ((up_lt (Nat.lt_succ_of_lt hk)).trans (up_lt hk))) up_eq up_eq
          exact ih2 (kk + 1) t4 z4 (C2 + 1) (S2 + 3) H locs (by omega) (by omega) (fu_le c3 hn2) (show v_X4_addedUp tj0 a1 = wX4_addedUp_6 tj0 a1 n2 (kk + 1) t4 from he2.trans (by rw [wX4_addedUp_6, if_neg c3, om_some o4])) B ls (lv_sub hl [0, 1, 2, 3] rfl)
  have hT2 : (a1.toInt - (0 : Int32).toInt).toNat + 1 ≤ 10 := au_le ha
  exact loop2 ((a1.toInt - (0 : Int32).toInt).toNat + 1) 0 (v_X4_nothing) z1 1 3 H locs (by omega) (by omega) (Nat.lt_succ_self _) (show v_X4_addedUp tj0 a1 = wX4_addedUp_6 tj0 a1 ((a1.toInt - (0 : Int32).toInt).toNat + 1) 0 (v_X4_nothing) from rfl) B ls hl
end
section
theorem asg_self (vm : Vm) (c : ClassId) : vm.assignable c c = true := by
  show Vm.assignableAux vm (255 + 1) c c = true
  unfold Vm.assignableAux
  rw [beq_self_eq_true, Bool.true_or]
/-! the reference's world: 24 the object, 25 26 its arrays, 27 its list, 28.. its cards, 32.. its dates, from 36 its pile (pz: 0 nothing is made yet, else one more than lies there); what lies elsewhere is y -/
def va_eq (a b : va_E) : Prop := a = b ∨ ∃ (cA : ClassId) (n : Nat) (h h' : Nat → Option Nat), a = c_ar cA n h ∧ b = c_ar cA n h' ∧ ∀ j, j < n → h j = h' j
theorem va_eq.at {D : va_G} {cl : List vw_C} {q : Nat} {a b : va_E} {H : Heap} (h : va_eq a b) (hb : va_at D cl (q, b) H) : va_at D cl (q, a) H := by
  rcases h with rfl | ⟨cA, n, h, h', rfl, rfl, e⟩
  · exact hb
  · have e2 : vp_cell cA (n, .inr (.inr (.inr (.inr h)))) = vp_cell cA (n, .inr (.inr (.inr (.inr h')))) := by
      rw [vp_cell_q, vp_cell_q]
      unfold arrV
      congr 2
      funext j
      show va_rf (h j.val) = va_rf (h' j.val)
      rw [e j.val j.isLt]
    show H[q]? = some (vp_cell cA (n, .inr (.inr (.inr (.inr h)))))
    rw [e2]
    exact hb
/-- the same cells, in other places -/
theorem WB_map {g : GG} {A : Nat → Prop} {H0 H : Heap} {N M : Nat} {ad ad' : Nat → Nat} {f f' : Nat → va_E} {locs : List Loc} (r : Nat → Nat) (B : WB g A H0 M ad f H locs) (h0 : ∀ k, k < N → r k < M) (hi : ∀ i j, i < N → j < N → r i = r j → i = j) (h1 : ∀ k, k < N → ad' k = ad (r k)) (h2 : ∀ k, k < N → va_eq (f' k) (f (r k))) : WB g A H0 N ad' f' H locs := by
  obtain ⟨hP, hD, hS⟩ := B
  have hP := wd_P.mp hP
  obtain ⟨hi2, hA⟩ := wd_D.mp hD
  refine ⟨wd_P.mpr fun k hk => ?_, wd_D.mpr ⟨fun i j hi1 hj1 e => ?_, fun k hk => ?_⟩, hS⟩
  · rw [h1 k hk]
    exact (h2 k hk).at (hP (r k) (h0 k hk))
  · rw [h1 i hi1, h1 j hj1] at e
    exact hi i j hi1 hj1 (hi2 _ _ (h0 i hi1) (h0 j hj1) e)
  · rw [h1 k hk]
    exact hA _ (h0 k hk)
/-- the same cells, most of them in their places -/
theorem WB_same {g : GG} {A : Nat → Prop} {H0 H : Heap} {N M : Nat} {ad ad' : Nat → Nat} {f f' : Nat → va_E} {locs : List Loc} (B : WB g A H0 M ad f H locs) (h0 : N ≤ M) (h1 : ∀ k, k < N → ad' k = ad k) (h2 : ∀ k, k < N → va_eq (f' k) (f k)) : WB g A H0 N ad' f' H locs :=
  WB_map (fun k => k) B (fun _ h => Nat.lt_of_lt_of_le h h0) (fun _ _ _ _ e => e) h1 h2
abbrev c_md (ad : Nat → Nat) (th kn rf : Int32) : va_E := .inr (7, [.int th, .ref (ad 25), .ref (ad 27), .ref (ad 26), .int kn, .int rf])
abbrev c_al (g : GG) (ad : Nat → Nat) (pz : Nat) (mc : Int32) : va_E := .inr (2, [.int mc, .ref (if pz = 0 then g.2.2 3 else ad 36), .int (Int32.ofNat (pz - 1))])
def mg (g : GG) (ad : Nat → Nat) (y : Nat → va_E) (cr dr : Nat → TR) (th kn rf : Int32) (pl : Nat → TR) (pz : Nat) (mc : Int32) : Nat → va_E := fun k =>
  if k < 24 then y k
  else if k = 24 then c_md ad th kn rf
  else if k = 25 then c_ar (g.2.1 2) 4 (fun j => some (ad (28 + j)))
  else if k = 26 then c_ar (g.2.1 2) 4 (fun j => some (ad (32 + j)))
  else if k = 27 then c_al g ad pz mc
  else if k < 32 then c_row g (cr (k - 28))
  else if k < 36 then c_row g (dr (k - 32))
  else if k < 36 + pz then (if k = 36 then c_ar (g.2.1 5) 10 (fun j => if j + 1 < pz then some (ad (37 + j)) else none) else c_row g (pl (k - 37)))
  else y k
section MG
variable {g : GG} {ad ad' : Nat → Nat} {y y' : Nat → va_E} {cr dr : Nat → TR} {th kn rf : Int32} {pl : Nat → TR} {pz : Nat} {mc : Int32}
theorem mg_lo {k : Nat} (h : k < 24) : mg g ad y cr dr th kn rf pl pz mc k = y k := if_pos h
theorem mg_24 : mg g ad y cr dr th kn rf pl pz mc 24 = c_md ad th kn rf := rfl
theorem mg_25 : mg g ad y cr dr th kn rf pl pz mc 25 = c_ar (g.2.1 2) 4 (fun j => some (ad (28 + j))) := rfl
theorem mg_26 : mg g ad y cr dr th kn rf pl pz mc 26 = c_ar (g.2.1 2) 4 (fun j => some (ad (32 + j))) := rfl
theorem mg_27 : mg g ad y cr dr th kn rf pl pz mc 27 = c_al g ad pz mc := rfl
theorem mg_cr {i : Nat} (hi : i < 4) : mg g ad y cr dr th kn rf pl pz mc (28 + i) = c_row g (cr i) := by
  unfold mg
  rw [if_neg (by omega), if_neg (by omega), if_neg (by omega), if_neg (by omega), if_neg (by omega), if_pos (by omega), Nat.add_sub_cancel_left]
theorem mg_dr {i : Nat} (hi : i < 4) : mg g ad y cr dr th kn rf pl pz mc (32 + i) = c_row g (dr i) := by
  unfold mg
  rw [if_neg (by omega), if_neg (by omega), if_neg (by omega), if_neg (by omega), if_neg (by omega), if_neg (by omega), if_pos (by omega), Nat.add_sub_cancel_left]
theorem mg_ed (h : 0 < pz) : mg g ad y cr dr th kn rf pl pz mc 36 = c_ar (g.2.1 5) 10 (fun j => if j + 1 < pz then some (ad (37 + j)) else none) := by
  unfold mg
  rw [if_neg (by omega), if_neg (by omega), if_neg (by omega), if_neg (by omega), if_neg (by omega), if_neg (by omega), if_neg (by omega), if_pos (by omega), if_pos rfl]
theorem mg_pl {i : Nat} (hi : i + 1 < pz) : mg g ad y cr dr th kn rf pl pz mc (37 + i) = c_row g (pl i) := by
  unfold mg
  rw [if_neg (by omega), if_neg (by omega), if_neg (by omega), if_neg (by omega), if_neg (by omega), if_neg (by omega), if_neg (by omega), if_pos (by omega), if_neg (by omega), Nat.add_sub_cancel_left]
theorem mg_hi {k : Nat} (h : 36 + pz ≤ k) : mg g ad y cr dr th kn rf pl pz mc k = y k := by
  unfold mg
  rw [if_neg (by omega), if_neg (by omega), if_neg (by omega), if_neg (by omega), if_neg (by omega), if_neg (by omega), if_neg (by omega), if_neg (by omega)]
theorem mg_cases (pz k : Nat) : k < 24 ∨ k = 24 ∨ k = 25 ∨ k = 26 ∨ k = 27 ∨ (∃ i, i < 4 ∧ k = 28 + i) ∨ (∃ i, i < 4 ∧ k = 32 + i) ∨ (k = 36 ∧ 0 < pz) ∨ (∃ i, i + 1 < pz ∧ k = 37 + i) ∨ 36 + pz ≤ k := by
  by_cases h : k < 28
  · omega
  · by_cases h2 : k < 32
    · exact Or.inr (Or.inr (Or.inr (Or.inr (Or.inr (Or.inl ⟨k - 28, by omega, by omega⟩)))))
    · by_cases h3 : k < 36
      · exact Or.inr (Or.inr (Or.inr (Or.inr (Or.inr (Or.inr (Or.inl ⟨k - 32, by omega, by omega⟩))))))
      · by_cases h4 : 36 + pz ≤ k
        · omega
        · by_cases h5 : k = 36
          · omega
          · exact Or.inr (Or.inr (Or.inr (Or.inr (Or.inr (Or.inr (Or.inr (Or.inr (Or.inl ⟨k - 37, by omega, by omega⟩))))))))
/-- other addresses: the same where they are named -/
theorem mg_ad {k : Nat} (h : ∀ j, j < 36 + pz → 25 ≤ j → ad' j = ad j) (hy : y' k = y k) : va_eq (mg g ad' y' cr dr th kn rf pl pz mc k) (mg g ad y cr dr th kn rf pl pz mc k) := by
  rcases mg_cases pz k with h1 | rfl | rfl | rfl | rfl | ⟨i, hi, rfl⟩ | ⟨i, hi, rfl⟩ | ⟨rfl, hp⟩ | ⟨i, hi, rfl⟩ | h1
  · rw [mg_lo h1, mg_lo h1]; exact Or.inl hy
  · rw [mg_24, mg_24]; unfold c_md; rw [h 25 (by omega) (by omega), h 26 (by omega) (by omega), h 27 (by omega) (by omega)]; exact Or.inl rfl
  · rw [mg_25, mg_25]; exact Or.inr ⟨_, _, _, _, rfl, rfl, fun j hj => by rw [h _ (by omega) (by omega)]⟩
  · rw [mg_26, mg_26]; exact Or.inr ⟨_, _, _, _, rfl, rfl, fun j hj => by rw [h _ (by omega) (by omega)]⟩
  · rw [mg_27, mg_27]; unfold c_al
    by_cases hp : pz = 0
    · rw [if_pos hp, if_pos hp]; exact Or.inl rfl
    · rw [if_neg hp, if_neg hp, h 36 (by omega) (by omega)]; exact Or.inl rfl
  · rw [mg_cr hi, mg_cr hi]; exact Or.inl rfl
  · rw [mg_dr hi, mg_dr hi]; exact Or.inl rfl
  · rw [mg_ed hp, mg_ed hp]
    refine Or.inr ⟨_, _, _, _, rfl, rfl, fun j hj => ?_⟩
    by_cases h2 : j + 1 < pz
    · rw [if_pos h2, if_pos h2, h _ (by omega) (by omega)]
    · rw [if_neg h2, if_neg h2]
  · rw [mg_pl hi, mg_pl hi]; exact Or.inl rfl
  · rw [mg_hi h1, mg_hi h1]; exact Or.inl hy
theorem mg_up_md (th' kn' rf' : Int32) : va_up (mg g ad y cr dr th kn rf pl pz mc) 24 (c_md ad th' kn' rf') = mg g ad y cr dr th' kn' rf' pl pz mc := by
  funext k
  by_cases h : k = 24
  · rw [h, va_up_self, mg_24]
  · rw [va_up_ne _ _ h]
    unfold mg
    rw [if_neg h, if_neg h]
end MG
section WM
variable {g : GG} {A : Nat → Prop} {H0 H : Heap} {N M : Nat} {ad ad' : Nat → Nat} {y y' : Nat → va_E} {cr dr : Nat → TR} {th kn rf : Int32} {pl : Nat → TR} {pz : Nat} {mc : Int32} {locs : List Loc}
/-- a place more, into what lies elsewhere -/
theorem WM_push {a : Nat} {c : va_E} (hN : 36 + pz ≤ N) (B : WB g A H0 (N + 1) (va_up ad N a) (va_up (mg g ad y cr dr th kn rf pl pz mc) N c) H locs) : WB g A H0 (N + 1) (va_up ad N a) (mg g (va_up ad N a) (va_up y N c) cr dr th kn rf pl pz mc) H locs := by
  refine WB_same B (Nat.le_refl _) (fun _ _ => rfl) (fun k hk => ?_)
  by_cases h : k = N
  · subst h
    rw [mg_hi hN, va_up_self, va_up_self]
    exact Or.inl rfl
  · rw [va_up_ne _ _ h]
    exact mg_ad (fun j hj _ => va_up_ne _ _ (by omega)) (va_up_ne _ _ h)
/-- back to fewer places -/
theorem WM_drop (B : WB g A H0 M ad' (mg g ad' y' cr dr th kn rf pl pz mc) H locs) (hN : 36 + pz ≤ N) (h0 : N ≤ M) (h1 : ∀ k, k < N → ad' k = ad k) (h2 : ∀ k, k < N → y' k = y k) : WB g A H0 N ad (mg g ad y cr dr th kn rf pl pz mc) H locs :=
  WB_same B h0 (fun k hk => (h1 k hk).symm) (fun k hk => mg_ad (fun j hj _ => (h1 j (by omega)).symm) (h2 k hk).symm)
/-- a new row takes a card's place -/
theorem WM_cr {a i : Nat} {t : TR} {h0 : Nat → Option Nat} (B : WB g A H0 (N + 1) (va_up ad N a) (va_up (mg g (va_up ad N a) (va_up y N (c_row g t)) cr dr th kn rf pl pz mc) 25 (c_ar (g.2.1 2) 4 (va_up h0 i (some a)))) H locs) (hh : ∀ j, h0 j = some (va_up ad N a (28 + j))) (hN : 36 + pz ≤ N) (hi : i < 4) : WB g A H0 N (va_up ad (28 + i) a) (mg g (va_up ad (28 + i) a) y (va_up cr i t) dr th kn rf pl pz mc) H locs := by
  refine WB_map (fun k => if k = 28 + i then N else k) B (fun k hk => ?_) (fun p q hp hq e => ?_) (fun k hk => ?_) (fun k hk => ?_)
  · show (if k = 28 + i then N else k) < _
    by_cases h : k = 28 + i
    · rw [if_pos h]; omega
    · rw [if_neg h]; omega
  · have e : (if p = 28 + i then N else p) = (if q = 28 + i then N else q) := e
    by_cases h : p = 28 + i <;> by_cases h' : q = 28 + i
    · omega
    · rw [if_pos h, if_neg h'] at e; omega
    · rw [if_neg h, if_pos h'] at e; omega
    · rw [if_neg h, if_neg h'] at e; exact e
  · show _ = va_up ad N a (if k = 28 + i then N else k)
    by_cases h : k = 28 + i
    · rw [if_pos h, h, va_up_self, va_up_self]
    · rw [if_neg h, va_up_ne _ _ h, va_up_ne _ _ (by omega)]
  · show va_eq _ (va_up (mg g (va_up ad N a) (va_up y N (c_row g t)) cr dr th kn rf pl pz mc) 25 _ (if k = 28 + i then N else k))
    by_cases h : k = 28 + i
    · rw [if_pos h, h, mg_cr hi, va_up_self, va_up_ne _ _ (by omega), mg_hi hN, va_up_self]
      exact Or.inl rfl
    · rw [if_neg h]
      rcases mg_cases pz k with h1 | rfl | rfl | rfl | rfl | ⟨j, hj, rfl⟩ | ⟨j, hj, rfl⟩ | ⟨rfl, hp⟩ | ⟨j, hj, rfl⟩ | h1
      · rw [va_up_ne _ _ (by omega), mg_lo h1, mg_lo h1, va_up_ne _ _ (by omega)]; exact Or.inl rfl
      · rw [va_up_ne _ _ (by omega), mg_24, mg_24]; unfold c_md
        rw [va_up_ne _ _ (by omega), va_up_ne _ _ (by omega), va_up_ne _ _ (by omega), va_up_ne _ _ (by omega), va_up_ne _ _ (by omega), va_up_ne _ _ (by omega)]
        exact Or.inl rfl
      · rw [va_up_self, mg_25]
        refine Or.inr ⟨_, _, _, _, rfl, rfl, fun j hj => ?_⟩
        by_cases hji : j = i
        · rw [hji, va_up_self, va_up_self]
        · rw [va_up_ne _ _ (by omega), va_up_ne _ _ hji, hh, va_up_ne _ _ (by omega)]
      · rw [va_up_ne _ _ (by omega), mg_26, mg_26]
        exact Or.inr ⟨_, _, _, _, rfl, rfl, fun j hj => by rw [va_up_ne _ _ (by omega), va_up_ne _ _ (by omega)]⟩
      · rw [va_up_ne _ _ (by omega), mg_27, mg_27]; unfold c_al
        by_cases hp : pz = 0
        · rw [if_pos hp, if_pos hp]; exact Or.inl rfl
        · rw [if_neg hp, if_neg hp, va_up_ne _ _ (by omega), va_up_ne _ _ (by omega)]; exact Or.inl rfl
      · rw [va_up_ne _ _ (by omega), mg_cr hj, mg_cr hj, va_up_ne _ _ (by omega)]; exact Or.inl rfl
      · rw [va_up_ne _ _ (by omega), mg_dr hj, mg_dr hj]; exact Or.inl rfl
      · rw [va_up_ne _ _ (by omega), mg_ed hp, mg_ed hp]
        refine Or.inr ⟨_, _, _, _, rfl, rfl, fun j hj => ?_⟩
        by_cases h2 : j + 1 < pz
        · rw [if_pos h2, if_pos h2, va_up_ne _ _ (by omega), va_up_ne _ _ (by omega)]
        · rw [if_neg h2, if_neg h2]
      · rw [va_up_ne _ _ (by omega), mg_pl hj, mg_pl hj]; exact Or.inl rfl
      · rw [va_up_ne _ _ (by omega), mg_hi h1, mg_hi h1, va_up_ne _ _ (by omega)]; exact Or.inl rfl
/-- a new row takes a date's place -/
theorem WM_dr {a i : Nat} {t : TR} {h0 : Nat → Option Nat} (B : WB g A H0 (N + 1) (va_up ad N a) (va_up (mg g (va_up ad N a) (va_up y N (c_row g t)) cr dr th kn rf pl pz mc) 26 (c_ar (g.2.1 2) 4 (va_up h0 i (some a)))) H locs) (hh : ∀ j, h0 j = some (va_up ad N a (32 + j))) (hN : 36 + pz ≤ N) (hi : i < 4) : WB g A H0 N (va_up ad (32 + i) a) (mg g (va_up ad (32 + i) a) y cr (va_up dr i t) th kn rf pl pz mc) H locs := by
  refine WB_map (fun k => if k = 32 + i then N else k) B (fun k hk => ?_) (fun p q hp hq e => ?_) (fun k hk => ?_) (fun k hk => ?_)
  · show (if k = 32 + i then N else k) < _
    by_cases h : k = 32 + i
    · rw [if_pos h]; omega
    · rw [if_neg h]; omega
  · have e : (if p = 32 + i then N else p) = (if q = 32 + i then N else q) := e
    by_cases h : p = 32 + i <;> by_cases h' : q = 32 + i
    · omega
    · rw [if_pos h, if_neg h'] at e; omega
    · rw [if_neg h, if_pos h'] at e; omega
    · rw [if_neg h, if_neg h'] at e; exact e
  · show _ = va_up ad N a (if k = 32 + i then N else k)
    by_cases h : k = 32 + i
    · rw [if_pos h, h, va_up_self, va_up_self]
    · rw [if_neg h, va_up_ne _ _ h, va_up_ne _ _ (by omega)]
  · show va_eq _ (va_up (mg g (va_up ad N a) (va_up y N (c_row g t)) cr dr th kn rf pl pz mc) 26 _ (if k = 32 + i then N else k))
    by_cases h : k = 32 + i
    · rw [if_pos h, h, mg_dr hi, va_up_self, va_up_ne _ _ (by omega), mg_hi hN, va_up_self]
      exact Or.inl rfl
    · rw [if_neg h]
      rcases mg_cases pz k with h1 | rfl | rfl | rfl | rfl | ⟨j, hj, rfl⟩ | ⟨j, hj, rfl⟩ | ⟨rfl, hp⟩ | ⟨j, hj, rfl⟩ | h1
      · rw [va_up_ne _ _ (by omega), mg_lo h1, mg_lo h1, va_up_ne _ _ (by omega)]; exact Or.inl rfl
      · rw [va_up_ne _ _ (by omega), mg_24, mg_24]; unfold c_md
        rw [va_up_ne _ _ (by omega), va_up_ne _ _ (by omega), va_up_ne _ _ (by omega), va_up_ne _ _ (by omega), va_up_ne _ _ (by omega), va_up_ne _ _ (by omega)]
        exact Or.inl rfl
      · rw [va_up_ne _ _ (by omega), mg_25, mg_25]
        exact Or.inr ⟨_, _, _, _, rfl, rfl, fun j hj => by rw [va_up_ne _ _ (by omega), va_up_ne _ _ (by omega)]⟩
      · rw [va_up_self, mg_26]
        refine Or.inr ⟨_, _, _, _, rfl, rfl, fun j hj => ?_⟩
        by_cases hji : j = i
        · rw [hji, va_up_self, va_up_self]
        · rw [va_up_ne _ _ (by omega), va_up_ne _ _ hji, hh, va_up_ne _ _ (by omega)]
      · rw [va_up_ne _ _ (by omega), mg_27, mg_27]; unfold c_al
        by_cases hp : pz = 0
        · rw [if_pos hp, if_pos hp]; exact Or.inl rfl
        · rw [if_neg hp, if_neg hp, va_up_ne _ _ (by omega), va_up_ne _ _ (by omega)]; exact Or.inl rfl
      · rw [va_up_ne _ _ (by omega), mg_cr hj, mg_cr hj]; exact Or.inl rfl
      · rw [va_up_ne _ _ (by omega), mg_dr hj, mg_dr hj, va_up_ne _ _ (by omega)]; exact Or.inl rfl
      · rw [va_up_ne _ _ (by omega), mg_ed hp, mg_ed hp]
        refine Or.inr ⟨_, _, _, _, rfl, rfl, fun j hj => ?_⟩
        by_cases h2 : j + 1 < pz
        · rw [if_pos h2, if_pos h2, va_up_ne _ _ (by omega), va_up_ne _ _ (by omega)]
        · rw [if_neg h2, if_neg h2]
      · rw [va_up_ne _ _ (by omega), mg_pl hj, mg_pl hj]; exact Or.inl rfl
      · rw [va_up_ne _ _ (by omega), mg_hi h1, mg_hi h1, va_up_ne _ _ (by omega)]; exact Or.inl rfl
end WM
section RM
variable {p : Program} {l : Launch} {e : Env} {R : Room} {s : State} {m : MethodId} {args : Array Value} {below : List Frame} {meth : Method} {c : Code} {H : Heap} {locs : List Loc} {cells slots : Nat} {Q : State → Prop}
variable {cc : ByteArray} {nL : Nat} {own : String} {cw : Cond} {pc : Nat} {ls : Array Slot} {rest st0 : List Value} {g : GG} {A : Nat → Prop} {H0 : Heap} {N : Nat} {ad : Nat → Nat} {f : Nat → va_E}
theorem b_get {ref : String} {ci index q k b : Nat} {C : String} {T : u_T} {n : Nat} {fs : List Value} {v : Value} (hbq : ad q = b) (X : CX p s m args meth c cc nL own cw) (hK : KK g s) (B : WB g A s.heap N ad f H locs) (hc : vwCl[ci]? = some (C, T, n)) (hin : ∀ w ∈ u_ws C T n, w ∈ tb_all) (hq : q < N) (hf : f q = .inr (ci, fs)) (hk : k < n) (hlink : Cond.fieldLink own index ref (T k).2.1 (T k).2.2.1 ∈ tb_all) (hsame : (T k).1 = ref) (hv : fs[k]? = some v) (hdg : decode cc pc = .ok (.getfield index, 3))
    (kk : W p l e R s m args below meth c H locs cells slots Q (F0 m (pc + 3) ls (v :: rest))) : W p l e R s m args below meth c H locs cells slots Q (F0 m pc ls (.ref b :: rest)) := by
  subst hbq
  exact g_get X hK B hc hin hq hf hk hlink hsame hv hdg kk
theorem b_put {ref : String} {ci index q k b : Nat} {C : String} {T : u_T} {n : Nat} {fs : List Value} {v : Value} {ty : FieldType} {ty0 : Nat → FieldType} (hbq : ad q = b) (X : CX p s m args meth c cc nL own cw) (hK : KK g s) (B : WB g A s.heap N ad f H locs) (hc : vwCl[ci]? = some (C, T, n)) (hin : ∀ w ∈ u_ws C T n, w ∈ tb_all) (hty : ∀ k, k < n → parseFieldDescriptor (T k).2.2.1 = some (ty0 k)) (hnm : ∀ a, a < n → ∀ b, b < n → a ≠ b → (T a).2.1 ≠ (T b).2.1) (hq : q < N) (hf : f q = .inr (ci, fs)) (hk : k < n) (hlink : Cond.fieldLink own index ref (T k).2.1 (T k).2.2.1 ∈ tb_all) (hsame : (T k).1 = ref) (hfin : (T k).2.2.2 = false) (hd : ty0 k = ty) (hn : narrow ty v = v) (hfit : fits ty v = true) (hl : k < fs.length) (hdg : decode cc pc = .ok (.putfield index, 3))
    (kk : ∀ (H1 : Heap) (locs1 : List Loc), WB g A s.heap N ad (va_up f q (.inr (ci, fs.set k v))) H1 locs1 → W p l e R s m args below meth c H1 locs1 cells slots Q (F0 m (pc + 3) ls rest)) : W p l e R s m args below meth c H locs cells slots Q (F0 m pc ls (v :: .ref b :: rest)) := by
  subst hbq
  exact g_put X hK B hc hin hty hnm hq hf hk hlink hsame hfin hd hn hfit hl hdg kk
theorem b_aald {q b n : Nat} {t0 : Nat} {cA : ClassId} {h : Nat → Option Nat} {i : Int32} {v : Nat} {ty : FieldType} (hbq : ad q = b) (X : CX p s m args meth c cc nL own cw) (hK : KK g s) (B : WB g A s.heap N ad f H locs) (hq : q < N) (hf : f q = c_ar cA n h) (ht : (TY g.2.1)[t0]? = some (cA, ty)) (hty : ty.isReference = true) (hi : vp_in i n) (hv : h i.toNatClampNeg = some v) (hdg : decode cc pc = .ok (.aaload, 1))
    (kk : W p l e R s m args below meth c H locs cells slots Q (F0 m (pc + 1) ls (.ref v :: rest))) : W p l e R s m args below meth c H locs cells slots Q (F0 m pc ls (.int i :: .ref b :: rest)) := by
  subst hbq
  refine g_aald X hK B hq hf ht hty hi hdg ?_
  rw [hv]
  exact kk
/-- a row into an array of rows -/
theorem b_aast {q b qv bv n : Nat} {h : Nat → Option Nat} {t : TR} {i : Int32} (hbq : ad q = b) (X : CX p s m args meth c cc nL own cw) (hK : KK g s) (hT : ST g.2.2 A s s.heap) (B : WB g A s.heap N ad f H locs) (hq : q < N) (hf : f q = c_ar (g.2.1 2) n h) (hqv : qv < N) (hbv : ad qv = bv) (hfv : f qv = c_row g t) (hi : vp_in i n) (hdg : decode cc pc = .ok (.aastore, 1))
    (kk : ∀ (H1 : Heap) (locs1 : List Loc), WB g A s.heap N ad (va_up f q (c_ar (g.2.1 2) n (va_up h i.toNatClampNeg (some bv)))) H1 locs1 → W p l e R s m args below meth c H1 locs1 cells slots Q (F0 m (pc + 1) ls rest)) : W p l e R s m args below meth c H locs cells slots Q (F0 m pc ls (.ref bv :: .int i :: .ref b :: rest)) := by
  subst hbq hbv
  obtain ⟨hP, hD, hS⟩ := B
  have hlt : i.toNatClampNeg < n := Nat.not_le.mp fun q => hi (Or.inr q)
  have h0 : ¬ i < 0 := fun q => hi (Or.inl q)
  have hcq := wd_P.mp hP q hq
  rw [hf] at hcq
  have hcv := wd_P.mp hP qv hqv
  rw [hfv] at hcv
  have hcv : H[ad qv]? = some (vp_cell (g.2.1 0) (3, .inl (rw3 t))) := hcv
  obtain ⟨comp, cA, kA, f1, -, f3, f4, f5⟩ := arrayOverA_spec hT.1.2.2.2.2
  have e1 : cA = g.2.1 2 := Option.some.inj (f5.symm.trans (hK.2 2 (g.2.1 2, .array .int) rfl).2)
  have e2 : comp = g.2.1 0 := Option.some.inj (f1.symm.trans (hK.2 0 (g.2.1 0, .int) rfl).2)
  subst e1 e2
  obtain ⟨-, kv, hkv, cv, hkind⟩ := (hK.2 0 (g.2.1 0, .int) rfl).1 3 (fun j => .int (rw3 t j))
  have hw : (wd N ad f)[q]? = some (ad q, c_ar (g.2.1 2) n h) := by rw [wd_get hq, hf]
  refine W.aast X.1 X.2.1 (show H[ad q]? = some (vp_cell (g.2.1 2) (n, .inr (.inr (.inr (.inr h))))) from hcq) (fun q h => by cases h) (fun h => by cases h) f3 f4 rfl hkv ⟨h0, by show _ < (arrV _ _ _).slots.size; rw [arrV_size]; exact hlt⟩ hcv (fun q h => by cases h) hkv (asg_self s.vm (g.2.1 0)) rfl rfl hdg fun H1 e z oq => ?_
  have hP1 := hP.set hD hw (e := c_ar (g.2.1 2) n (va_up h i.toNatClampNeg (some (ad qv)))) (by
    show H1[ad q]? = some (vp_cell _ _)
    rw [e]
    rw [vp_cell_q, vp_cell_q, arrV_store]
    congr 2
    funext j
    by_cases hq : j = i.toNatClampNeg
    · subst hq
      simp [updV, va_up, va_rf]
    · simp [updV, va_up, hq]) oq
  have hD1 := hD.set (e := c_ar (g.2.1 2) n (va_up h i.toNatClampNeg (some (ad qv)))) hw
  rw [wd_set hq] at hP1 hD1
  exact kk H1 _ ⟨hP1, hD1, hS.put z oq (hD.2 q _ hw)⟩
theorem b_V {y : MethodName} {bytes : ByteArray} {maxL index n b : Nat} {ret : Option FieldType} {rm : Room} {As : List Value} {Qc : Array Value → State → Outcome → State → Prop} {free : Addr → Prop} {q ci : Nat} {fs : List Value} {r : vw_C} (hbq : ad q = b)
    (X : CX p s m args meth c cc nL own cw) (hM : Met l y (Cond.code y bytes maxL ret :: tb_all) rm (va_Pc (.ref b :: As) (PR g N ad f H.size)) Qc rm.cells rm.slots free)
    (hy : Cond.code y bytes maxL ret ∈ tb_all ∧ Cond.instanceMethod y ∈ tb_all ∧ Cond.selects y.cls y y ∈ tb_all ∧ Cond.initialized y.cls ∈ tb_all) (hd : y.cls ≠ "java/lang/invoke/MethodHandle" ∧ y.cls ≠ "java/lang/invoke/VarHandle" ∧ (parseMethodDescriptor y.desc).map (fun d => d.parameters.length) = some n) (hn : As.length = n) (hlk : Cond.methodLink own index y ∈ tb_all)
    (hR : rm.frames + 1 ≤ R.frames ∧ 8 + (maxL + 11) + rm.locals ≤ R.locals) (hA : ∀ q, s.heap.size ≤ q → A q) (hK : KK g s) (hT : ST g.2.2 A s s.heap) (B : WB g A s.heap N ad f H locs) (hq : q < N) (hf : f q = .inr (ci, fs)) (hc : vwCl[ci]? = some r) (hyc : y.cls = r.1) (hls : ls.size = nL)
    (hst : st0 = As.reverse ++ .ref b :: rest) (hW : (rest.map fun v => v.category).sum ≤ 8) (hdg : decode cc pc = .ok (.invokevirtual index, 3)) (hf2 : cells + rm.cells ≤ R.cells ∧ slots + rm.slots ≤ R.slots) :
    va_Run p l e R s m args below meth c H locs cells slots rm.cells rm.slots (F0 m pc ls st0) rest (Qc (Value.ref b :: As).toArray) free := by
  subst hbq
  exact u_V X hM hy hd hn hlk hR hA hK hT B hq hf hc hyc hls hst hW hdg hf2
end RM
/-! numbers of cards and dates -/
theorem no_lt {k : Int32} (h : v_X4_isNone k = 0) : k.toNatClampNeg < 4 := by
  unfold v_X4_isNone at h
  by_cases h1 : k < 0
  · rw [if_pos h1] at h; exact absurd h (by decide)
  · rw [if_neg h1] at h
    by_cases h2 : k < 4
    · exact ix_lt (n := 4) h1 (ix_nl h2) rfl
    · rw [if_neg h2] at h; exact absurd h (by decide)
theorem no_in {k : Int32} (h : v_X4_isNone k = 0) : vp_in k 4 := by
  unfold v_X4_isNone at h
  by_cases h1 : k < 0
  · rw [if_pos h1] at h; exact absurd h (by decide)
  · rw [if_neg h1] at h
    by_cases h2 : k < 4
    · exact ix_in (n := 4) h1 (ix_nl h2) rfl
    · rw [if_neg h2] at h; exact absurd h (by decide)
theorem no_of {k : Int32} (h1 : ¬ k < 0) (h2 : ¬ 4 ≤ k) : v_X4_isNone k = 0 := by
  unfold v_X4_isNone
  rw [if_neg h1, if_pos (Int32.not_le.mp h2)]
theorem pl_cr {N pz i : Nat} (hN : 36 + pz ≤ N) (hi : i < 4) : 28 + i < N := by omega
theorem pl_dr {N pz i : Nat} (hN : 36 + pz ≤ N) (hi : i < 4) : 32 + i < N := by omega
theorem pl_m {N pz : Nat} (hN : 36 + pz ≤ N) (i : Nat) (hi : i < 36) : i < N := by omega
theorem mg_yup {g : GG} {ad : Nat → Nat} {y : Nat → va_E} {cr dr : Nat → TR} {th kn rf : Int32} {pl : Nat → TR} {pz : Nat} {mc : Int32} {q : Nat} {e : va_E} (hq : 36 + pz ≤ q) : va_up (mg g ad y cr dr th kn rf pl pz mc) q e = mg g ad (va_up y q e) cr dr th kn rf pl pz mc := by
  funext k
  by_cases h : k = q
  · subst h
    rw [va_up_self, mg_hi hq, va_up_self]
  · rw [va_up_ne _ _ h]
    unfold mg
    rw [va_up_ne _ _ h]
theorem c_row_al {g : GG} {cA : ClassId} {n : Nat} {h : Nat → Option Nat} {t : TR} (e : c_ar cA n h = c_row g t) : False := by
  injection e with e
  injection e with _ e
  injection e with _ e
  cases e
/-- a row stays where nothing else is named -/
theorem mg_row {g : GG} {ad ad' : Nat → Nat} {y y' : Nat → va_E} {cr dr : Nat → TR} {th kn rf th' kn' rf' : Int32} {pl : Nat → TR} {pz : Nat} {mc : Int32} {j : Nat} {t : TR} (h : mg g ad y cr dr th kn rf pl pz mc j = c_row g t) (hy : y' j = y j) : mg g ad' y' cr dr th' kn' rf' pl pz mc j = c_row g t := by
  rcases mg_cases pz j with h1 | rfl | rfl | rfl | rfl | ⟨i, hi, rfl⟩ | ⟨i, hi, rfl⟩ | ⟨rfl, hp⟩ | ⟨i, hi, rfl⟩ | h1
  · rw [mg_lo h1] at h ⊢; rw [hy]; exact h
  · rw [mg_24] at h; cases h
  · rw [mg_25] at h; exact (c_row_al h).elim
  · rw [mg_26] at h; exact (c_row_al h).elim
  · rw [mg_27] at h; cases h
  · rw [mg_cr hi] at h ⊢; exact h
  · rw [mg_dr hi] at h ⊢; exact h
  · rw [mg_ed hp] at h; exact (c_row_al h).elim
  · rw [mg_pl hi] at h ⊢; exact h
  · rw [mg_hi h1] at h ⊢; rw [hy]; exact h
end
section
/-! what dateOf gives is in the calendar -/
def yl (j : Nat) : Int := (365 + v_X4_one (v_X4_isLong (nI (1600 + j)))).toInt
def yS : Nat → Int
  | 0 => 0
  | j + 1 => yS j + yl j
theorem yl_b (j : Nat) : yl j = 365 ∨ yl j = 366 := ylen1 _
theorem yS_b : ∀ j : Nat, 365 * (j : Int) ≤ yS j ∧ yS j ≤ 366 * (j : Int) := by
  intro j
  induction j with
  | zero => exact ⟨Int.le_refl _, Int.le_refl _⟩
  | succ j ih =>
    have := yl_b j
    have e : yS (j + 1) = yS j + yl j := rfl
    omega
theorem yS_m {i j : Nat} (h : i ≤ j) : yS i ≤ yS j := by
  induction j with
  | zero => have : i = 0 := by omega
            subst this; exact Int.le_refl _
  | succ j ih =>
    by_cases h2 : i = j + 1
    · subst h2; exact Int.le_refl _
    · have h1 := ih (by omega)
      have := yl_b j
      have e : yS (j + 1) = yS j + yl j := rfl
      omega
theorem dT_s {a0 : Int32} {k : Nat} (ha : a0.toInt = 1600 + k) (hk : k ≤ 801) : ∀ (n j : Nat) (yy ds : Int32), (a0.toInt - yy.toInt).toNat < n → yy = nI (1600 + j) → j ≤ k → ds.toInt = yS j → (wX4_daysTo_6 a0 n yy ds).toInt = yS k := by
  intro n
  induction n with
  | zero => intro j yy ds h; omega
  | succ n ih =>
    intro j yy ds hn hy hj hd
    have hyi : yy.toInt = 1600 + j := by rw [hy, nI_toInt (by omega)]; omega
    rw [wX4_daysTo_6]
    by_cases c : a0 ≤ yy
    · rw [if_pos c]
      rw [Int32.le_iff_toInt_le] at c
      have : j = k := by omega
      rw [hd, this]
    · rw [if_neg c]
      rw [Int32.le_iff_toInt_le] at c
      have b := yl_b j
      have hl : (365 + v_X4_one (v_X4_isLong yy)).toInt = yl j := by rw [hy]; rfl
      have bb := yS_b j
      have ed := add_i (x := ds) (y := 365 + v_X4_one (v_X4_isLong yy)) (by omega) (by omega)
      refine ih (j + 1) _ _ ?_ (by rw [hy, nI_1]; rfl) (by omega) ?_
      · have e1 : (1 : Int32).toInt = 1 := rfl
        have ey : (yy + 1).toInt = yy.toInt + 1 := add_i (by omega) (by omega)
        omega
      · rw [ed, hl, hd]; rfl
theorem dT_S {a : Int32} {k : Nat} (ha : a.toInt = 1600 + k) (hk : k ≤ 801) : (v_X4_daysTo a).toInt = yS k := by
  unfold v_X4_daysTo
  have e : (1600 : Int32).toInt = 1600 := rfl
  exact dT_s ha hk _ 0 1600 0 (by omega) rfl (by omega) rfl
theorem len_b (y : Int32) (m : Nat) (hm : m < 12) : (v_X4_length y (nI (m + 1))).toInt64.toInt ≤ 31 := by
  rw [len_at y m hm, Int32.toInt_toInt64]
  have := (yrest_s (decide (v_X4_isLong y = 0)) m hm).2.1
  rw [nI_toInt (by omega)]
  omega
theorem dO_77 {yy : Int32} {t : TR} : ∀ (n : Nat) (fm : Int32) (lg : Int64), dv_J yy fm lg → lg.toInt.toNat < n → wX4_dateOf_77 yy n fm lg = some t → t.1 = yy ∧ 1 ≤ t.2.1.toInt ∧ t.2.1.toInt ≤ 12 ∧ 1 ≤ t.2.2.toInt ∧ t.2.2.toInt ≤ 31 := by
  intro n
  induction n with
  | zero => intro fm lg _ h; omega
  | succ n ih =>
    intro fm lg hj hn h
    rw [wX4_dateOf_77] at h
    by_cases c : lg_cmp lg (v_X4_length yy fm).toInt64 < 0
    · rw [if_pos c] at h
      obtain ⟨-, m, hm, rfl, h0, h1⟩ := hj
      have c1 := (lg_cmp_lt _ _).mp c
      rw [Int64.lt_iff_toInt_lt] at c1
      have c2 := len_b yy m hm
      have e := Option.some.inj h
      have e1 : (1 : Int32).toInt = 1 := rfl
      have e32 : lg.toInt32.toInt = lg.toInt := by rw [Int64.toInt_toInt32, Int.bmod_eq_of_le (by omega) (by omega)]
      have ea := add_i (x := lg.toInt32) (y := 1) (by omega) (by omega)
      rw [← e]
      refine ⟨rfl, ?_, ?_, ?_, ?_⟩
      · show 1 ≤ (nI (m + 1)).toInt
        rw [nI_toInt (by omega)]; omega
      · show (nI (m + 1)).toInt ≤ 12
        rw [nI_toInt (by omega)]; omega
      · show 1 ≤ (lg.toInt32 + 1).toInt
        omega
      · show (lg.toInt32 + 1).toInt ≤ 31
        omega
    · rw [if_neg c] at h
      have k := dv_Js hj c hn
      exact ih _ _ k.1 k.2 h
theorem dO_34 {t : TR} {X : Int} (hX : X < yS 801) : ∀ (n j : Nat) (yy : Int32) (lf : Int64), yy = nI (1600 + j) → lf.toInt + yS j = X → 0 ≤ lf → lf.toInt.toNat < n → wX4_dateOf_34 n yy lf = some t → okd t := by
  intro n
  induction n with
  | zero => intro j yy lf _ _ _ h; omega
  | succ n ih =>
    intro j yy lf hy he h0 hn h
    have hj : j ≤ 800 := by
      rcases Nat.lt_or_ge 800 j with q | q
      · have := yS_m (i := 801) (j := j) q
        rw [Int64.le_iff_toInt_le] at h0
        have e0 : (0 : Int64).toInt = 0 := rfl
        omega
      · exact q
    rw [wX4_dateOf_34] at h
    by_cases c : lg_cmp lf (365 + v_X4_one (v_X4_isLong yy)).toInt64 < 0
    · rw [if_pos c] at h
      obtain ⟨k1, k2, k3, k4, k5⟩ := dO_77 _ _ _ (dv_J0 h0 c) (Nat.lt_succ_self _) h
      refine ⟨?_, ?_, k2, k3, k4, k5⟩
      · rw [k1, hy, nI_toInt (by omega)]; omega
      · rw [k1, hy, nI_toInt (by omega)]; omega
    · rw [if_neg c] at h
      have k := dl_dec (one_01 yy) c hn
      have c1 : ¬ lf < _ := fun q => c ((lg_cmp_lt _ _).mpr q)
      rw [Int64.lt_iff_toInt_lt] at c1
      have el : (365 + v_X4_one (v_X4_isLong yy)).toInt64.toInt = yl j := by rw [Int32.toInt_toInt64, hy]; rfl
      have b := yl_b j
      have hx := Int64.toInt_lt lf
      have es := sub_l (x := lf) (y := (365 + v_X4_one (v_X4_isLong yy)).toInt64) (by omega) (by omega)
      refine ih (j + 1) _ _ (by rw [hy, nI_1]; rfl) ?_ k.2 k.1 h
      have e : yS (j + 1) = yS j + yl j := rfl
      omega
theorem dateOf_okd {b : Int64} {t : TR} (h : v_X4_dateOf b = some t) : okd t := by
  unfold v_X4_dateOf at h
  obtain ⟨D, hD⟩ : ∃ D, v_X4_daysTo 1970 = D := ⟨_, rfl⟩
  obtain ⟨L, hL⟩ : ∃ D, v_X4_daysTo 2401 = D := ⟨_, rfl⟩
  rw [hD, hL] at h
  have hl : L.toInt = yS 801 := by rw [← hL]; exact dT_S rfl (Nat.le_refl _)
  have bb := yS_b 801
  by_cases c : v_X4_isIn (b + D.toInt64) 0 ((L - 1).toInt64) = 0
  · rw [if_pos c] at h; exact (nomatch h)
  · rw [if_neg c] at h
    have c2 := in_iff.mp c
    have e1 : (1 : Int32).toInt = 1 := rfl
    have es := sub_i (x := L) (y := 1) (by omega) (by omega)
    have c3 := c2.2
    rw [Int64.le_iff_toInt_le, Int32.toInt_toInt64, es] at c3
    refine dO_34 (X := (b + D.toInt64).toInt) (by omega) _ 0 1600 _ rfl ?_ c2.1 (Nat.lt_succ_self _) h
    show _ + 0 = _
    omega
theorem onBy_okd {a b : TR} {s : Int32} {t : TR} (h : v_X4_onBy a b s = some t) : okd t := by
  unfold v_X4_onBy at h
  cases e : v_X4_onByMonths a (s.toInt64 * v_X4_total b) with
  | none => rw [e] at h; exact (nomatch h)
  | some t1 =>
    rw [e, om_some rfl, om_id] at h
    exact dateOf_okd h
/-! more of numbers in a range -/
theorem isin_ix {k : Int32} {c : Int64} {n : Nat} (h : ¬ v_X4_isIn k.toInt64 0 c = 0) (hc : c.toInt + 1 = n) : vp_in k n ∧ k.toNatClampNeg < n := by
  have h2 := in_iff.mp h
  rw [Int64.le_iff_toInt_le, Int64.le_iff_toInt_le, Int32.toInt_toInt64] at h2
  have e0 : (0 : Int64).toInt = 0 := rfl
  have hk : k.toNatClampNeg < n := by
    show k.toInt.toNat < n
    omega
  refine ⟨fun q => ?_, hk⟩
  rcases q with q | q
  · rw [Int32.lt_iff_toInt_lt] at q
    have e : (0 : Int32).toInt = 0 := rfl
    omega
  · omega
theorem isin_mo {k : Int32} (h : ¬ v_X4_isIn k.toInt64 1 12 = 0) : 1 ≤ k.toInt ∧ k.toInt ≤ 12 := by
  have h2 := in_iff.mp h
  rw [Int64.le_iff_toInt_le, Int64.le_iff_toInt_le, Int32.toInt_toInt64] at h2
  exact h2
theorem isin_mp {k : Int32} (h : ¬ v_X4_isIn k.toInt64 1 12 = 0) : vp_in (k - 1) 12 := by
  have h2 := isin_mo h
  refine mo_pred ?_ ?_
  · rw [Int32.le_iff_toInt_le]; exact h2.1
  · rw [Int32.lt_iff_toInt_lt]
    have e : (12 : Int32).toInt = 12 := rfl
    omega
theorem isin_yr {k : Int32} (h : ¬ v_X4_isIn k.toInt64 1600 2400 = 0) : 1600 ≤ k.toInt ∧ k.toInt ≤ 2400 := by
  have h2 := in_iff.mp h
  rw [Int64.le_iff_toInt_le, Int64.le_iff_toInt_le, Int32.toInt_toInt64] at h2
  exact h2
theorem isin_dy {y m k : Int32} (hm : ¬ v_X4_isIn m.toInt64 1 12 = 0) (h : ¬ v_X4_isIn k.toInt64 1 (v_X4_length y m).toInt64 = 0) : 1 ≤ k.toInt ∧ k.toInt ≤ 31 := by
  have h2 := in_iff.mp h
  rw [Int64.le_iff_toInt_le, Int64.le_iff_toInt_le, Int32.toInt_toInt64] at h2
  have h3 := isin_mo hm
  obtain ⟨j, hj⟩ : ∃ j : Nat, m.toInt = j + 1 := ⟨(m.toInt - 1).toNat, by omega⟩
  have e : m = nI (j + 1) := Int32.toInt_inj.mp (by rw [nI_toInt (by omega), hj]; omega)
  have b := len_b y j (by omega)
  rw [e] at h2
  exact ⟨h2.1, Int.le_trans h2.2 b⟩
theorem isin_okd {y m k : Int32} (hy : ¬ v_X4_isIn y.toInt64 1600 2400 = 0) (hm : ¬ v_X4_isIn m.toInt64 1 12 = 0) (h : ¬ v_X4_isIn k.toInt64 1 (v_X4_length y m).toInt64 = 0) : okd (y, m, k) :=
  ⟨(isin_yr hy).1, (isin_yr hy).2, (isin_mo hm).1, (isin_mo hm).2, (isin_dy hm h).1, (isin_dy hm h).2⟩
def rwu (t : TR) (k : Nat) (x : Int32) : TR := if k = 0 then (x, t.2.1, t.2.2) else if k = 1 then (t.1, x, t.2.2) else (t.1, t.2.1, x)
theorem rwu_ok {t : TR} {k : Nat} {x : Int32} (h : k < 3) : upd (rw3 t) k x = rw3 (rwu t k x) := by
  unfold rwu
  by_cases h0 : k = 0
  · subst h0; exact rw3_s0 _ _
  · rw [if_neg h0]
    by_cases h1 : k = 1
    · subst h1; exact rw3_s1 _ _
    · have h2 : k = 2 := by omega
      subst h2
      exact rw3_s2 _ _
/-- a place's address by its name -/
theorem WM_re {g : GG} {A : Nat → Prop} {H0 H : Heap} {N b : Nat} {ad : Nat → Nat} {y : Nat → va_E} {cr dr : Nat → TR} {th kn rf : Int32} {pl : Nat → TR} {pz : Nat} {mc : Int32} {locs : List Loc} (B : WB g A H0 (N + 1) ad (mg g ad y cr dr th kn rf pl pz mc) H locs) (h : ad N = b) : WB g A H0 (N + 1) (va_up ad N b) (mg g (va_up ad N b) y cr dr th kn rf pl pz mc) H locs := by
  have e : va_up ad N b = ad := by
    funext k
    by_cases hk : k = N
    · rw [hk, va_up_self, h]
    · rw [va_up_ne _ _ hk]
  rw [e]
  exact B
theorem pl_pl {N pz i : Nat} (hN : 36 + pz ≤ N) (hi : i + 1 < pz) : 37 + i < N := by omega
theorem isin_3 {k : Int32} (h : ¬ v_X4_isIn k.toInt64 0 3 = 0) (h3 : ¬ k = 3) : vp_in k 3 ∧ k.toNatClampNeg < 3 := by
  have h2 := in_iff.mp h
  rw [Int64.le_iff_toInt_le, Int64.le_iff_toInt_le, Int32.toInt_toInt64] at h2
  have e0 : (0 : Int64).toInt = 0 := rfl
  have e3 : (3 : Int64).toInt = 3 := rfl
  have hn : k.toInt ≠ 3 := fun q => h3 (Int32.toInt_inj.mp (q.trans rfl))
  have hk : k.toNatClampNeg < 3 := by
    show k.toInt.toNat < 3
    omega
  refine ⟨fun q => ?_, hk⟩
  rcases q with q | q
  · rw [Int32.lt_iff_toInt_lt] at q
    have e : (0 : Int32).toInt = 0 := rfl
    omega
  · omega
theorem isin_of {k : Int32} (h1 : ¬ k < 0) (h2 : ¬ 4 ≤ k) : ¬ v_X4_isIn k.toInt64 0 3 = 0 := by
  rw [Int32.lt_iff_toInt_lt] at h1
  rw [Int32.le_iff_toInt_le] at h2
  refine in_iff.mpr ?_
  rw [Int64.le_iff_toInt_le, Int64.le_iff_toInt_le, Int32.toInt_toInt64]
  have e0 : (0 : Int64).toInt = 0 := rfl
  have e3 : (3 : Int64).toInt = 3 := rfl
  have f0 : (0 : Int32).toInt = 0 := rfl
  have f4 : (4 : Int32).toInt = 4 := rfl
  omega
end
section
def v_X4_stops (a1 : Int32) (a2 : Int32) : Int32 × Int32 := if a1 = 0 then (if a2 = 0 then (0, 0) else (1, 2)) else (1, 1)
theorem b01_X4_stops {a1 : Int32} {a2 : Int32} : (v_X4_stops a1 a2).1 = 0 ∨ (v_X4_stops a1 a2).1 = 1 := by
  unfold v_X4_stops
  by_cases q1 : a1 = 0
  · rw [if_pos q1]
    by_cases q2 : a2 = 0
    · rw [if_pos q2]
      exact Or.inl rfl
    · rw [if_neg q2]
      exact Or.inr rfl
  · rw [if_neg q1]
    exact Or.inr rfl
set_option maxHeartbeats 4000000 in
set_option maxRecDepth 100000 in
theorem c_X4_stops (l : Launch) (g : GG) (N : Nat) (ad : Nat → Nat) (y : Nat → va_E) (cr dr : Nat → TR) (th kn rf : Int32) (pl : Nat → TR) (pz : Nat) (mc : Int32) (hN : 36 + pz ≤ N) (b0 : Nat) (hb0 : ad 24 = b0) (a1 : Int32) (a2 : Int32) : KI l yX4_stops cX4_stops 3 (some .boolean) (rm 0 0 0) g [.ref b0, .int a1, .int a2] N ad (mg g ad y cr dr th kn rf pl pz mc) N (fun r ad' f' => ad = ad' ∧ (v_X4_stops a1 a2).1 = r ∧ mg g ad y cr dr (v_X4_stops a1 a2).2 kn rf pl pz mc = f') := by
  intro sz
  refine mt_start (by decide) (Nat.le_of_ble_eq_true rfl) ?_
  intro p e s m args below meth c hsz X hr hnam hA hK hT H locs B ls hl
  obtain ⟨hx, hb, hml, hown, hts, hlocks⟩ := id X
  have hl : lv_has ls 3 [(0, .ref b0), (1, .int a1), (2, .int a2)] := hl
  refine lv_aload_n hx hb dX4_stops_0 rfl (lv_at hl 0 rfl) ?_
  refine lv_iload_n hx hb dX4_stops_1 rfl (lv_at hl 1 rfl) ?_
  refine lv_if_eq (tgt := 9) hx hb dX4_stops_2 (by decide) (fun c1 => ?_) (fun c1 => ?_)
  · refine lv_iload_n hx hb dX4_stops_9 rfl (lv_at hl 2 rfl) ?_
    refine lv_if_eq (tgt := 17) hx hb dX4_stops_10 (by decide) (fun c2 => ?_) (fun c2 => ?_)
    · refine lv_iconst (v := 0) hx hb dX4_stops_17 (by decide) ?_
      refine b_put (q := 24) (k := 0) hb0 X hK B rfl in_X4 tyX4_ok nmX4 (by omega) mg_24 (by decide) lk_X4_26 rfl rfl rfl rfl rfl (Nat.le_of_ble_eq_true rfl) dX4_stops_18 (fun H locs B => ?_)
      have B : WB g (aw N ad sz) s.heap N ad (mg g ad y cr dr 0 kn rf pl pz mc) H locs := by rw [← mg_up_md]; exact B
      refine lv_aload_n hx hb dX4_stops_21 rfl (lv_at hl 0 rfl) ?_
      refine b_get (q := 24) (k := 0) hb0 X hK B rfl in_X4 (by omega) mg_24 (by decide) lk_X4_26 rfl rfl dX4_stops_22 ?_
      refine lv_if_le (tgt := 32) hx hb dX4_stops_25 (by decide) (fun _ => ?_) (fun z => absurd z (by decide))
      refine lv_iconst (v := 0) hx hb dX4_stops_32 (by decide) ?_
      have ev := (show v_X4_stops a1 a2 = (0, 0) from by unfold v_X4_stops; rw [if_pos c1, if_pos c2])
      exact rt_i X hr (ad, mg g ad y cr dr 0 kn rf pl pz mc) B (PO_of B) ⟨rfl, by rw [ev], by rw [ev]⟩ rfl (Nat.le_of_ble_eq_true rfl) (Nat.le_of_ble_eq_true rfl) dX4_stops_33
    · refine lv_iconst (v := 2) hx hb dX4_stops_13 (by decide) ?_
      refine lv_goto (tgt := 18) hx hb dX4_stops_14 (by decide) ?_
      refine b_put (q := 24) (k := 0) hb0 X hK B rfl in_X4 tyX4_ok nmX4 (by omega) mg_24 (by decide) lk_X4_26 rfl rfl rfl rfl rfl (Nat.le_of_ble_eq_true rfl) dX4_stops_18 (fun H locs B => ?_)
      have B : WB g (aw N ad sz) s.heap N ad (mg g ad y cr dr 2 kn rf pl pz mc) H locs := by rw [← mg_up_md]; exact B
      refine lv_aload_n hx hb dX4_stops_21 rfl (lv_at hl 0 rfl) ?_
      refine b_get (q := 24) (k := 0) hb0 X hK B rfl in_X4 (by omega) mg_24 (by decide) lk_X4_26 rfl rfl dX4_stops_22 ?_
      refine lv_if_le (tgt := 32) hx hb dX4_stops_25 (by decide) (fun z => absurd z (by decide)) (fun _ => ?_)
      refine lv_iconst (v := 1) hx hb dX4_stops_28 (by decide) ?_
      refine lv_goto (tgt := 33) hx hb dX4_stops_29 (by decide) ?_
      have ev := (show v_X4_stops a1 a2 = (1, 2) from by unfold v_X4_stops; rw [if_pos c1, if_neg c2])
      exact rt_i X hr (ad, mg g ad y cr dr 2 kn rf pl pz mc) B (PO_of B) ⟨rfl, by rw [ev], by rw [ev]⟩ rfl (Nat.le_of_ble_eq_true rfl) (Nat.le_of_ble_eq_true rfl) dX4_stops_33
  · refine lv_iconst (v := 1) hx hb dX4_stops_5 (by decide) ?_
    refine lv_goto (tgt := 18) hx hb dX4_stops_6 (by decide) ?_
    refine b_put (q := 24) (k := 0) hb0 X hK B rfl in_X4 tyX4_ok nmX4 (by omega) mg_24 (by decide) lk_X4_26 rfl rfl rfl rfl rfl (Nat.le_of_ble_eq_true rfl) dX4_stops_18 (fun H locs B => ?_)
    have B : WB g (aw N ad sz) s.heap N ad (mg g ad y cr dr 1 kn rf pl pz mc) H locs := by rw [← mg_up_md]; exact B
    refine lv_aload_n hx hb dX4_stops_21 rfl (lv_at hl 0 rfl) ?_
    refine b_get (q := 24) (k := 0) hb0 X hK B rfl in_X4 (by omega) mg_24 (by decide) lk_X4_26 rfl rfl dX4_stops_22 ?_
    refine lv_if_le (tgt := 32) hx hb dX4_stops_25 (by decide) (fun z => absurd z (by decide)) (fun _ => ?_)
    refine lv_iconst (v := 1) hx hb dX4_stops_28 (by decide) ?_
    refine lv_goto (tgt := 33) hx hb dX4_stops_29 (by decide) ?_
    have ev := (show v_X4_stops a1 a2 = (1, 1) from by unfold v_X4_stops; rw [if_neg c1])
    exact rt_i X hr (ad, mg g ad y cr dr 1 kn rf pl pz mc) B (PO_of B) ⟨rfl, by rw [ev], by rw [ev]⟩ rfl (Nat.le_of_ble_eq_true rfl) (Nat.le_of_ble_eq_true rfl) dX4_stops_33
def v_X4_refuse (rf : Int32) : Int32 × Int32 := ((-9), rf + 1)
set_option maxHeartbeats 4000000 in
set_option maxRecDepth 100000 in
theorem c_X4_refuse (l : Launch) (g : GG) (N : Nat) (ad : Nat → Nat) (y : Nat → va_E) (cr dr : Nat → TR) (th kn rf : Int32) (pl : Nat → TR) (pz : Nat) (mc : Int32) (hN : 36 + pz ≤ N) (b0 : Nat) (hb0 : ad 24 = b0) : KI l yX4_refuse cX4_refuse 1 (some .int) (rm 0 0 0) g [.ref b0] N ad (mg g ad y cr dr th kn rf pl pz mc) N (fun r ad' f' => ad = ad' ∧ (v_X4_refuse rf).1 = r ∧ mg g ad y cr dr th kn (v_X4_refuse rf).2 pl pz mc = f') := by
  intro sz
  refine mt_start (by decide) (Nat.le_of_ble_eq_true rfl) ?_
  intro p e s m args below meth c hsz X hr hnam hA hK hT H locs B ls hl
  obtain ⟨hx, hb, hml, hown, hts, hlocks⟩ := id X
  have hl : lv_has ls 1 [(0, .ref b0)] := hl
  refine lv_aload_n hx hb dX4_refuse_0 rfl (lv_at hl 0 rfl) ?_
  refine lv_dup hx hb dX4_refuse_1 rfl ?_
  refine b_get (q := 24) (k := 5) hb0 X hK B rfl in_X4 (by omega) mg_24 (by decide) lk_X4_30 rfl rfl dX4_refuse_2 ?_
  refine lv_iconst (v := 1) hx hb dX4_refuse_5 (by decide) ?_
  refine lv_iadd hx hb dX4_refuse_6 ?_
  refine b_put (q := 24) (k := 5) hb0 X hK B rfl in_X4 tyX4_ok nmX4 (by omega) mg_24 (by decide) lk_X4_30 rfl rfl rfl rfl rfl (Nat.le_of_ble_eq_true rfl) dX4_refuse_7 (fun H locs B => ?_)
  have B : WB g (aw N ad sz) s.heap N ad (mg g ad y cr dr th kn (rf + 1) pl pz mc) H locs := by rw [← mg_up_md]; exact B
  refine lv_bipush (v := (-9)) hx hb dX4_refuse_10 (by decide) ?_
  have ev := (show v_X4_refuse rf = ((-9), rf + 1) from rfl)
  exact rt_i X hr (ad, mg g ad y cr dr th kn (rf + 1) pl pz mc) B (PO_of B) ⟨rfl, by rw [ev], by rw [ev]⟩ rfl (Nat.le_of_ble_eq_true rfl) (Nat.le_of_ble_eq_true rfl) dX4_refuse_12
end
section
theorem st_00 : v_X4_stops 0 0 = (0, 0) := by decide
theorem st_01 : v_X4_stops 0 1 = (1, 2) := by decide
theorem st_10 : v_X4_stops 1 0 = (1, 1) := by decide
theorem st_11 : v_X4_stops 1 1 = (1, 1) := by decide
def v_X4_get (cr : Nat → TR) (a1 : Int32) (tj2 : TR) : Int32 × (Nat → TR) := if (v_X4_isSame (cr a1.toNatClampNeg) tj2) = 0 then ((v_X4_one 1), va_up cr a1.toNatClampNeg (tj2.1, tj2.2.1, tj2.2.2)) else ((v_X4_one 0), va_up cr a1.toNatClampNeg (tj2.1, tj2.2.1, tj2.2.2))
set_option maxHeartbeats 4000000 in
set_option maxRecDepth 100000 in
theorem c_X4_get (l : Launch) (g : GG) (N : Nat) (ad : Nat → Nat) (y : Nat → va_E) (cr dr : Nat → TR) (th kn rf : Int32) (pl : Nat → TR) (pz : Nat) (mc : Int32) (hN : 36 + pz ≤ N) (b0 : Nat) (hb0 : ad 24 = b0) (a1 : Int32) (j2 bj2 : Nat) (tj2 : TR) (hj2 : j2 < N) (hbj2 : ad j2 = bj2) (hfj2 : mg g ad y cr dr th kn rf pl pz mc j2 = c_row g tj2) (hza1 : v_X4_isNone a1 = 0) : KI l yX4_get cX4_get 4 (some .int) (rm 1 1 3) g [.ref b0, .int a1, .ref bj2] N ad (mg g ad y cr dr th kn rf pl pz mc) N (fun r ad' f' => (∀ k, k < N → k < 28 ∨ 36 ≤ k → ad' k = ad k) ∧ (v_X4_get cr a1 tj2).1 = r ∧ mg g ad' y (v_X4_get cr a1 tj2).2 dr th kn rf pl pz mc = f') := by
  intro sz
  refine mt_start (by decide) (Nat.le_of_ble_eq_true rfl) ?_
  intro p e s m args below meth c hsz X hr hnam hA hK hT H locs B ls hl
  obtain ⟨hx, hb, hml, hown, hts, hlocks⟩ := id X
  have hl : lv_has ls 4 [(0, .ref b0), (1, .int a1), (2, .ref bj2)] := hl
  refine lv_aload_n hx hb dX4_get_0 rfl (lv_at hl 2 rfl) ?_
  refine lv_ifnonnull (tgt := 9) hx hb dX4_get_1 (by decide) ?_
  refine lv_aload_n hx hb dX4_get_9 rfl (lv_at hl 0 rfl) ?_
  refine b_get (q := 24) (k := 1) hb0 X hK B rfl in_X4 (by omega) mg_24 (by decide) lk_X4_11 rfl rfl dX4_get_10 ?_
  refine lv_iload_n hx hb dX4_get_13 rfl (lv_at hl 1 rfl) ?_
  refine b_aald (q := 25) (t0 := 2) (v := ad (28 + a1.toNatClampNeg)) rfl X hK B (by omega) mg_25 rfl rfl (no_in hza1) rfl dX4_get_14 ?_
  have g1 : a1.toNatClampNeg < 4 := (no_lt hza1)
  refine lv_aload_n hx hb dX4_get_15 rfl (lv_at hl 2 rfl) ?_
  refine k_i (k := 0) (n := 0) hA B (u_S (rest := []) X (c_X4_isSame l g N ad (mg g ad y cr dr th kn rf pl pz mc) (28 + a1.toNatClampNeg) (ad (28 + a1.toNatClampNeg)) (cr a1.toNatClampNeg) (pl_cr hN g1) rfl (mg_cr g1) j2 bj2 tj2 hj2 hbj2 (mg_row hfj2 rfl) H.size) mw_X4_isSame md_X4_isSame rfl lk_X4_87 ⟨Nat.le_of_ble_eq_true rfl, Nat.le_of_ble_eq_true rfl⟩ hA hK hT B hl.1 rfl (Nat.le_of_ble_eq_true rfl) dX4_get_16 ⟨Nat.le_of_ble_eq_true rfl, Nat.le_of_ble_eq_true rfl⟩) (Nat.le_of_ble_eq_true rfl) (Nat.le_of_ble_eq_true rfl) (fun r2 ad2 f' H locs hw B => ?_)
  obtain ⟨rfl, rfl, rfl⟩ := hw
  refine lv_if_ne (tgt := 26) hx hb dX4_get_19 (by decide) (fun c3 => ?_) (fun c3 => ?_)
  · refine lv_iconst (v := 0) hx hb dX4_get_26 (by decide) ?_
    refine k_i (k := 0) (n := 0) hA B (u_S (rest := []) X (c_X4_one l g N ad (mg g ad y cr dr th kn rf pl pz mc) 0 H.size) mw_X4_one md_X4_one rfl lk_X4_91 ⟨Nat.le_of_ble_eq_true rfl, Nat.le_of_ble_eq_true rfl⟩ hA hK hT B hl.1 rfl (Nat.le_of_ble_eq_true rfl) dX4_get_27 ⟨Nat.le_of_ble_eq_true rfl, Nat.le_of_ble_eq_true rfl⟩) (Nat.le_of_ble_eq_true rfl) (Nat.le_of_ble_eq_true rfl) (fun r4 ad4 f' H locs hw B => ?_)
    obtain ⟨rfl, rfl, rfl⟩ := hw
    refine lv_istore_n (lv' := [(3, .int (v_X4_one 0)), (0, .ref b0), (1, .int a1), (2, .ref bj2)]) hx hb dX4_get_30 rfl hl (by decide) rfl (fun ls hl => ?_)
    refine lv_aload_n hx hb dX4_get_31 rfl (lv_at hl 1 rfl) ?_
    refine b_get (q := 24) (k := 1) hb0 X hK B rfl in_X4 (by omega) mg_24 (by decide) lk_X4_11 rfl rfl dX4_get_32 ?_
    refine lv_iload_n hx hb dX4_get_35 rfl (lv_at hl 2 rfl) ?_
    refine lv_iconst (v := 3) hx hb dX4_get_36 (by decide) ?_
    refine h_new3 (cz := 1) (sz := 3) X hA hK B (Nat.le_of_ble_eq_true rfl) (Nat.le_of_ble_eq_true rfl) (Nat.le_of_ble_eq_true rfl) (Nat.le_of_ble_eq_true rfl) dX4_get_37 (fun z5 H B => ?_)
    have B : WB g (aw N ad sz) s.heap (N + 1) (va_up ad N z5) (mg g (va_up ad N z5) (va_up y N (c_row g (0, 0, 0))) cr dr th kn rf pl pz mc) H locs := WM_push (by omega) B
    refine lv_dup hx hb dX4_get_39 rfl ?_
    refine lv_iconst (v := 0) hx hb dX4_get_40 (by decide) ?_
    refine lv_aload_n hx hb dX4_get_41 rfl (lv_at hl 3 rfl) ?_
    refine lv_iconst (v := 0) hx hb dX4_get_42 (by decide) ?_
    refine h_ld0 X hK B (Nat.lt_succ_of_lt hj2) ((up_lt hj2).trans hbj2) (mg_row hfj2 ((up_lt hj2).trans rfl)) dX4_get_43 ?_
    refine h_st (t := (0, 0, 0)) (t' := (tj2.1, 0, 0)) X hK B (Nat.lt_succ_self _) up_eq ((mg_hi (by omega)).trans up_eq) (by unfold vp_in; decide) (rw3_s0 _ _) dX4_get_44 (fun H locs B => ?_)
    rw [mg_yup (by omega), bx_uu] at B
    refine lv_dup hx hb dX4_get_45 rfl ?_
    refine lv_iconst (v := 1) hx hb dX4_get_46 (by decide) ?_
    refine lv_aload_n hx hb dX4_get_47 rfl (lv_at hl 3 rfl) ?_
    refine lv_iconst (v := 1) hx hb dX4_get_48 (by decide) ?_
    refine h_ld1 X hK B (Nat.lt_succ_of_lt hj2) ((up_lt hj2).trans hbj2) (mg_row hfj2 ((up_lt hj2).trans rfl)) dX4_get_49 ?_
    refine h_st (t := (tj2.1, 0, 0)) (t' := (tj2.1, tj2.2.1, 0)) X hK B (Nat.lt_succ_self _) up_eq ((mg_hi (by omega)).trans up_eq) (by unfold vp_in; decide) (rw3_s1 _ _) dX4_get_50 (fun H locs B => ?_)
    rw [mg_yup (by omega), bx_uu] at B
    refine lv_dup hx hb dX4_get_51 rfl ?_
    refine lv_iconst (v := 2) hx hb dX4_get_52 (by decide) ?_
    refine lv_aload_n hx hb dX4_get_53 rfl (lv_at hl 3 rfl) ?_
    refine lv_iconst (v := 2) hx hb dX4_get_54 (by decide) ?_
    refine h_ld2 X hK B (Nat.lt_succ_of_lt hj2) ((up_lt hj2).trans hbj2) (mg_row hfj2 ((up_lt hj2).trans rfl)) dX4_get_55 ?_
    refine h_st (t := (tj2.1, tj2.2.1, 0)) (t' := (tj2.1, tj2.2.1, tj2.2.2)) X hK B (Nat.lt_succ_self _) up_eq ((mg_hi (by omega)).trans up_eq) (by unfold vp_in; decide) (rw3_s2 _ _) dX4_get_56 (fun H locs B => ?_)
    rw [mg_yup (by omega), bx_uu] at B
    have g6 : a1.toNatClampNeg < 4 := (no_lt hza1)
    refine b_aast (q := 25) (qv := N) (up_lt (by omega)) X hK hT B (by omega) mg_25 (Nat.lt_succ_self _) up_eq ((mg_hi (by omega)).trans up_eq) (no_in hza1) dX4_get_57 (fun H locs B => ?_)
    have B : WB g (aw N ad sz) s.heap N (va_up ad (28 + a1.toNatClampNeg) z5) (mg g (va_up ad (28 + a1.toNatClampNeg) z5) y (va_up cr a1.toNatClampNeg (tj2.1, tj2.2.1, tj2.2.2)) dr th kn rf pl pz mc) H locs := WM_cr B (fun _ => rfl) hN g6
    have kk7 : ∀ k, k < N → k < 28 ∨ 36 ≤ k → (va_up ad (28 + a1.toNatClampNeg) z5) k = ad k := fun k hk hkq => (va_up_ne _ _ (by omega)).trans rfl
    have nb9 : (va_up ad (28 + a1.toNatClampNeg) z5) 24 = b0 := (va_up_ne _ _ (by omega)).trans hb0
    refine lv_iload_n hx hb dX4_get_58 rfl (lv_at hl 0 rfl) ?_
    have ev := (show v_X4_get cr a1 tj2 = ((v_X4_one 0), va_up cr a1.toNatClampNeg (tj2.1, tj2.2.1, tj2.2.2)) from by unfold v_X4_get; rw [if_neg c3])
    exact rt_i X hr ((va_up ad (28 + a1.toNatClampNeg) z5), mg g (va_up ad (28 + a1.toNatClampNeg) z5) y (va_up cr a1.toNatClampNeg (tj2.1, tj2.2.1, tj2.2.2)) dr th kn rf pl pz mc) B (PO_of B) ⟨kk7, by rw [ev], by rw [ev]⟩ rfl (Nat.le_of_ble_eq_true rfl) (Nat.le_of_ble_eq_true rfl) dX4_get_59
  · refine lv_iconst (v := 1) hx hb dX4_get_22 (by decide) ?_
    refine lv_goto (tgt := 27) hx hb dX4_get_23 (by decide) ?_
    refine k_i (k := 0) (n := 0) hA B (u_S (rest := []) X (c_X4_one l g N ad (mg g ad y cr dr th kn rf pl pz mc) 1 H.size) mw_X4_one md_X4_one rfl lk_X4_91 ⟨Nat.le_of_ble_eq_true rfl, Nat.le_of_ble_eq_true rfl⟩ hA hK hT B hl.1 rfl (Nat.le_of_ble_eq_true rfl) dX4_get_27 ⟨Nat.le_of_ble_eq_true rfl, Nat.le_of_ble_eq_true rfl⟩) (Nat.le_of_ble_eq_true rfl) (Nat.le_of_ble_eq_true rfl) (fun r10 ad10 f' H locs hw B => ?_)
    obtain ⟨rfl, rfl, rfl⟩ := hw
    refine lv_istore_n (lv' := [(3, .int (v_X4_one 1)), (0, .ref b0), (1, .int a1), (2, .ref bj2)]) hx hb dX4_get_30 rfl hl (by decide) rfl (fun ls hl => ?_)
    refine lv_aload_n hx hb dX4_get_31 rfl (lv_at hl 1 rfl) ?_
    refine b_get (q := 24) (k := 1) hb0 X hK B rfl in_X4 (by omega) mg_24 (by decide) lk_X4_11 rfl rfl dX4_get_32 ?_
    refine lv_iload_n hx hb dX4_get_35 rfl (lv_at hl 2 rfl) ?_
    refine lv_iconst (v := 3) hx hb dX4_get_36 (by decide) ?_
    refine h_new3 (cz := 1) (sz := 3) X hA hK B (Nat.le_of_ble_eq_true rfl) (Nat.le_of_ble_eq_true rfl) (Nat.le_of_ble_eq_true rfl) (Nat.le_of_ble_eq_true rfl) dX4_get_37 (fun z11 H B => ?_)
    have B : WB g (aw N ad sz) s.heap (N + 1) (va_up ad N z11) (mg g (va_up ad N z11) (va_up y N (c_row g (0, 0, 0))) cr dr th kn rf pl pz mc) H locs := WM_push (by omega) B
    refine lv_dup hx hb dX4_get_39 rfl ?_
    refine lv_iconst (v := 0) hx hb dX4_get_40 (by decide) ?_
    refine lv_aload_n hx hb dX4_get_41 rfl (lv_at hl 3 rfl) ?_
    refine lv_iconst (v := 0) hx hb dX4_get_42 (by decide) ?_
    refine h_ld0 X hK B (Nat.lt_succ_of_lt hj2) ((up_lt hj2).trans hbj2) (mg_row hfj2 ((up_lt hj2).trans rfl)) dX4_get_43 ?_
    refine h_st (t := (0, 0, 0)) (t' := (tj2.1, 0, 0)) X hK B (Nat.lt_succ_self _) up_eq ((mg_hi (by omega)).trans up_eq) (by unfold vp_in; decide) (rw3_s0 _ _) dX4_get_44 (fun H locs B => ?_)
    rw [mg_yup (by omega), bx_uu] at B
    refine lv_dup hx hb dX4_get_45 rfl ?_
    refine lv_iconst (v := 1) hx hb dX4_get_46 (by decide) ?_
    refine lv_aload_n hx hb dX4_get_47 rfl (lv_at hl 3 rfl) ?_
    refine lv_iconst (v := 1) hx hb dX4_get_48 (by decide) ?_
    refine h_ld1 X hK B (Nat.lt_succ_of_lt hj2) ((up_lt hj2).trans hbj2) (mg_row hfj2 ((up_lt hj2).trans rfl)) dX4_get_49 ?_
    refine h_st (t := (tj2.1, 0, 0)) (t' := (tj2.1, tj2.2.1, 0)) X hK B (Nat.lt_succ_self _) up_eq ((mg_hi (by omega)).trans up_eq) (by unfold vp_in; decide) (rw3_s1 _ _) dX4_get_50 (fun H locs B => ?_)
    rw [mg_yup (by omega), bx_uu] at B
    refine lv_dup hx hb dX4_get_51 rfl ?_
    refine lv_iconst (v := 2) hx hb dX4_get_52 (by decide) ?_
    refine lv_aload_n hx hb dX4_get_53 rfl (lv_at hl 3 rfl) ?_
    refine lv_iconst (v := 2) hx hb dX4_get_54 (by decide) ?_
    refine h_ld2 X hK B (Nat.lt_succ_of_lt hj2) ((up_lt hj2).trans hbj2) (mg_row hfj2 ((up_lt hj2).trans rfl)) dX4_get_55 ?_
    refine h_st (t := (tj2.1, tj2.2.1, 0)) (t' := (tj2.1, tj2.2.1, tj2.2.2)) X hK B (Nat.lt_succ_self _) up_eq ((mg_hi (by omega)).trans up_eq) (by unfold vp_in; decide) (rw3_s2 _ _) dX4_get_56 (fun H locs B => ?_)
    rw [mg_yup (by omega), bx_uu] at B
    have g12 : a1.toNatClampNeg < 4 := (no_lt hza1)
    refine b_aast (q := 25) (qv := N) (up_lt (by omega)) X hK hT B (by omega) mg_25 (Nat.lt_succ_self _) up_eq ((mg_hi (by omega)).trans up_eq) (no_in hza1) dX4_get_57 (fun H locs B => ?_)
    have B : WB g (aw N ad sz) s.heap N (va_up ad (28 + a1.toNatClampNeg) z11) (mg g (va_up ad (28 + a1.toNatClampNeg) z11) y (va_up cr a1.toNatClampNeg (tj2.1, tj2.2.1, tj2.2.2)) dr th kn rf pl pz mc) H locs := WM_cr B (fun _ => rfl) hN g12
    have kk13 : ∀ k, k < N → k < 28 ∨ 36 ≤ k → (va_up ad (28 + a1.toNatClampNeg) z11) k = ad k := fun k hk hkq => (va_up_ne _ _ (by omega)).trans rfl
    have nb15 : (va_up ad (28 + a1.toNatClampNeg) z11) 24 = b0 := (va_up_ne _ _ (by omega)).trans hb0
    refine lv_iload_n hx hb dX4_get_58 rfl (lv_at hl 0 rfl) ?_
    have ev := (show v_X4_get cr a1 tj2 = ((v_X4_one 1), va_up cr a1.toNatClampNeg (tj2.1, tj2.2.1, tj2.2.2)) from by unfold v_X4_get; rw [if_pos c3])
    exact rt_i X hr ((va_up ad (28 + a1.toNatClampNeg) z11), mg g (va_up ad (28 + a1.toNatClampNeg) z11) y (va_up cr a1.toNatClampNeg (tj2.1, tj2.2.1, tj2.2.2)) dr th kn rf pl pz mc) B (PO_of B) ⟨kk13, by rw [ev], by rw [ev]⟩ rfl (Nat.le_of_ble_eq_true rfl) (Nat.le_of_ble_eq_true rfl) dX4_get_59
def v_X4_getN (rf : Int32) : Int32 × Int32 := ((v_X4_refuse rf).1, (v_X4_refuse rf).2)
set_option maxHeartbeats 4000000 in
set_option maxRecDepth 100000 in
theorem c_X4_getN (l : Launch) (g : GG) (N : Nat) (ad : Nat → Nat) (y : Nat → va_E) (cr dr : Nat → TR) (th kn rf : Int32) (pl : Nat → TR) (pz : Nat) (mc : Int32) (hN : 36 + pz ≤ N) (b0 : Nat) (hb0 : ad 24 = b0) (a1 : Int32) : KI l yX4_get cX4_get 4 (some .int) (rm 1 0 0) g [.ref b0, .int a1, .null] N ad (mg g ad y cr dr th kn rf pl pz mc) N (fun r ad' f' => ad = ad' ∧ (v_X4_getN rf).1 = r ∧ mg g ad y cr dr th kn (v_X4_getN rf).2 pl pz mc = f') := by
  intro sz
  refine mt_start (by decide) (Nat.le_of_ble_eq_true rfl) ?_
  intro p e s m args below meth c hsz X hr hnam hA hK hT H locs B ls hl
  obtain ⟨hx, hb, hml, hown, hts, hlocks⟩ := id X
  have hl : lv_has ls 4 [(0, .ref b0), (1, .int a1), (2, .null)] := hl
  refine lv_aload_nN hx hb dX4_get_0 rfl (lv_at hl 2 rfl) ?_
  refine lv_ifnonnullN hx hb dX4_get_1 ?_
  refine lv_aload_n hx hb dX4_get_4 rfl (lv_at hl 0 rfl) ?_
  refine k_i (k := 0) (n := 0) hA B (b_V (q := 24) (rest := []) hb0 X (c_X4_refuse l g N ad y cr dr th kn rf pl pz mc (by omega) b0 hb0 H.size) mw_X4_refuse md_X4_refuse rfl lk_X4_83 ⟨Nat.le_of_ble_eq_true rfl, Nat.le_of_ble_eq_true rfl⟩ hA hK hT B (by omega) mg_24 rfl rfl hl.1 rfl (Nat.le_of_ble_eq_true rfl) dX4_get_5 ⟨Nat.le_of_ble_eq_true rfl, Nat.le_of_ble_eq_true rfl⟩) (Nat.le_of_ble_eq_true rfl) (Nat.le_of_ble_eq_true rfl) (fun r1 ad1 f' H locs hw B => ?_)
  obtain ⟨rfl, rfl, rfl⟩ := hw
  have ev := (show v_X4_getN rf = ((v_X4_refuse rf).1, (v_X4_refuse rf).2) from rfl)
  exact rt_i X hr (ad, mg g ad y cr dr th kn (v_X4_refuse rf).2 pl pz mc) B (PO_of B) ⟨rfl, by rw [ev], by rw [ev]⟩ rfl (Nat.le_of_ble_eq_true rfl) (Nat.le_of_ble_eq_true rfl) dX4_get_8
def v_X4_written (cr : Nat → TR) (rf : Int32) (a1 : Int32) (b2 : Int64) (b3 : Int64) (b4 : Int64) : Int32 × (Nat → TR) × Int32 × Int32 := if v_X4_isNone a1 = 0 then (om (v_X4_span b2 b3 b4) ((v_X4_getN rf).1, cr, 0, (v_X4_getN rf).2) (fun t4 => ((v_X4_get cr a1 t4).1, (v_X4_get cr a1 t4).2, 0, rf))) else (0, cr, 1, rf)
set_option maxHeartbeats 4000000 in
set_option maxRecDepth 100000 in
theorem c_X4_written (l : Launch) (g : GG) (N : Nat) (ad : Nat → Nat) (y : Nat → va_E) (cr dr : Nat → TR) (th kn rf : Int32) (pl : Nat → TR) (pz : Nat) (mc : Int32) (hN : 36 + pz ≤ N) (b0 : Nat) (hb0 : ad 24 = b0) (a1 : Int32) (b2 : Int64) (b3 : Int64) (b4 : Int64) : KI l yX4_written cX4_written 8 (some .int) (rm 2 2 6) g [.ref b0, .int a1, .long b2, .long b3, .long b4] N ad (mg g ad y cr dr th kn rf pl pz mc) N (fun r ad' f' => (∀ k, k < N → k < 28 ∨ 36 ≤ k → ad' k = ad k) ∧ (v_X4_written cr rf a1 b2 b3 b4).1 = r ∧ mg g ad' y (v_X4_written cr rf a1 b2 b3 b4).2.1 dr (v_X4_written cr rf a1 b2 b3 b4).2.2.1 kn (v_X4_written cr rf a1 b2 b3 b4).2.2.2 pl pz mc = f') := by
  intro sz
  refine mt_start (by decide) (Nat.le_of_ble_eq_true rfl) ?_
  intro p e s m args below meth c hsz X hr hnam hA hK hT H locs B ls hl
  obtain ⟨hx, hb, hml, hown, hts, hlocks⟩ := id X
  have hl : lv_has ls 8 [(0, .ref b0), (1, .int a1), (2, .long b2), (4, .long b3), (6, .long b4)] := hl
  refine lv_aload_n hx hb dX4_written_0 rfl (lv_at hl 0 rfl) ?_
  refine lv_iload_n hx hb dX4_written_1 rfl (lv_at hl 1 rfl) ?_
  refine k_i (k := 0) (n := 0) hA B (u_S (rest := [.ref b0]) X (c_X4_isNone l g N ad (mg g ad y cr dr th kn rf pl pz mc) a1 H.size) mw_X4_isNone md_X4_isNone rfl lk_X4_95 ⟨Nat.le_of_ble_eq_true rfl, Nat.le_of_ble_eq_true rfl⟩ hA hK hT B hl.1 rfl (Nat.le_of_ble_eq_true rfl) dX4_written_2 ⟨Nat.le_of_ble_eq_true rfl, Nat.le_of_ble_eq_true rfl⟩) (Nat.le_of_ble_eq_true rfl) (Nat.le_of_ble_eq_true rfl) (fun r1 ad1 f' H locs hw B => ?_)
  obtain ⟨rfl, rfl, rfl⟩ := hw
  refine lv_iconst (v := 0) hx hb dX4_written_5 (by decide) ?_
  by_cases s2 : v_X4_isNone a1 = 0
  · rw [s2]
    refine k_i (k := 0) (n := 0) hA B (b_V (q := 24) (rest := []) hb0 X (c_X4_stops l g N ad y cr dr th kn rf pl pz mc (by omega) b0 hb0 0 0 H.size) mw_X4_stops md_X4_stops rfl lk_X4_99 ⟨Nat.le_of_ble_eq_true rfl, Nat.le_of_ble_eq_true rfl⟩ hA hK hT B (by omega) mg_24 rfl rfl hl.1 rfl (Nat.le_of_ble_eq_true rfl) dX4_written_6 ⟨Nat.le_of_ble_eq_true rfl, Nat.le_of_ble_eq_true rfl⟩) (Nat.le_of_ble_eq_true rfl) (Nat.le_of_ble_eq_true rfl) (fun r ad' f' H locs hw B => ?_)
    rw [st_00] at hw
    dsimp only at hw
    obtain ⟨rfl, rfl, rfl⟩ := hw
    have B : WB g (aw N ad sz) s.heap N ad (mg g ad y cr dr 0 kn rf pl pz mc) H locs := B
    refine lv_if_eq (tgt := 16) hx hb dX4_written_9 (by decide) (fun _ => ?_) (fun z => absurd z (by decide))
    refine lv_aload_n hx hb dX4_written_16 rfl (lv_at hl 0 rfl) ?_
    refine lv_iload_n hx hb dX4_written_17 rfl (lv_at hl 1 rfl) ?_
    refine lv_lload_n hx hb dX4_written_18 rfl (lv_at hl 2 rfl) ?_
    refine lv_lload hx hb dX4_written_19 (lv_at hl 3 rfl) ?_
    refine lv_lload hx hb dX4_written_21 (lv_at hl 4 rfl) ?_
    refine k_r (k := 1) (n := 3) hA B (u_S (rest := [.int a1, .ref b0]) X (c_X4_span l g N ad (mg g ad y cr dr 0 kn rf pl pz mc) b2 b3 b4 H.size) mw_X4_span md_X4_span rfl lk_X4_47 ⟨Nat.le_of_ble_eq_true rfl, Nat.le_of_ble_eq_true rfl⟩ hA hK hT B hl.1 rfl (Nat.le_of_ble_eq_true rfl) dX4_written_23 ⟨Nat.le_of_ble_eq_true rfl, Nat.le_of_ble_eq_true rfl⟩) (Nat.le_of_ble_eq_true rfl) (Nat.le_of_ble_eq_true rfl) (fun r3 ad3 f' H locs hw B => ?_)
    generalize o4 : (v_X4_span b2 b3 b4) = v9 at hw B
    cases v9 with
    | none =>
      obtain ⟨rfl, rfl, rfl⟩ := pw_n hw
      refine k_i (k := 1) (n := 3) hA B (b_V (q := 24) (rest := []) hb0 X (c_X4_getN l g N ad y cr dr 0 kn rf pl pz mc (by omega) b0 hb0 a1 H.size) mw_X4_get md_X4_get rfl lk_X4_103 ⟨Nat.le_of_ble_eq_true rfl, Nat.le_of_ble_eq_true rfl⟩ hA hK hT B (by omega) mg_24 rfl rfl hl.1 rfl (Nat.le_of_ble_eq_true rfl) dX4_written_26 ⟨Nat.le_of_ble_eq_true rfl, Nat.le_of_ble_eq_true rfl⟩) (Nat.le_of_ble_eq_true rfl) (Nat.le_of_ble_eq_true rfl) (fun r5 ad5 f' H locs hw B => ?_)
      obtain ⟨rfl, rfl, rfl⟩ := hw
      have ev := (show v_X4_written cr rf a1 b2 b3 b4 = ((v_X4_getN rf).1, cr, 0, (v_X4_getN rf).2) from by unfold v_X4_written; rw [if_pos s2, om_none o4])
      exact rt_i X hr (ad, mg g ad y cr dr 0 kn (v_X4_getN rf).2 pl pz mc) B (PO_of B) ⟨(fun _ _ _ => rfl), by rw [ev], by rw [ev]⟩ rfl (Nat.le_of_ble_eq_true rfl) (Nat.le_of_ble_eq_true rfl) dX4_written_29
    | some t4 =>
      obtain ⟨z4, rfl, rfl, rfl⟩ := pw_s hw
      have B : WB g (aw N ad sz) s.heap (N + 1) (va_up ad N z4) (mg g (va_up ad N z4) (va_up y N (c_row g t4)) cr dr 0 kn rf pl pz mc) H locs := WM_push (by omega) B
      refine k_i (k := 2) (n := 6) hA B (b_V (q := 24) (rest := []) ((up_lt (by omega)).trans hb0) X (c_X4_get l g (N + 1) (va_up ad N z4) (va_up y N (c_row g t4)) cr dr 0 kn rf pl pz mc (by omega) b0 ((up_lt (by omega)).trans hb0) a1 N z4 t4 (Nat.lt_succ_self _) up_eq ((mg_hi (by omega)).trans up_eq) s2 H.size) mw_X4_get md_X4_get rfl lk_X4_103 ⟨Nat.le_of_ble_eq_true rfl, Nat.le_of_ble_eq_true rfl⟩ hA hK hT B (by omega) mg_24 rfl rfl hl.1 rfl (Nat.le_of_ble_eq_true rfl) dX4_written_26 ⟨Nat.le_of_ble_eq_true rfl, Nat.le_of_ble_eq_true rfl⟩) (Nat.le_of_ble_eq_true rfl) (Nat.le_of_ble_eq_true rfl) (fun r6 ad6 f' H locs hw B => ?_)
      dsimp only at hw
      obtain ⟨mv7, rfl, rfl⟩ := hw
      have B : WB g (aw N ad sz) s.heap N ad6 (mg g ad6 y (v_X4_get cr a1 t4).2 dr 0 kn rf pl pz mc) H locs := WM_drop B (by omega) (by omega) (fun _ _ => rfl) (fun _ hk => (up_lt hk))
      have kk8 : ∀ k, k < N → k < 28 ∨ 36 ≤ k → ad6 k = ad k := fun k hk hkq => (mv7 k (by omega) hkq).trans (((fun _ hk => (up_lt hk)) k hk).trans rfl)
      have nb9 : ad6 24 = b0 := (mv7 24 (by omega) (Or.inl (by decide))).trans ((up_lt (by omega)).trans hb0)
      have ev := (show v_X4_written cr rf a1 b2 b3 b4 = ((v_X4_get cr a1 t4).1, (v_X4_get cr a1 t4).2, 0, rf) from by unfold v_X4_written; rw [if_pos s2, om_some o4])
      exact rt_i X hr (ad6, mg g ad6 y (v_X4_get cr a1 t4).2 dr 0 kn rf pl pz mc) B (PO_of B) ⟨kk8, by rw [ev], by rw [ev]⟩ rfl (Nat.le_of_ble_eq_true rfl) (Nat.le_of_ble_eq_true rfl) dX4_written_29
  · have s2x : (v_X4_isNone a1) = 1 := (b01_X4_isNone).resolve_left s2
    rw [s2x]
    refine k_i (k := 0) (n := 0) hA B (b_V (q := 24) (rest := []) hb0 X (c_X4_stops l g N ad y cr dr th kn rf pl pz mc (by omega) b0 hb0 1 0 H.size) mw_X4_stops md_X4_stops rfl lk_X4_99 ⟨Nat.le_of_ble_eq_true rfl, Nat.le_of_ble_eq_true rfl⟩ hA hK hT B (by omega) mg_24 rfl rfl hl.1 rfl (Nat.le_of_ble_eq_true rfl) dX4_written_6 ⟨Nat.le_of_ble_eq_true rfl, Nat.le_of_ble_eq_true rfl⟩) (Nat.le_of_ble_eq_true rfl) (Nat.le_of_ble_eq_true rfl) (fun r ad' f' H locs hw B => ?_)
    rw [st_10] at hw
    dsimp only at hw
    obtain ⟨rfl, rfl, rfl⟩ := hw
    have B : WB g (aw N ad sz) s.heap N ad (mg g ad y cr dr 1 kn rf pl pz mc) H locs := B
    refine lv_if_eq (tgt := 16) hx hb dX4_written_9 (by decide) (fun z => absurd z (by decide)) (fun _ => ?_)
    refine lv_iconst (v := 0) hx hb dX4_written_12 (by decide) ?_
    refine lv_goto (tgt := 29) hx hb dX4_written_13 (by decide) ?_
    have ev := (show v_X4_written cr rf a1 b2 b3 b4 = (0, cr, 1, rf) from by unfold v_X4_written; rw [if_neg s2])
    exact rt_i X hr (ad, mg g ad y cr dr 1 kn rf pl pz mc) B (PO_of B) ⟨(fun _ _ _ => rfl), by rw [ev], by rw [ev]⟩ rfl (Nat.le_of_ble_eq_true rfl) (Nat.le_of_ble_eq_true rfl) dX4_written_29
def v_X4_write (cr : Nat → TR) (rf : Int32) (a1 : Int32) (a2 : Int32) (a3 : Int32) (a4 : Int32) : Int32 × (Nat → TR) × Int32 × Int32 := ((v_X4_written cr rf a1 a2.toInt64 a3.toInt64 a4.toInt64).1, (v_X4_written cr rf a1 a2.toInt64 a3.toInt64 a4.toInt64).2.1, (v_X4_written cr rf a1 a2.toInt64 a3.toInt64 a4.toInt64).2.2.1, (v_X4_written cr rf a1 a2.toInt64 a3.toInt64 a4.toInt64).2.2.2)
set_option maxHeartbeats 4000000 in
set_option maxRecDepth 100000 in
theorem c_X4_write (l : Launch) (g : GG) (N : Nat) (ad : Nat → Nat) (y : Nat → va_E) (cr dr : Nat → TR) (th kn rf : Int32) (pl : Nat → TR) (pz : Nat) (mc : Int32) (hN : 36 + pz ≤ N) (b0 : Nat) (hb0 : ad 24 = b0) (a1 : Int32) (a2 : Int32) (a3 : Int32) (a4 : Int32) : KI l yX4_write cX4_write 5 (some .int) (rm 3 2 6) g [.ref b0, .int a1, .int a2, .int a3, .int a4] N ad (mg g ad y cr dr th kn rf pl pz mc) N (fun r ad' f' => (∀ k, k < N → k < 28 ∨ 36 ≤ k → ad' k = ad k) ∧ (v_X4_write cr rf a1 a2 a3 a4).1 = r ∧ mg g ad' y (v_X4_write cr rf a1 a2 a3 a4).2.1 dr (v_X4_write cr rf a1 a2 a3 a4).2.2.1 kn (v_X4_write cr rf a1 a2 a3 a4).2.2.2 pl pz mc = f') := by
  intro sz
  refine mt_start (by decide) (Nat.le_of_ble_eq_true rfl) ?_
  intro p e s m args below meth c hsz X hr hnam hA hK hT H locs B ls hl
  obtain ⟨hx, hb, hml, hown, hts, hlocks⟩ := id X
  have hl : lv_has ls 5 [(0, .ref b0), (1, .int a1), (2, .int a2), (3, .int a3), (4, .int a4)] := hl
  refine lv_aload_n hx hb dX4_write_0 rfl (lv_at hl 0 rfl) ?_
  refine lv_iload_n hx hb dX4_write_1 rfl (lv_at hl 1 rfl) ?_
  refine lv_iload_n hx hb dX4_write_2 rfl (lv_at hl 2 rfl) ?_
  refine lv_i2l (v := a2.toInt64) hx hb dX4_write_3 rfl ?_
  refine lv_iload_n hx hb dX4_write_4 rfl (lv_at hl 3 rfl) ?_
  refine lv_i2l (v := a3.toInt64) hx hb dX4_write_5 rfl ?_
  refine lv_iload hx hb dX4_write_6 (lv_at hl 4 rfl) ?_
  refine lv_i2l (v := a4.toInt64) hx hb dX4_write_8 rfl ?_
  refine k_i (k := 2) (n := 6) hA B (b_V (q := 24) (rest := []) hb0 X (c_X4_written l g N ad y cr dr th kn rf pl pz mc (by omega) b0 hb0 a1 a2.toInt64 a3.toInt64 a4.toInt64 H.size) mw_X4_written md_X4_written rfl lk_X4_107 ⟨Nat.le_of_ble_eq_true rfl, Nat.le_of_ble_eq_true rfl⟩ hA hK hT B (by omega) mg_24 rfl rfl hl.1 rfl (Nat.le_of_ble_eq_true rfl) dX4_write_9 ⟨Nat.le_of_ble_eq_true rfl, Nat.le_of_ble_eq_true rfl⟩) (Nat.le_of_ble_eq_true rfl) (Nat.le_of_ble_eq_true rfl) (fun r1 ad1 f' H locs hw B => ?_)
  dsimp only at hw
  obtain ⟨mv2, rfl, rfl⟩ := hw
  have kk3 : ∀ k, k < N → k < 28 ∨ 36 ≤ k → ad1 k = ad k := fun k hk hkq => (mv2 k (by omega) hkq).trans (rfl.trans rfl)
  have nb4 : ad1 24 = b0 := (mv2 24 (by omega) (Or.inl (by decide))).trans hb0
  have ev := (show v_X4_write cr rf a1 a2 a3 a4 = ((v_X4_written cr rf a1 a2.toInt64 a3.toInt64 a4.toInt64).1, (v_X4_written cr rf a1 a2.toInt64 a3.toInt64 a4.toInt64).2.1, (v_X4_written cr rf a1 a2.toInt64 a3.toInt64 a4.toInt64).2.2.1, (v_X4_written cr rf a1 a2.toInt64 a3.toInt64 a4.toInt64).2.2.2) from rfl)
  exact rt_i X hr (ad1, mg g ad1 y (v_X4_written cr rf a1 a2.toInt64 a3.toInt64 a4.toInt64).2.1 dr (v_X4_written cr rf a1 a2.toInt64 a3.toInt64 a4.toInt64).2.2.1 kn (v_X4_written cr rf a1 a2.toInt64 a3.toInt64 a4.toInt64).2.2.2 pl pz mc) B (PO_of B) ⟨kk3, by rw [ev], by rw [ev]⟩ rfl (Nat.le_of_ble_eq_true rfl) (Nat.le_of_ble_eq_true rfl) dX4_write_12
def v_X4_ofYears (cr : Nat → TR) (rf : Int32) (a1 : Int32) (a2 : Int32) : Int32 × (Nat → TR) × Int32 × Int32 := ((v_X4_written cr rf a1 a2.toInt64 0 0).1, (v_X4_written cr rf a1 a2.toInt64 0 0).2.1, (v_X4_written cr rf a1 a2.toInt64 0 0).2.2.1, (v_X4_written cr rf a1 a2.toInt64 0 0).2.2.2)
set_option maxHeartbeats 4000000 in
set_option maxRecDepth 100000 in
theorem c_X4_ofYears (l : Launch) (g : GG) (N : Nat) (ad : Nat → Nat) (y : Nat → va_E) (cr dr : Nat → TR) (th kn rf : Int32) (pl : Nat → TR) (pz : Nat) (mc : Int32) (hN : 36 + pz ≤ N) (b0 : Nat) (hb0 : ad 24 = b0) (a1 : Int32) (a2 : Int32) : KI l yX4_ofYears cX4_ofYears 3 (some .int) (rm 3 2 6) g [.ref b0, .int a1, .int a2] N ad (mg g ad y cr dr th kn rf pl pz mc) N (fun r ad' f' => (∀ k, k < N → k < 28 ∨ 36 ≤ k → ad' k = ad k) ∧ (v_X4_ofYears cr rf a1 a2).1 = r ∧ mg g ad' y (v_X4_ofYears cr rf a1 a2).2.1 dr (v_X4_ofYears cr rf a1 a2).2.2.1 kn (v_X4_ofYears cr rf a1 a2).2.2.2 pl pz mc = f') := by
  intro sz
  refine mt_start (by decide) (Nat.le_of_ble_eq_true rfl) ?_
  intro p e s m args below meth c hsz X hr hnam hA hK hT H locs B ls hl
  obtain ⟨hx, hb, hml, hown, hts, hlocks⟩ := id X
  have hl : lv_has ls 3 [(0, .ref b0), (1, .int a1), (2, .int a2)] := hl
  refine lv_aload_n hx hb dX4_ofYears_0 rfl (lv_at hl 0 rfl) ?_
  refine lv_iload_n hx hb dX4_ofYears_1 rfl (lv_at hl 1 rfl) ?_
  refine lv_iload_n hx hb dX4_ofYears_2 rfl (lv_at hl 2 rfl) ?_
  refine lv_i2l (v := a2.toInt64) hx hb dX4_ofYears_3 rfl ?_
  refine lv_lconst (v := 0) hx hb dX4_ofYears_4 (by decide) ?_
  refine lv_lconst (v := 0) hx hb dX4_ofYears_5 (by decide) ?_
  refine k_i (k := 2) (n := 6) hA B (b_V (q := 24) (rest := []) hb0 X (c_X4_written l g N ad y cr dr th kn rf pl pz mc (by omega) b0 hb0 a1 a2.toInt64 0 0 H.size) mw_X4_written md_X4_written rfl lk_X4_107 ⟨Nat.le_of_ble_eq_true rfl, Nat.le_of_ble_eq_true rfl⟩ hA hK hT B (by omega) mg_24 rfl rfl hl.1 rfl (Nat.le_of_ble_eq_true rfl) dX4_ofYears_6 ⟨Nat.le_of_ble_eq_true rfl, Nat.le_of_ble_eq_true rfl⟩) (Nat.le_of_ble_eq_true rfl) (Nat.le_of_ble_eq_true rfl) (fun r1 ad1 f' H locs hw B => ?_)
  dsimp only at hw
  obtain ⟨mv2, rfl, rfl⟩ := hw
  have kk3 : ∀ k, k < N → k < 28 ∨ 36 ≤ k → ad1 k = ad k := fun k hk hkq => (mv2 k (by omega) hkq).trans (rfl.trans rfl)
  have nb4 : ad1 24 = b0 := (mv2 24 (by omega) (Or.inl (by decide))).trans hb0
  have ev := (show v_X4_ofYears cr rf a1 a2 = ((v_X4_written cr rf a1 a2.toInt64 0 0).1, (v_X4_written cr rf a1 a2.toInt64 0 0).2.1, (v_X4_written cr rf a1 a2.toInt64 0 0).2.2.1, (v_X4_written cr rf a1 a2.toInt64 0 0).2.2.2) from rfl)
  exact rt_i X hr (ad1, mg g ad1 y (v_X4_written cr rf a1 a2.toInt64 0 0).2.1 dr (v_X4_written cr rf a1 a2.toInt64 0 0).2.2.1 kn (v_X4_written cr rf a1 a2.toInt64 0 0).2.2.2 pl pz mc) B (PO_of B) ⟨kk3, by rw [ev], by rw [ev]⟩ rfl (Nat.le_of_ble_eq_true rfl) (Nat.le_of_ble_eq_true rfl) dX4_ofYears_9
def v_X4_ofMonths (cr : Nat → TR) (rf : Int32) (a1 : Int32) (a2 : Int32) : Int32 × (Nat → TR) × Int32 × Int32 := ((v_X4_written cr rf a1 0 a2.toInt64 0).1, (v_X4_written cr rf a1 0 a2.toInt64 0).2.1, (v_X4_written cr rf a1 0 a2.toInt64 0).2.2.1, (v_X4_written cr rf a1 0 a2.toInt64 0).2.2.2)
set_option maxHeartbeats 4000000 in
set_option maxRecDepth 100000 in
theorem c_X4_ofMonths (l : Launch) (g : GG) (N : Nat) (ad : Nat → Nat) (y : Nat → va_E) (cr dr : Nat → TR) (th kn rf : Int32) (pl : Nat → TR) (pz : Nat) (mc : Int32) (hN : 36 + pz ≤ N) (b0 : Nat) (hb0 : ad 24 = b0) (a1 : Int32) (a2 : Int32) : KI l yX4_ofMonths cX4_ofMonths 3 (some .int) (rm 3 2 6) g [.ref b0, .int a1, .int a2] N ad (mg g ad y cr dr th kn rf pl pz mc) N (fun r ad' f' => (∀ k, k < N → k < 28 ∨ 36 ≤ k → ad' k = ad k) ∧ (v_X4_ofMonths cr rf a1 a2).1 = r ∧ mg g ad' y (v_X4_ofMonths cr rf a1 a2).2.1 dr (v_X4_ofMonths cr rf a1 a2).2.2.1 kn (v_X4_ofMonths cr rf a1 a2).2.2.2 pl pz mc = f') := by
  intro sz
  refine mt_start (by decide) (Nat.le_of_ble_eq_true rfl) ?_
  intro p e s m args below meth c hsz X hr hnam hA hK hT H locs B ls hl
  obtain ⟨hx, hb, hml, hown, hts, hlocks⟩ := id X
  have hl : lv_has ls 3 [(0, .ref b0), (1, .int a1), (2, .int a2)] := hl
  refine lv_aload_n hx hb dX4_ofMonths_0 rfl (lv_at hl 0 rfl) ?_
  refine lv_iload_n hx hb dX4_ofMonths_1 rfl (lv_at hl 1 rfl) ?_
  refine lv_lconst (v := 0) hx hb dX4_ofMonths_2 (by decide) ?_
  refine lv_iload_n hx hb dX4_ofMonths_3 rfl (lv_at hl 2 rfl) ?_
  refine lv_i2l (v := a2.toInt64) hx hb dX4_ofMonths_4 rfl ?_
  refine lv_lconst (v := 0) hx hb dX4_ofMonths_5 (by decide) ?_
  refine k_i (k := 2) (n := 6) hA B (b_V (q := 24) (rest := []) hb0 X (c_X4_written l g N ad y cr dr th kn rf pl pz mc (by omega) b0 hb0 a1 0 a2.toInt64 0 H.size) mw_X4_written md_X4_written rfl lk_X4_107 ⟨Nat.le_of_ble_eq_true rfl, Nat.le_of_ble_eq_true rfl⟩ hA hK hT B (by omega) mg_24 rfl rfl hl.1 rfl (Nat.le_of_ble_eq_true rfl) dX4_ofMonths_6 ⟨Nat.le_of_ble_eq_true rfl, Nat.le_of_ble_eq_true rfl⟩) (Nat.le_of_ble_eq_true rfl) (Nat.le_of_ble_eq_true rfl) (fun r1 ad1 f' H locs hw B => ?_)
  dsimp only at hw
  obtain ⟨mv2, rfl, rfl⟩ := hw
  have kk3 : ∀ k, k < N → k < 28 ∨ 36 ≤ k → ad1 k = ad k := fun k hk hkq => (mv2 k (by omega) hkq).trans (rfl.trans rfl)
  have nb4 : ad1 24 = b0 := (mv2 24 (by omega) (Or.inl (by decide))).trans hb0
  have ev := (show v_X4_ofMonths cr rf a1 a2 = ((v_X4_written cr rf a1 0 a2.toInt64 0).1, (v_X4_written cr rf a1 0 a2.toInt64 0).2.1, (v_X4_written cr rf a1 0 a2.toInt64 0).2.2.1, (v_X4_written cr rf a1 0 a2.toInt64 0).2.2.2) from rfl)
  exact rt_i X hr (ad1, mg g ad1 y (v_X4_written cr rf a1 0 a2.toInt64 0).2.1 dr (v_X4_written cr rf a1 0 a2.toInt64 0).2.2.1 kn (v_X4_written cr rf a1 0 a2.toInt64 0).2.2.2 pl pz mc) B (PO_of B) ⟨kk3, by rw [ev], by rw [ev]⟩ rfl (Nat.le_of_ble_eq_true rfl) (Nat.le_of_ble_eq_true rfl) dX4_ofMonths_9
def v_X4_ofWeeks (cr : Nat → TR) (rf : Int32) (a1 : Int32) (a2 : Int32) : Int32 × (Nat → TR) × Int32 × Int32 := ((v_X4_written cr rf a1 0 0 (7 * a2.toInt64)).1, (v_X4_written cr rf a1 0 0 (7 * a2.toInt64)).2.1, (v_X4_written cr rf a1 0 0 (7 * a2.toInt64)).2.2.1, (v_X4_written cr rf a1 0 0 (7 * a2.toInt64)).2.2.2)
set_option maxHeartbeats 4000000 in
set_option maxRecDepth 100000 in
theorem c_X4_ofWeeks (l : Launch) (g : GG) (N : Nat) (ad : Nat → Nat) (y : Nat → va_E) (cr dr : Nat → TR) (th kn rf : Int32) (pl : Nat → TR) (pz : Nat) (mc : Int32) (hN : 36 + pz ≤ N) (b0 : Nat) (hb0 : ad 24 = b0) (a1 : Int32) (a2 : Int32) : KI l yX4_ofWeeks cX4_ofWeeks 3 (some .int) (rm 3 2 6) g [.ref b0, .int a1, .int a2] N ad (mg g ad y cr dr th kn rf pl pz mc) N (fun r ad' f' => (∀ k, k < N → k < 28 ∨ 36 ≤ k → ad' k = ad k) ∧ (v_X4_ofWeeks cr rf a1 a2).1 = r ∧ mg g ad' y (v_X4_ofWeeks cr rf a1 a2).2.1 dr (v_X4_ofWeeks cr rf a1 a2).2.2.1 kn (v_X4_ofWeeks cr rf a1 a2).2.2.2 pl pz mc = f') := by
  intro sz
  refine mt_start (by decide) (Nat.le_of_ble_eq_true rfl) ?_
  intro p e s m args below meth c hsz X hr hnam hA hK hT H locs B ls hl
  obtain ⟨hx, hb, hml, hown, hts, hlocks⟩ := id X
  have hl : lv_has ls 3 [(0, .ref b0), (1, .int a1), (2, .int a2)] := hl
  refine lv_aload_n hx hb dX4_ofWeeks_0 rfl (lv_at hl 0 rfl) ?_
  refine lv_iload_n hx hb dX4_ofWeeks_1 rfl (lv_at hl 1 rfl) ?_
  refine lv_lconst (v := 0) hx hb dX4_ofWeeks_2 (by decide) ?_
  refine lv_lconst (v := 0) hx hb dX4_ofWeeks_3 (by decide) ?_
  refine lv_ldc2 hx hb hown (hts _ (List.mem_cons_of_mem _ lk_X4_111)) dX4_ofWeeks_4 ?_
  refine lv_iload_n hx hb dX4_ofWeeks_7 rfl (lv_at hl 2 rfl) ?_
  refine lv_i2l (v := a2.toInt64) hx hb dX4_ofWeeks_8 rfl ?_
  refine lv_lmul hx hb dX4_ofWeeks_9 ?_
  refine k_i (k := 2) (n := 6) hA B (b_V (q := 24) (rest := []) hb0 X (c_X4_written l g N ad y cr dr th kn rf pl pz mc (by omega) b0 hb0 a1 0 0 (7 * a2.toInt64) H.size) mw_X4_written md_X4_written rfl lk_X4_107 ⟨Nat.le_of_ble_eq_true rfl, Nat.le_of_ble_eq_true rfl⟩ hA hK hT B (by omega) mg_24 rfl rfl hl.1 rfl (Nat.le_of_ble_eq_true rfl) dX4_ofWeeks_10 ⟨Nat.le_of_ble_eq_true rfl, Nat.le_of_ble_eq_true rfl⟩) (Nat.le_of_ble_eq_true rfl) (Nat.le_of_ble_eq_true rfl) (fun r1 ad1 f' H locs hw B => ?_)
  dsimp only at hw
  obtain ⟨mv2, rfl, rfl⟩ := hw
  have kk3 : ∀ k, k < N → k < 28 ∨ 36 ≤ k → ad1 k = ad k := fun k hk hkq => (mv2 k (by omega) hkq).trans (rfl.trans rfl)
  have nb4 : ad1 24 = b0 := (mv2 24 (by omega) (Or.inl (by decide))).trans hb0
  have ev := (show v_X4_ofWeeks cr rf a1 a2 = ((v_X4_written cr rf a1 0 0 (7 * a2.toInt64)).1, (v_X4_written cr rf a1 0 0 (7 * a2.toInt64)).2.1, (v_X4_written cr rf a1 0 0 (7 * a2.toInt64)).2.2.1, (v_X4_written cr rf a1 0 0 (7 * a2.toInt64)).2.2.2) from rfl)
  exact rt_i X hr (ad1, mg g ad1 y (v_X4_written cr rf a1 0 0 (7 * a2.toInt64)).2.1 dr (v_X4_written cr rf a1 0 0 (7 * a2.toInt64)).2.2.1 kn (v_X4_written cr rf a1 0 0 (7 * a2.toInt64)).2.2.2 pl pz mc) B (PO_of B) ⟨kk3, by rw [ev], by rw [ev]⟩ rfl (Nat.le_of_ble_eq_true rfl) (Nat.le_of_ble_eq_true rfl) dX4_ofWeeks_13
def v_X4_ofDays (cr : Nat → TR) (rf : Int32) (a1 : Int32) (a2 : Int32) : Int32 × (Nat → TR) × Int32 × Int32 := ((v_X4_written cr rf a1 0 0 a2.toInt64).1, (v_X4_written cr rf a1 0 0 a2.toInt64).2.1, (v_X4_written cr rf a1 0 0 a2.toInt64).2.2.1, (v_X4_written cr rf a1 0 0 a2.toInt64).2.2.2)
set_option maxHeartbeats 4000000 in
set_option maxRecDepth 100000 in
theorem c_X4_ofDays (l : Launch) (g : GG) (N : Nat) (ad : Nat → Nat) (y : Nat → va_E) (cr dr : Nat → TR) (th kn rf : Int32) (pl : Nat → TR) (pz : Nat) (mc : Int32) (hN : 36 + pz ≤ N) (b0 : Nat) (hb0 : ad 24 = b0) (a1 : Int32) (a2 : Int32) : KI l yX4_ofDays cX4_ofDays 3 (some .int) (rm 3 2 6) g [.ref b0, .int a1, .int a2] N ad (mg g ad y cr dr th kn rf pl pz mc) N (fun r ad' f' => (∀ k, k < N → k < 28 ∨ 36 ≤ k → ad' k = ad k) ∧ (v_X4_ofDays cr rf a1 a2).1 = r ∧ mg g ad' y (v_X4_ofDays cr rf a1 a2).2.1 dr (v_X4_ofDays cr rf a1 a2).2.2.1 kn (v_X4_ofDays cr rf a1 a2).2.2.2 pl pz mc = f') := by
  intro sz
  refine mt_start (by decide) (Nat.le_of_ble_eq_true rfl) ?_
  intro p e s m args below meth c hsz X hr hnam hA hK hT H locs B ls hl
  obtain ⟨hx, hb, hml, hown, hts, hlocks⟩ := id X
  have hl : lv_has ls 3 [(0, .ref b0), (1, .int a1), (2, .int a2)] := hl
  refine lv_aload_n hx hb dX4_ofDays_0 rfl (lv_at hl 0 rfl) ?_
  refine lv_iload_n hx hb dX4_ofDays_1 rfl (lv_at hl 1 rfl) ?_
  refine lv_lconst (v := 0) hx hb dX4_ofDays_2 (by decide) ?_
  refine lv_lconst (v := 0) hx hb dX4_ofDays_3 (by decide) ?_
  refine lv_iload_n hx hb dX4_ofDays_4 rfl (lv_at hl 2 rfl) ?_
  refine lv_i2l (v := a2.toInt64) hx hb dX4_ofDays_5 rfl ?_
  refine k_i (k := 2) (n := 6) hA B (b_V (q := 24) (rest := []) hb0 X (c_X4_written l g N ad y cr dr th kn rf pl pz mc (by omega) b0 hb0 a1 0 0 a2.toInt64 H.size) mw_X4_written md_X4_written rfl lk_X4_107 ⟨Nat.le_of_ble_eq_true rfl, Nat.le_of_ble_eq_true rfl⟩ hA hK hT B (by omega) mg_24 rfl rfl hl.1 rfl (Nat.le_of_ble_eq_true rfl) dX4_ofDays_6 ⟨Nat.le_of_ble_eq_true rfl, Nat.le_of_ble_eq_true rfl⟩) (Nat.le_of_ble_eq_true rfl) (Nat.le_of_ble_eq_true rfl) (fun r1 ad1 f' H locs hw B => ?_)
  dsimp only at hw
  obtain ⟨mv2, rfl, rfl⟩ := hw
  have kk3 : ∀ k, k < N → k < 28 ∨ 36 ≤ k → ad1 k = ad k := fun k hk hkq => (mv2 k (by omega) hkq).trans (rfl.trans rfl)
  have nb4 : ad1 24 = b0 := (mv2 24 (by omega) (Or.inl (by decide))).trans hb0
  have ev := (show v_X4_ofDays cr rf a1 a2 = ((v_X4_written cr rf a1 0 0 a2.toInt64).1, (v_X4_written cr rf a1 0 0 a2.toInt64).2.1, (v_X4_written cr rf a1 0 0 a2.toInt64).2.2.1, (v_X4_written cr rf a1 0 0 a2.toInt64).2.2.2) from rfl)
  exact rt_i X hr (ad1, mg g ad1 y (v_X4_written cr rf a1 0 0 a2.toInt64).2.1 dr (v_X4_written cr rf a1 0 0 a2.toInt64).2.2.1 kn (v_X4_written cr rf a1 0 0 a2.toInt64).2.2.2 pl pz mc) B (PO_of B) ⟨kk3, by rw [ev], by rw [ev]⟩ rfl (Nat.le_of_ble_eq_true rfl) (Nat.le_of_ble_eq_true rfl) dX4_ofDays_9
end
section
def v_X4_change (cr : Nat → TR) (a1 : Int32) (a2 : Int32) (a3 : Int32) : Int32 × (Nat → TR) × Int32 := if (v_X4_isIn a2.toInt64 0 2) = 0 then (if v_X4_isNone a1 = 0 then (0, cr, 2) else (0, cr, 1)) else (if v_X4_isNone a1 = 0 then ((v_X4_get cr a1 (rwu ((cr a1.toNatClampNeg).1, (cr a1.toNatClampNeg).2.1, (cr a1.toNatClampNeg).2.2) a2.toNatClampNeg a3)).1, (v_X4_get cr a1 (rwu ((cr a1.toNatClampNeg).1, (cr a1.toNatClampNeg).2.1, (cr a1.toNatClampNeg).2.2) a2.toNatClampNeg a3)).2, 0) else (0, cr, 1))
set_option maxHeartbeats 4000000 in
set_option maxRecDepth 100000 in
theorem c_X4_change (l : Launch) (g : GG) (N : Nat) (ad : Nat → Nat) (y : Nat → va_E) (cr dr : Nat → TR) (th kn rf : Int32) (pl : Nat → TR) (pz : Nat) (mc : Int32) (hN : 36 + pz ≤ N) (b0 : Nat) (hb0 : ad 24 = b0) (a1 : Int32) (a2 : Int32) (a3 : Int32) : KI l yX4_change cX4_change 5 (some .int) (rm 2 2 6) g [.ref b0, .int a1, .int a2, .int a3] N ad (mg g ad y cr dr th kn rf pl pz mc) N (fun r ad' f' => (∀ k, k < N → k < 28 ∨ 36 ≤ k → ad' k = ad k) ∧ (v_X4_change cr a1 a2 a3).1 = r ∧ mg g ad' y (v_X4_change cr a1 a2 a3).2.1 dr (v_X4_change cr a1 a2 a3).2.2 kn rf pl pz mc = f') := by
  intro sz
  refine mt_start (by decide) (Nat.le_of_ble_eq_true rfl) ?_
  intro p e s m args below meth c hsz X hr hnam hA hK hT H locs B ls hl
  obtain ⟨hx, hb, hml, hown, hts, hlocks⟩ := id X
  have hl : lv_has ls 5 [(0, .ref b0), (1, .int a1), (2, .int a2), (3, .int a3)] := hl
  refine lv_aload_n hx hb dX4_change_0 rfl (lv_at hl 0 rfl) ?_
  refine lv_iload_n hx hb dX4_change_1 rfl (lv_at hl 1 rfl) ?_
  refine k_i (k := 0) (n := 0) hA B (u_S (rest := [.ref b0]) X (c_X4_isNone l g N ad (mg g ad y cr dr th kn rf pl pz mc) a1 H.size) mw_X4_isNone md_X4_isNone rfl lk_X4_95 ⟨Nat.le_of_ble_eq_true rfl, Nat.le_of_ble_eq_true rfl⟩ hA hK hT B hl.1 rfl (Nat.le_of_ble_eq_true rfl) dX4_change_2 ⟨Nat.le_of_ble_eq_true rfl, Nat.le_of_ble_eq_true rfl⟩) (Nat.le_of_ble_eq_true rfl) (Nat.le_of_ble_eq_true rfl) (fun r1 ad1 f' H locs hw B => ?_)
  obtain ⟨rfl, rfl, rfl⟩ := hw
  refine lv_iload_n hx hb dX4_change_5 rfl (lv_at hl 2 rfl) ?_
  refine lv_i2l (v := a2.toInt64) hx hb dX4_change_6 rfl ?_
  refine lv_lconst (v := 0) hx hb dX4_change_7 (by decide) ?_
  refine lv_ldc2 hx hb hown (hts _ (List.mem_cons_of_mem _ lk_X4_113)) dX4_change_8 ?_
  refine k_i (k := 0) (n := 0) hA B (u_S (rest := [.int (v_X4_isNone a1), .ref b0]) X (c_X4_isIn l g N ad (mg g ad y cr dr th kn rf pl pz mc) a2.toInt64 0 2 H.size) mw_X4_isIn md_X4_isIn rfl lk_X4_37 ⟨Nat.le_of_ble_eq_true rfl, Nat.le_of_ble_eq_true rfl⟩ hA hK hT B hl.1 rfl (Nat.le_of_ble_eq_true rfl) dX4_change_11 ⟨Nat.le_of_ble_eq_true rfl, Nat.le_of_ble_eq_true rfl⟩) (Nat.le_of_ble_eq_true rfl) (Nat.le_of_ble_eq_true rfl) (fun r2 ad2 f' H locs hw B => ?_)
  obtain ⟨rfl, rfl, rfl⟩ := hw
  refine lv_if_ne (tgt := 21) hx hb dX4_change_14 (by decide) (fun c3 => ?_) (fun c3 => ?_)
  · refine lv_iconst (v := 0) hx hb dX4_change_21 (by decide) ?_
    by_cases s4 : v_X4_isNone a1 = 0
    · rw [s4]
      refine k_i (k := 0) (n := 0) hA B (b_V (q := 24) (rest := []) hb0 X (c_X4_stops l g N ad y cr dr th kn rf pl pz mc (by omega) b0 hb0 0 0 H.size) mw_X4_stops md_X4_stops rfl lk_X4_99 ⟨Nat.le_of_ble_eq_true rfl, Nat.le_of_ble_eq_true rfl⟩ hA hK hT B (by omega) mg_24 rfl rfl hl.1 rfl (Nat.le_of_ble_eq_true rfl) dX4_change_22 ⟨Nat.le_of_ble_eq_true rfl, Nat.le_of_ble_eq_true rfl⟩) (Nat.le_of_ble_eq_true rfl) (Nat.le_of_ble_eq_true rfl) (fun r ad' f' H locs hw B => ?_)
      rw [st_00] at hw
      dsimp only at hw
      obtain ⟨rfl, rfl, rfl⟩ := hw
      have B : WB g (aw N ad sz) s.heap N ad (mg g ad y cr dr 0 kn rf pl pz mc) H locs := B
      refine lv_if_eq (tgt := 30) hx hb dX4_change_25 (by decide) (fun _ => ?_) (fun z => absurd z (by decide))
      refine lv_iconst (v := 3) hx hb dX4_change_30 (by decide) ?_
      refine h_new3 (cz := 1) (sz := 3) X hA hK B (Nat.le_of_ble_eq_true rfl) (Nat.le_of_ble_eq_true rfl) (Nat.le_of_ble_eq_true rfl) (Nat.le_of_ble_eq_true rfl) dX4_change_31 (fun z5 H B => ?_)
      have B : WB g (aw N ad sz) s.heap (N + 1) (va_up ad N z5) (mg g (va_up ad N z5) (va_up y N (c_row g (0, 0, 0))) cr dr 0 kn rf pl pz mc) H locs := WM_push (by omega) B
      refine lv_dup hx hb dX4_change_33 rfl ?_
      refine lv_iconst (v := 0) hx hb dX4_change_34 (by decide) ?_
      refine lv_aload_n hx hb dX4_change_35 rfl (lv_at hl 0 rfl) ?_
      refine b_get (q := 24) (k := 1) ((up_lt (by omega)).trans hb0) X hK B rfl in_X4 (by omega) mg_24 (by decide) lk_X4_11 rfl rfl dX4_change_36 ?_
      refine lv_iload_n hx hb dX4_change_39 rfl (lv_at hl 1 rfl) ?_
      refine b_aald (q := 25) (t0 := 2) (v := (va_up ad N z5) (28 + a1.toNatClampNeg)) rfl X hK B (by omega) mg_25 rfl rfl (no_in s4) rfl dX4_change_40 ?_
      have g6 : a1.toNatClampNeg < 4 := (no_lt s4)
      rw [show (va_up ad N z5) (28 + a1.toNatClampNeg) = ad (28 + a1.toNatClampNeg) from (up_lt (by omega))]
      refine lv_iconst (v := 0) hx hb dX4_change_41 (by decide) ?_
      refine h_ld0 X hK B (Nat.lt_succ_of_lt (pl_cr hN g6)) ((up_lt (pl_cr hN g6)).trans rfl) (mg_cr g6) dX4_change_42 ?_
      refine h_st (t := (0, 0, 0)) (t' := ((cr a1.toNatClampNeg).1, 0, 0)) X hK B (Nat.lt_succ_self _) up_eq ((mg_hi (by omega)).trans up_eq) (by unfold vp_in; decide) (rw3_s0 _ _) dX4_change_43 (fun H locs B => ?_)
      rw [mg_yup (by omega), bx_uu] at B
      refine lv_dup hx hb dX4_change_44 rfl ?_
      refine lv_iconst (v := 1) hx hb dX4_change_45 (by decide) ?_
      refine lv_aload_n hx hb dX4_change_46 rfl (lv_at hl 0 rfl) ?_
      refine b_get (q := 24) (k := 1) ((up_lt (by omega)).trans hb0) X hK B rfl in_X4 (by omega) mg_24 (by decide) lk_X4_11 rfl rfl dX4_change_47 ?_
      refine lv_iload_n hx hb dX4_change_50 rfl (lv_at hl 1 rfl) ?_
      refine b_aald (q := 25) (t0 := 2) (v := (va_up ad N z5) (28 + a1.toNatClampNeg)) rfl X hK B (by omega) mg_25 rfl rfl (no_in s4) rfl dX4_change_51 ?_
      have g7 : a1.toNatClampNeg < 4 := (no_lt s4)
      rw [show (va_up ad N z5) (28 + a1.toNatClampNeg) = ad (28 + a1.toNatClampNeg) from (up_lt (by omega))]
      refine lv_iconst (v := 1) hx hb dX4_change_52 (by decide) ?_
      refine h_ld1 X hK B (Nat.lt_succ_of_lt (pl_cr hN g7)) ((up_lt (pl_cr hN g7)).trans rfl) (mg_cr g7) dX4_change_53 ?_
      refine h_st (t := ((cr a1.toNatClampNeg).1, 0, 0)) (t' := ((cr a1.toNatClampNeg).1, (cr a1.toNatClampNeg).2.1, 0)) X hK B (Nat.lt_succ_self _) up_eq ((mg_hi (by omega)).trans up_eq) (by unfold vp_in; decide) (rw3_s1 _ _) dX4_change_54 (fun H locs B => ?_)
      rw [mg_yup (by omega), bx_uu] at B
      refine lv_dup hx hb dX4_change_55 rfl ?_
      refine lv_iconst (v := 2) hx hb dX4_change_56 (by decide) ?_
      refine lv_aload_n hx hb dX4_change_57 rfl (lv_at hl 0 rfl) ?_
      refine b_get (q := 24) (k := 1) ((up_lt (by omega)).trans hb0) X hK B rfl in_X4 (by omega) mg_24 (by decide) lk_X4_11 rfl rfl dX4_change_58 ?_
      refine lv_iload_n hx hb dX4_change_61 rfl (lv_at hl 1 rfl) ?_
      refine b_aald (q := 25) (t0 := 2) (v := (va_up ad N z5) (28 + a1.toNatClampNeg)) rfl X hK B (by omega) mg_25 rfl rfl (no_in s4) rfl dX4_change_62 ?_
      have g8 : a1.toNatClampNeg < 4 := (no_lt s4)
      rw [show (va_up ad N z5) (28 + a1.toNatClampNeg) = ad (28 + a1.toNatClampNeg) from (up_lt (by omega))]
      refine lv_iconst (v := 2) hx hb dX4_change_63 (by decide) ?_
      refine h_ld2 X hK B (Nat.lt_succ_of_lt (pl_cr hN g8)) ((up_lt (pl_cr hN g8)).trans rfl) (mg_cr g8) dX4_change_64 ?_
      refine h_st (t := ((cr a1.toNatClampNeg).1, (cr a1.toNatClampNeg).2.1, 0)) (t' := ((cr a1.toNatClampNeg).1, (cr a1.toNatClampNeg).2.1, (cr a1.toNatClampNeg).2.2)) X hK B (Nat.lt_succ_self _) up_eq ((mg_hi (by omega)).trans up_eq) (by unfold vp_in; decide) (rw3_s2 _ _) dX4_change_65 (fun H locs B => ?_)
      rw [mg_yup (by omega), bx_uu] at B
      refine lv_astore (lv' := [(4, .ref z5), (0, .ref b0), (1, .int a1), (2, .int a2), (3, .int a3)]) hx hb dX4_change_66 hl (by decide) rfl (fun ls hl => ?_)
      refine lv_aload hx hb dX4_change_68 (lv_at hl 0 rfl) ?_
      refine lv_iload_n hx hb dX4_change_70 rfl (lv_at hl 3 rfl) ?_
      refine lv_iload_n hx hb dX4_change_71 rfl (lv_at hl 4 rfl) ?_
      refine h_st (t := ((cr a1.toNatClampNeg).1, (cr a1.toNatClampNeg).2.1, (cr a1.toNatClampNeg).2.2)) (t' := (rwu ((cr a1.toNatClampNeg).1, (cr a1.toNatClampNeg).2.1, (cr a1.toNatClampNeg).2.2) a2.toNatClampNeg a3)) X hK B (Nat.lt_succ_self _) up_eq ((mg_hi (by omega)).trans up_eq) (isin_ix (n := 3) c3 rfl).1 (rwu_ok (isin_ix (n := 3) c3 rfl).2) dX4_change_72 (fun H locs B => ?_)
      rw [mg_yup (by omega), bx_uu] at B
      refine lv_aload_n hx hb dX4_change_73 rfl (lv_at hl 1 rfl) ?_
      refine lv_iload_n hx hb dX4_change_74 rfl (lv_at hl 2 rfl) ?_
      refine lv_aload hx hb dX4_change_75 (lv_at hl 0 rfl) ?_
      refine k_i (k := 2) (n := 6) hA B (b_V (q := 24) (rest := []) ((up_lt (by omega)).trans hb0) X (c_X4_get l g (N + 1) (va_up ad N z5) (va_up y N (c_row g (rwu ((cr a1.toNatClampNeg).1, (cr a1.toNatClampNeg).2.1, (cr a1.toNatClampNeg).2.2) a2.toNatClampNeg a3))) cr dr 0 kn rf pl pz mc (by omega) b0 ((up_lt (by omega)).trans hb0) a1 N z5 (rwu ((cr a1.toNatClampNeg).1, (cr a1.toNatClampNeg).2.1, (cr a1.toNatClampNeg).2.2) a2.toNatClampNeg a3) (Nat.lt_succ_self _) up_eq ((mg_hi (by omega)).trans up_eq) s4 H.size) mw_X4_get md_X4_get rfl lk_X4_103 ⟨Nat.le_of_ble_eq_true rfl, Nat.le_of_ble_eq_true rfl⟩ hA hK hT B (by omega) mg_24 rfl rfl hl.1 rfl (Nat.le_of_ble_eq_true rfl) dX4_change_77 ⟨Nat.le_of_ble_eq_true rfl, Nat.le_of_ble_eq_true rfl⟩) (Nat.le_of_ble_eq_true rfl) (Nat.le_of_ble_eq_true rfl) (fun r9 ad9 f' H locs hw B => ?_)
      dsimp only at hw
      obtain ⟨mv10, rfl, rfl⟩ := hw
      have B : WB g (aw N ad sz) s.heap N ad9 (mg g ad9 y (v_X4_get cr a1 (rwu ((cr a1.toNatClampNeg).1, (cr a1.toNatClampNeg).2.1, (cr a1.toNatClampNeg).2.2) a2.toNatClampNeg a3)).2 dr 0 kn rf pl pz mc) H locs := WM_drop B (by omega) (by omega) (fun _ _ => rfl) (fun _ hk => (up_lt hk))
      have kk11 : ∀ k, k < N → k < 28 ∨ 36 ≤ k → ad9 k = ad k := fun k hk hkq => (mv10 k (by omega) hkq).trans (((fun _ hk => (up_lt hk)) k hk).trans rfl)
      have nb12 : ad9 24 = b0 := (mv10 24 (by omega) (Or.inl (by decide))).trans ((up_lt (by omega)).trans hb0)
      have ev := (show v_X4_change cr a1 a2 a3 = ((v_X4_get cr a1 (rwu ((cr a1.toNatClampNeg).1, (cr a1.toNatClampNeg).2.1, (cr a1.toNatClampNeg).2.2) a2.toNatClampNeg a3)).1, (v_X4_get cr a1 (rwu ((cr a1.toNatClampNeg).1, (cr a1.toNatClampNeg).2.1, (cr a1.toNatClampNeg).2.2) a2.toNatClampNeg a3)).2, 0) from by unfold v_X4_change; rw [if_neg c3, if_pos s4])
      exact rt_i X hr (ad9, mg g ad9 y (v_X4_get cr a1 (rwu ((cr a1.toNatClampNeg).1, (cr a1.toNatClampNeg).2.1, (cr a1.toNatClampNeg).2.2) a2.toNatClampNeg a3)).2 dr 0 kn rf pl pz mc) B (PO_of B) ⟨kk11, by rw [ev], by rw [ev]⟩ rfl (Nat.le_of_ble_eq_true rfl) (Nat.le_of_ble_eq_true rfl) dX4_change_80
    · have s4x : (v_X4_isNone a1) = 1 := (b01_X4_isNone).resolve_left s4
      rw [s4x]
      refine k_i (k := 0) (n := 0) hA B (b_V (q := 24) (rest := []) hb0 X (c_X4_stops l g N ad y cr dr th kn rf pl pz mc (by omega) b0 hb0 1 0 H.size) mw_X4_stops md_X4_stops rfl lk_X4_99 ⟨Nat.le_of_ble_eq_true rfl, Nat.le_of_ble_eq_true rfl⟩ hA hK hT B (by omega) mg_24 rfl rfl hl.1 rfl (Nat.le_of_ble_eq_true rfl) dX4_change_22 ⟨Nat.le_of_ble_eq_true rfl, Nat.le_of_ble_eq_true rfl⟩) (Nat.le_of_ble_eq_true rfl) (Nat.le_of_ble_eq_true rfl) (fun r ad' f' H locs hw B => ?_)
      rw [st_10] at hw
      dsimp only at hw
      obtain ⟨rfl, rfl, rfl⟩ := hw
      have B : WB g (aw N ad sz) s.heap N ad (mg g ad y cr dr 1 kn rf pl pz mc) H locs := B
      refine lv_if_eq (tgt := 30) hx hb dX4_change_25 (by decide) (fun z => absurd z (by decide)) (fun _ => ?_)
      refine lv_iconst (v := 0) hx hb dX4_change_28 (by decide) ?_
      have ev := (show v_X4_change cr a1 a2 a3 = (0, cr, 1) from by unfold v_X4_change; rw [if_neg c3, if_neg s4])
      exact rt_i X hr (ad, mg g ad y cr dr 1 kn rf pl pz mc) B (PO_of B) ⟨(fun _ _ _ => rfl), by rw [ev], by rw [ev]⟩ rfl (Nat.le_of_ble_eq_true rfl) (Nat.le_of_ble_eq_true rfl) dX4_change_29
  · refine lv_iconst (v := 1) hx hb dX4_change_17 (by decide) ?_
    refine lv_goto (tgt := 22) hx hb dX4_change_18 (by decide) ?_
    by_cases s13 : v_X4_isNone a1 = 0
    · rw [s13]
      refine k_i (k := 0) (n := 0) hA B (b_V (q := 24) (rest := []) hb0 X (c_X4_stops l g N ad y cr dr th kn rf pl pz mc (by omega) b0 hb0 0 1 H.size) mw_X4_stops md_X4_stops rfl lk_X4_99 ⟨Nat.le_of_ble_eq_true rfl, Nat.le_of_ble_eq_true rfl⟩ hA hK hT B (by omega) mg_24 rfl rfl hl.1 rfl (Nat.le_of_ble_eq_true rfl) dX4_change_22 ⟨Nat.le_of_ble_eq_true rfl, Nat.le_of_ble_eq_true rfl⟩) (Nat.le_of_ble_eq_true rfl) (Nat.le_of_ble_eq_true rfl) (fun r ad' f' H locs hw B => ?_)
      rw [st_01] at hw
      dsimp only at hw
      obtain ⟨rfl, rfl, rfl⟩ := hw
      have B : WB g (aw N ad sz) s.heap N ad (mg g ad y cr dr 2 kn rf pl pz mc) H locs := B
      refine lv_if_eq (tgt := 30) hx hb dX4_change_25 (by decide) (fun z => absurd z (by decide)) (fun _ => ?_)
      refine lv_iconst (v := 0) hx hb dX4_change_28 (by decide) ?_
      have ev := (show v_X4_change cr a1 a2 a3 = (0, cr, 2) from by unfold v_X4_change; rw [if_pos c3, if_pos s13])
      exact rt_i X hr (ad, mg g ad y cr dr 2 kn rf pl pz mc) B (PO_of B) ⟨(fun _ _ _ => rfl), by rw [ev], by rw [ev]⟩ rfl (Nat.le_of_ble_eq_true rfl) (Nat.le_of_ble_eq_true rfl) dX4_change_29
    · have s13x : (v_X4_isNone a1) = 1 := (b01_X4_isNone).resolve_left s13
      rw [s13x]
      refine k_i (k := 0) (n := 0) hA B (b_V (q := 24) (rest := []) hb0 X (c_X4_stops l g N ad y cr dr th kn rf pl pz mc (by omega) b0 hb0 1 1 H.size) mw_X4_stops md_X4_stops rfl lk_X4_99 ⟨Nat.le_of_ble_eq_true rfl, Nat.le_of_ble_eq_true rfl⟩ hA hK hT B (by omega) mg_24 rfl rfl hl.1 rfl (Nat.le_of_ble_eq_true rfl) dX4_change_22 ⟨Nat.le_of_ble_eq_true rfl, Nat.le_of_ble_eq_true rfl⟩) (Nat.le_of_ble_eq_true rfl) (Nat.le_of_ble_eq_true rfl) (fun r ad' f' H locs hw B => ?_)
      rw [st_11] at hw
      dsimp only at hw
      obtain ⟨rfl, rfl, rfl⟩ := hw
      have B : WB g (aw N ad sz) s.heap N ad (mg g ad y cr dr 1 kn rf pl pz mc) H locs := B
      refine lv_if_eq (tgt := 30) hx hb dX4_change_25 (by decide) (fun z => absurd z (by decide)) (fun _ => ?_)
      refine lv_iconst (v := 0) hx hb dX4_change_28 (by decide) ?_
      have ev := (show v_X4_change cr a1 a2 a3 = (0, cr, 1) from by unfold v_X4_change; rw [if_pos c3, if_neg s13])
      exact rt_i X hr (ad, mg g ad y cr dr 1 kn rf pl pz mc) B (PO_of B) ⟨(fun _ _ _ => rfl), by rw [ev], by rw [ev]⟩ rfl (Nat.le_of_ble_eq_true rfl) (Nat.le_of_ble_eq_true rfl) dX4_change_29
def v_X4_copy (cr : Nat → TR) (a1 : Int32) (a2 : Int32) : Int32 × (Nat → TR) × Int32 := if (v_X4_isNone a1) = 0 then (if (v_X4_isNone a2) = 0 then ((v_X4_get cr a1 (cr a2.toNatClampNeg)).1, (v_X4_get cr a1 (cr a2.toNatClampNeg)).2, 0) else (0, cr, 1)) else (0, cr, 1)
set_option maxHeartbeats 4000000 in
set_option maxRecDepth 100000 in
theorem c_X4_copy (l : Launch) (g : GG) (N : Nat) (ad : Nat → Nat) (y : Nat → va_E) (cr dr : Nat → TR) (th kn rf : Int32) (pl : Nat → TR) (pz : Nat) (mc : Int32) (hN : 36 + pz ≤ N) (b0 : Nat) (hb0 : ad 24 = b0) (a1 : Int32) (a2 : Int32) : KI l yX4_copy cX4_copy 3 (some .int) (rm 2 1 3) g [.ref b0, .int a1, .int a2] N ad (mg g ad y cr dr th kn rf pl pz mc) N (fun r ad' f' => (∀ k, k < N → k < 28 ∨ 36 ≤ k → ad' k = ad k) ∧ (v_X4_copy cr a1 a2).1 = r ∧ mg g ad' y (v_X4_copy cr a1 a2).2.1 dr (v_X4_copy cr a1 a2).2.2 kn rf pl pz mc = f') := by
  intro sz
  refine mt_start (by decide) (Nat.le_of_ble_eq_true rfl) ?_
  intro p e s m args below meth c hsz X hr hnam hA hK hT H locs B ls hl
  obtain ⟨hx, hb, hml, hown, hts, hlocks⟩ := id X
  have hl : lv_has ls 3 [(0, .ref b0), (1, .int a1), (2, .int a2)] := hl
  refine lv_aload_n hx hb dX4_copy_0 rfl (lv_at hl 0 rfl) ?_
  refine lv_iload_n hx hb dX4_copy_1 rfl (lv_at hl 1 rfl) ?_
  refine k_i (k := 0) (n := 0) hA B (u_S (rest := [.ref b0]) X (c_X4_isNone l g N ad (mg g ad y cr dr th kn rf pl pz mc) a1 H.size) mw_X4_isNone md_X4_isNone rfl lk_X4_95 ⟨Nat.le_of_ble_eq_true rfl, Nat.le_of_ble_eq_true rfl⟩ hA hK hT B hl.1 rfl (Nat.le_of_ble_eq_true rfl) dX4_copy_2 ⟨Nat.le_of_ble_eq_true rfl, Nat.le_of_ble_eq_true rfl⟩) (Nat.le_of_ble_eq_true rfl) (Nat.le_of_ble_eq_true rfl) (fun r1 ad1 f' H locs hw B => ?_)
  obtain ⟨rfl, rfl, rfl⟩ := hw
  refine lv_if_ne (tgt := 15) hx hb dX4_copy_5 (by decide) (fun c2 => ?_) (fun c2 => ?_)
  · refine lv_iconst (v := 1) hx hb dX4_copy_15 (by decide) ?_
    refine lv_goto (tgt := 20) hx hb dX4_copy_16 (by decide) ?_
    refine lv_iconst (v := 0) hx hb dX4_copy_20 (by decide) ?_
    refine k_i (k := 0) (n := 0) hA B (b_V (q := 24) (rest := []) hb0 X (c_X4_stops l g N ad y cr dr th kn rf pl pz mc (by omega) b0 hb0 1 0 H.size) mw_X4_stops md_X4_stops rfl lk_X4_99 ⟨Nat.le_of_ble_eq_true rfl, Nat.le_of_ble_eq_true rfl⟩ hA hK hT B (by omega) mg_24 rfl rfl hl.1 rfl (Nat.le_of_ble_eq_true rfl) dX4_copy_21 ⟨Nat.le_of_ble_eq_true rfl, Nat.le_of_ble_eq_true rfl⟩) (Nat.le_of_ble_eq_true rfl) (Nat.le_of_ble_eq_true rfl) (fun r ad' f' H locs hw B => ?_)
    rw [st_10] at hw
    dsimp only at hw
    obtain ⟨rfl, rfl, rfl⟩ := hw
    have B : WB g (aw N ad sz) s.heap N ad (mg g ad y cr dr 1 kn rf pl pz mc) H locs := B
    refine lv_if_eq (tgt := 31) hx hb dX4_copy_24 (by decide) (fun z => absurd z (by decide)) (fun _ => ?_)
    refine lv_iconst (v := 0) hx hb dX4_copy_27 (by decide) ?_
    refine lv_goto (tgt := 42) hx hb dX4_copy_28 (by decide) ?_
    have ev := (show v_X4_copy cr a1 a2 = (0, cr, 1) from by unfold v_X4_copy; rw [if_neg c2])
    exact rt_i X hr (ad, mg g ad y cr dr 1 kn rf pl pz mc) B (PO_of B) ⟨(fun _ _ _ => rfl), by rw [ev], by rw [ev]⟩ rfl (Nat.le_of_ble_eq_true rfl) (Nat.le_of_ble_eq_true rfl) dX4_copy_42
  · refine lv_iload_n hx hb dX4_copy_8 rfl (lv_at hl 2 rfl) ?_
    refine k_i (k := 0) (n := 0) hA B (u_S (rest := [.ref b0]) X (c_X4_isNone l g N ad (mg g ad y cr dr th kn rf pl pz mc) a2 H.size) mw_X4_isNone md_X4_isNone rfl lk_X4_95 ⟨Nat.le_of_ble_eq_true rfl, Nat.le_of_ble_eq_true rfl⟩ hA hK hT B hl.1 rfl (Nat.le_of_ble_eq_true rfl) dX4_copy_9 ⟨Nat.le_of_ble_eq_true rfl, Nat.le_of_ble_eq_true rfl⟩) (Nat.le_of_ble_eq_true rfl) (Nat.le_of_ble_eq_true rfl) (fun r3 ad3 f' H locs hw B => ?_)
    obtain ⟨rfl, rfl, rfl⟩ := hw
    refine lv_if_eq (tgt := 19) hx hb dX4_copy_12 (by decide) (fun c4 => ?_) (fun c4 => ?_)
    · refine lv_iconst (v := 0) hx hb dX4_copy_19 (by decide) ?_
      refine lv_iconst (v := 0) hx hb dX4_copy_20 (by decide) ?_
      refine k_i (k := 0) (n := 0) hA B (b_V (q := 24) (rest := []) hb0 X (c_X4_stops l g N ad y cr dr th kn rf pl pz mc (by omega) b0 hb0 0 0 H.size) mw_X4_stops md_X4_stops rfl lk_X4_99 ⟨Nat.le_of_ble_eq_true rfl, Nat.le_of_ble_eq_true rfl⟩ hA hK hT B (by omega) mg_24 rfl rfl hl.1 rfl (Nat.le_of_ble_eq_true rfl) dX4_copy_21 ⟨Nat.le_of_ble_eq_true rfl, Nat.le_of_ble_eq_true rfl⟩) (Nat.le_of_ble_eq_true rfl) (Nat.le_of_ble_eq_true rfl) (fun r ad' f' H locs hw B => ?_)
      rw [st_00] at hw
      dsimp only at hw
      obtain ⟨rfl, rfl, rfl⟩ := hw
      have B : WB g (aw N ad sz) s.heap N ad (mg g ad y cr dr 0 kn rf pl pz mc) H locs := B
      refine lv_if_eq (tgt := 31) hx hb dX4_copy_24 (by decide) (fun _ => ?_) (fun z => absurd z (by decide))
      refine lv_aload_n hx hb dX4_copy_31 rfl (lv_at hl 0 rfl) ?_
      refine lv_iload_n hx hb dX4_copy_32 rfl (lv_at hl 1 rfl) ?_
      refine lv_aload_n hx hb dX4_copy_33 rfl (lv_at hl 0 rfl) ?_
      refine b_get (q := 24) (k := 1) hb0 X hK B rfl in_X4 (by omega) mg_24 (by decide) lk_X4_11 rfl rfl dX4_copy_34 ?_
      refine lv_iload_n hx hb dX4_copy_37 rfl (lv_at hl 2 rfl) ?_
      refine b_aald (q := 25) (t0 := 2) (v := ad (28 + a2.toNatClampNeg)) rfl X hK B (by omega) mg_25 rfl rfl (no_in c4) rfl dX4_copy_38 ?_
      have g5 : a2.toNatClampNeg < 4 := (no_lt c4)
      refine k_i (k := 1) (n := 3) hA B (b_V (q := 24) (rest := []) hb0 X (c_X4_get l g N ad y cr dr 0 kn rf pl pz mc (by omega) b0 hb0 a1 (28 + a2.toNatClampNeg) (ad (28 + a2.toNatClampNeg)) (cr a2.toNatClampNeg) (pl_cr hN g5) rfl (mg_cr g5) c2 H.size) mw_X4_get md_X4_get rfl lk_X4_103 ⟨Nat.le_of_ble_eq_true rfl, Nat.le_of_ble_eq_true rfl⟩ hA hK hT B (by omega) mg_24 rfl rfl hl.1 rfl (Nat.le_of_ble_eq_true rfl) dX4_copy_39 ⟨Nat.le_of_ble_eq_true rfl, Nat.le_of_ble_eq_true rfl⟩) (Nat.le_of_ble_eq_true rfl) (Nat.le_of_ble_eq_true rfl) (fun r6 ad6 f' H locs hw B => ?_)
      dsimp only at hw
      obtain ⟨mv7, rfl, rfl⟩ := hw
      have kk8 : ∀ k, k < N → k < 28 ∨ 36 ≤ k → ad6 k = ad k := fun k hk hkq => (mv7 k (by omega) hkq).trans (rfl.trans rfl)
      have nb9 : ad6 24 = b0 := (mv7 24 (by omega) (Or.inl (by decide))).trans hb0
      have ev := (show v_X4_copy cr a1 a2 = ((v_X4_get cr a1 (cr a2.toNatClampNeg)).1, (v_X4_get cr a1 (cr a2.toNatClampNeg)).2, 0) from by unfold v_X4_copy; rw [if_pos c2, if_pos c4])
      exact rt_i X hr (ad6, mg g ad6 y (v_X4_get cr a1 (cr a2.toNatClampNeg)).2 dr 0 kn rf pl pz mc) B (PO_of B) ⟨kk8, by rw [ev], by rw [ev]⟩ rfl (Nat.le_of_ble_eq_true rfl) (Nat.le_of_ble_eq_true rfl) dX4_copy_42
    · refine lv_iconst (v := 1) hx hb dX4_copy_15 (by decide) ?_
      refine lv_goto (tgt := 20) hx hb dX4_copy_16 (by decide) ?_
      refine lv_iconst (v := 0) hx hb dX4_copy_20 (by decide) ?_
      refine k_i (k := 0) (n := 0) hA B (b_V (q := 24) (rest := []) hb0 X (c_X4_stops l g N ad y cr dr th kn rf pl pz mc (by omega) b0 hb0 1 0 H.size) mw_X4_stops md_X4_stops rfl lk_X4_99 ⟨Nat.le_of_ble_eq_true rfl, Nat.le_of_ble_eq_true rfl⟩ hA hK hT B (by omega) mg_24 rfl rfl hl.1 rfl (Nat.le_of_ble_eq_true rfl) dX4_copy_21 ⟨Nat.le_of_ble_eq_true rfl, Nat.le_of_ble_eq_true rfl⟩) (Nat.le_of_ble_eq_true rfl) (Nat.le_of_ble_eq_true rfl) (fun r ad' f' H locs hw B => ?_)
      rw [st_10] at hw
      dsimp only at hw
      obtain ⟨rfl, rfl, rfl⟩ := hw
      have B : WB g (aw N ad sz) s.heap N ad (mg g ad y cr dr 1 kn rf pl pz mc) H locs := B
      refine lv_if_eq (tgt := 31) hx hb dX4_copy_24 (by decide) (fun z => absurd z (by decide)) (fun _ => ?_)
      refine lv_iconst (v := 0) hx hb dX4_copy_27 (by decide) ?_
      refine lv_goto (tgt := 42) hx hb dX4_copy_28 (by decide) ?_
      have ev := (show v_X4_copy cr a1 a2 = (0, cr, 1) from by unfold v_X4_copy; rw [if_pos c2, if_neg c4])
      exact rt_i X hr (ad, mg g ad y cr dr 1 kn rf pl pz mc) B (PO_of B) ⟨(fun _ _ _ => rfl), by rw [ev], by rw [ev]⟩ rfl (Nat.le_of_ble_eq_true rfl) (Nat.le_of_ble_eq_true rfl) dX4_copy_42
def v_X4_moreOf (cr : Nat → TR) (rf : Int32) (a1 : Int32) (a2 : Int32) (a3 : Int32) (a4 : Int32) (a5 : Int32) : Int32 × (Nat → TR) × Int32 × Int32 := if v_X4_isNone a1 = 0 then (if a4 = 0 then (if a2 = 0 then (if a2 = 1 then (if a2 = 2 then (om (v_X4_span (((cr a1.toNatClampNeg).1.toInt64) + (a5.toInt64 * a3.toInt64)) (((cr a1.toNatClampNeg).2.1.toInt64) + (a5.toInt64 * a3.toInt64)) (((cr a1.toNatClampNeg).2.2.toInt64) + (a5.toInt64 * a3.toInt64))) ((v_X4_getN rf).1, cr, 0, (v_X4_getN rf).2) (fun t68 => ((v_X4_get cr a1 t68).1, (v_X4_get cr a1 t68).2, 0, rf))) else (om (v_X4_span (((cr a1.toNatClampNeg).1.toInt64) + (a5.toInt64 * a3.toInt64)) (((cr a1.toNatClampNeg).2.1.toInt64) + (a5.toInt64 * a3.toInt64)) (((cr a1.toNatClampNeg).2.2.toInt64) + 0)) ((v_X4_getN rf).1, cr, 0, (v_X4_getN rf).2) (fun t61 => ((v_X4_get cr a1 t61).1, (v_X4_get cr a1 t61).2, 0, rf)))) else (if a2 = 2 then (om (v_X4_span (((cr a1.toNatClampNeg).1.toInt64) + (a5.toInt64 * a3.toInt64)) (((cr a1.toNatClampNeg).2.1.toInt64) + 0) (((cr a1.toNatClampNeg).2.2.toInt64) + (a5.toInt64 * a3.toInt64))) ((v_X4_getN rf).1, cr, 0, (v_X4_getN rf).2) (fun t52 => ((v_X4_get cr a1 t52).1, (v_X4_get cr a1 t52).2, 0, rf))) else (om (v_X4_span (((cr a1.toNatClampNeg).1.toInt64) + (a5.toInt64 * a3.toInt64)) (((cr a1.toNatClampNeg).2.1.toInt64) + 0) (((cr a1.toNatClampNeg).2.2.toInt64) + 0)) ((v_X4_getN rf).1, cr, 0, (v_X4_getN rf).2) (fun t45 => ((v_X4_get cr a1 t45).1, (v_X4_get cr a1 t45).2, 0, rf))))) else (if a2 = 1 then (if a2 = 2 then (om (v_X4_span (((cr a1.toNatClampNeg).1.toInt64) + 0) (((cr a1.toNatClampNeg).2.1.toInt64) + (a5.toInt64 * a3.toInt64)) (((cr a1.toNatClampNeg).2.2.toInt64) + (a5.toInt64 * a3.toInt64))) ((v_X4_getN rf).1, cr, 0, (v_X4_getN rf).2) (fun t34 => ((v_X4_get cr a1 t34).1, (v_X4_get cr a1 t34).2, 0, rf))) else (om (v_X4_span (((cr a1.toNatClampNeg).1.toInt64) + 0) (((cr a1.toNatClampNeg).2.1.toInt64) + (a5.toInt64 * a3.toInt64)) (((cr a1.toNatClampNeg).2.2.toInt64) + 0)) ((v_X4_getN rf).1, cr, 0, (v_X4_getN rf).2) (fun t27 => ((v_X4_get cr a1 t27).1, (v_X4_get cr a1 t27).2, 0, rf)))) else (if a2 = 2 then (om (v_X4_span (((cr a1.toNatClampNeg).1.toInt64) + 0) (((cr a1.toNatClampNeg).2.1.toInt64) + 0) (((cr a1.toNatClampNeg).2.2.toInt64) + (a5.toInt64 * a3.toInt64))) ((v_X4_getN rf).1, cr, 0, (v_X4_getN rf).2) (fun t18 => ((v_X4_get cr a1 t18).1, (v_X4_get cr a1 t18).2, 0, rf))) else (om (v_X4_span (((cr a1.toNatClampNeg).1.toInt64) + 0) (((cr a1.toNatClampNeg).2.1.toInt64) + 0) (((cr a1.toNatClampNeg).2.2.toInt64) + 0)) ((v_X4_getN rf).1, cr, 0, (v_X4_getN rf).2) (fun t11 => ((v_X4_get cr a1 t11).1, (v_X4_get cr a1 t11).2, 0, rf)))))) else (if a2 = 0 then (if a2 = 1 then (if a2 = 2 then (om (v_X4_span (((cr a1.toNatClampNeg).1.toInt64) + (a5.toInt64 * (4000000000 * a3.toInt64))) (((cr a1.toNatClampNeg).2.1.toInt64) + (a5.toInt64 * (4000000000 * a3.toInt64))) (((cr a1.toNatClampNeg).2.2.toInt64) + (a5.toInt64 * (4000000000 * a3.toInt64)))) ((v_X4_getN rf).1, cr, 0, (v_X4_getN rf).2) (fun t138 => ((v_X4_get cr a1 t138).1, (v_X4_get cr a1 t138).2, 0, rf))) else (om (v_X4_span (((cr a1.toNatClampNeg).1.toInt64) + (a5.toInt64 * (4000000000 * a3.toInt64))) (((cr a1.toNatClampNeg).2.1.toInt64) + (a5.toInt64 * (4000000000 * a3.toInt64))) (((cr a1.toNatClampNeg).2.2.toInt64) + 0)) ((v_X4_getN rf).1, cr, 0, (v_X4_getN rf).2) (fun t131 => ((v_X4_get cr a1 t131).1, (v_X4_get cr a1 t131).2, 0, rf)))) else (if a2 = 2 then (om (v_X4_span (((cr a1.toNatClampNeg).1.toInt64) + (a5.toInt64 * (4000000000 * a3.toInt64))) (((cr a1.toNatClampNeg).2.1.toInt64) + 0) (((cr a1.toNatClampNeg).2.2.toInt64) + (a5.toInt64 * (4000000000 * a3.toInt64)))) ((v_X4_getN rf).1, cr, 0, (v_X4_getN rf).2) (fun t122 => ((v_X4_get cr a1 t122).1, (v_X4_get cr a1 t122).2, 0, rf))) else (om (v_X4_span (((cr a1.toNatClampNeg).1.toInt64) + (a5.toInt64 * (4000000000 * a3.toInt64))) (((cr a1.toNatClampNeg).2.1.toInt64) + 0) (((cr a1.toNatClampNeg).2.2.toInt64) + 0)) ((v_X4_getN rf).1, cr, 0, (v_X4_getN rf).2) (fun t115 => ((v_X4_get cr a1 t115).1, (v_X4_get cr a1 t115).2, 0, rf))))) else (if a2 = 1 then (if a2 = 2 then (om (v_X4_span (((cr a1.toNatClampNeg).1.toInt64) + 0) (((cr a1.toNatClampNeg).2.1.toInt64) + (a5.toInt64 * (4000000000 * a3.toInt64))) (((cr a1.toNatClampNeg).2.2.toInt64) + (a5.toInt64 * (4000000000 * a3.toInt64)))) ((v_X4_getN rf).1, cr, 0, (v_X4_getN rf).2) (fun t104 => ((v_X4_get cr a1 t104).1, (v_X4_get cr a1 t104).2, 0, rf))) else (om (v_X4_span (((cr a1.toNatClampNeg).1.toInt64) + 0) (((cr a1.toNatClampNeg).2.1.toInt64) + (a5.toInt64 * (4000000000 * a3.toInt64))) (((cr a1.toNatClampNeg).2.2.toInt64) + 0)) ((v_X4_getN rf).1, cr, 0, (v_X4_getN rf).2) (fun t97 => ((v_X4_get cr a1 t97).1, (v_X4_get cr a1 t97).2, 0, rf)))) else (if a2 = 2 then (om (v_X4_span (((cr a1.toNatClampNeg).1.toInt64) + 0) (((cr a1.toNatClampNeg).2.1.toInt64) + 0) (((cr a1.toNatClampNeg).2.2.toInt64) + (a5.toInt64 * (4000000000 * a3.toInt64)))) ((v_X4_getN rf).1, cr, 0, (v_X4_getN rf).2) (fun t88 => ((v_X4_get cr a1 t88).1, (v_X4_get cr a1 t88).2, 0, rf))) else (om (v_X4_span (((cr a1.toNatClampNeg).1.toInt64) + 0) (((cr a1.toNatClampNeg).2.1.toInt64) + 0) (((cr a1.toNatClampNeg).2.2.toInt64) + 0)) ((v_X4_getN rf).1, cr, 0, (v_X4_getN rf).2) (fun t81 => ((v_X4_get cr a1 t81).1, (v_X4_get cr a1 t81).2, 0, rf))))))) else (0, cr, 1, rf)
set_option maxHeartbeats 4000000 in
set_option maxRecDepth 100000 in
theorem c_X4_moreOf (l : Launch) (g : GG) (N : Nat) (ad : Nat → Nat) (y : Nat → va_E) (cr dr : Nat → TR) (th kn rf : Int32) (pl : Nat → TR) (pz : Nat) (mc : Int32) (hN : 36 + pz ≤ N) (b0 : Nat) (hb0 : ad 24 = b0) (a1 : Int32) (a2 : Int32) (a3 : Int32) (a4 : Int32) (a5 : Int32) : KI l yX4_moreOf cX4_moreOf 8 (some .int) (rm 2 2 6) g [.ref b0, .int a1, .int a2, .int a3, .int a4, .int a5] N ad (mg g ad y cr dr th kn rf pl pz mc) N (fun r ad' f' => (∀ k, k < N → k < 28 ∨ 36 ≤ k → ad' k = ad k) ∧ (v_X4_moreOf cr rf a1 a2 a3 a4 a5).1 = r ∧ mg g ad' y (v_X4_moreOf cr rf a1 a2 a3 a4 a5).2.1 dr (v_X4_moreOf cr rf a1 a2 a3 a4 a5).2.2.1 kn (v_X4_moreOf cr rf a1 a2 a3 a4 a5).2.2.2 pl pz mc = f') := by
  intro sz
  refine mt_start (by decide) (Nat.le_of_ble_eq_true rfl) ?_
  intro p e s m args below meth c hsz X hr hnam hA hK hT H locs B ls hl
  obtain ⟨hx, hb, hml, hown, hts, hlocks⟩ := id X
  have hl : lv_has ls 8 [(0, .ref b0), (1, .int a1), (2, .int a2), (3, .int a3), (4, .int a4), (5, .int a5)] := hl
  refine lv_aload_n hx hb dX4_moreOf_0 rfl (lv_at hl 0 rfl) ?_
  refine lv_iload_n hx hb dX4_moreOf_1 rfl (lv_at hl 1 rfl) ?_
  refine k_i (k := 0) (n := 0) hA B (u_S (rest := [.ref b0]) X (c_X4_isNone l g N ad (mg g ad y cr dr th kn rf pl pz mc) a1 H.size) mw_X4_isNone md_X4_isNone rfl lk_X4_95 ⟨Nat.le_of_ble_eq_true rfl, Nat.le_of_ble_eq_true rfl⟩ hA hK hT B hl.1 rfl (Nat.le_of_ble_eq_true rfl) dX4_moreOf_2 ⟨Nat.le_of_ble_eq_true rfl, Nat.le_of_ble_eq_true rfl⟩) (Nat.le_of_ble_eq_true rfl) (Nat.le_of_ble_eq_true rfl) (fun r1 ad1 f' H locs hw B => ?_)
  obtain ⟨rfl, rfl, rfl⟩ := hw
  refine lv_iconst (v := 0) hx hb dX4_moreOf_5 (by decide) ?_
  by_cases s2 : v_X4_isNone a1 = 0
  · rw [s2]
    refine k_i (k := 0) (n := 0) hA B (b_V (q := 24) (rest := []) hb0 X (c_X4_stops l g N ad y cr dr th kn rf pl pz mc (by omega) b0 hb0 0 0 H.size) mw_X4_stops md_X4_stops rfl lk_X4_99 ⟨Nat.le_of_ble_eq_true rfl, Nat.le_of_ble_eq_true rfl⟩ hA hK hT B (by omega) mg_24 rfl rfl hl.1 rfl (Nat.le_of_ble_eq_true rfl) dX4_moreOf_6 ⟨Nat.le_of_ble_eq_true rfl, Nat.le_of_ble_eq_true rfl⟩) (Nat.le_of_ble_eq_true rfl) (Nat.le_of_ble_eq_true rfl) (fun r ad' f' H locs hw B => ?_)
    rw [st_00] at hw
    dsimp only at hw
    obtain ⟨rfl, rfl, rfl⟩ := hw
    have B : WB g (aw N ad sz) s.heap N ad (mg g ad y cr dr 0 kn rf pl pz mc) H locs := B
    refine lv_if_eq (tgt := 14) hx hb dX4_moreOf_9 (by decide) (fun _ => ?_) (fun z => absurd z (by decide))
    refine lv_iload hx hb dX4_moreOf_14 (lv_at hl 5 rfl) ?_
    refine lv_i2l (v := a5.toInt64) hx hb dX4_moreOf_16 rfl ?_
    refine lv_iload hx hb dX4_moreOf_17 (lv_at hl 4 rfl) ?_
    refine lv_if_eq (tgt := 31) hx hb dX4_moreOf_19 (by decide) (fun c3 => ?_) (fun c3 => ?_)
    · refine lv_iload_n hx hb dX4_moreOf_31 rfl (lv_at hl 3 rfl) ?_
      refine lv_i2l (v := a3.toInt64) hx hb dX4_moreOf_32 rfl ?_
      refine lv_lmul hx hb dX4_moreOf_33 ?_
      refine lv_lstore (lv' := [(6, .long (a5.toInt64 * a3.toInt64)), (0, .ref b0), (1, .int a1), (2, .int a2), (3, .int a3), (4, .int a4), (5, .int a5)]) hx hb dX4_moreOf_34 hl (by decide) rfl (fun ls hl => ?_)
      refine lv_aload_n hx hb dX4_moreOf_36 rfl (lv_at hl 1 rfl) ?_
      refine lv_iload_n hx hb dX4_moreOf_37 rfl (lv_at hl 2 rfl) ?_
      refine lv_aload_n hx hb dX4_moreOf_38 rfl (lv_at hl 1 rfl) ?_
      refine b_get (q := 24) (k := 1) hb0 X hK B rfl in_X4 (by omega) mg_24 (by decide) lk_X4_11 rfl rfl dX4_moreOf_39 ?_
      refine lv_iload_n hx hb dX4_moreOf_42 rfl (lv_at hl 2 rfl) ?_
      refine b_aald (q := 25) (t0 := 2) (v := ad (28 + a1.toNatClampNeg)) rfl X hK B (by omega) mg_25 rfl rfl (no_in s2) rfl dX4_moreOf_43 ?_
      have g4 : a1.toNatClampNeg < 4 := (no_lt s2)
      refine lv_iconst (v := 0) hx hb dX4_moreOf_44 (by decide) ?_
      refine h_ld0 X hK B (pl_cr hN g4) rfl (mg_cr g4) dX4_moreOf_45 ?_
      refine lv_i2l (v := (cr a1.toNatClampNeg).1.toInt64) hx hb dX4_moreOf_46 rfl ?_
      refine lv_iload_n hx hb dX4_moreOf_47 rfl (lv_at hl 3 rfl) ?_
      refine lv_if_ne (tgt := 56) hx hb dX4_moreOf_48 (by decide) (fun c5 => ?_) (fun c5 => ?_)
      · refine lv_lconst (v := 0) hx hb dX4_moreOf_56 (by decide) ?_
        refine lv_ladd hx hb dX4_moreOf_57 ?_
        refine lv_aload_n hx hb dX4_moreOf_58 rfl (lv_at hl 1 rfl) ?_
        refine b_get (q := 24) (k := 1) hb0 X hK B rfl in_X4 (by omega) mg_24 (by decide) lk_X4_11 rfl rfl dX4_moreOf_59 ?_
        refine lv_iload_n hx hb dX4_moreOf_62 rfl (lv_at hl 2 rfl) ?_
        refine b_aald (q := 25) (t0 := 2) (v := ad (28 + a1.toNatClampNeg)) rfl X hK B (by omega) mg_25 rfl rfl (no_in s2) rfl dX4_moreOf_63 ?_
        have g6 : a1.toNatClampNeg < 4 := (no_lt s2)
        refine lv_iconst (v := 1) hx hb dX4_moreOf_64 (by decide) ?_
        refine h_ld1 X hK B (pl_cr hN g6) rfl (mg_cr g6) dX4_moreOf_65 ?_
        refine lv_i2l (v := (cr a1.toNatClampNeg).2.1.toInt64) hx hb dX4_moreOf_66 rfl ?_
        refine lv_iload_n hx hb dX4_moreOf_67 rfl (lv_at hl 3 rfl) ?_
        refine lv_iconst (v := 1) hx hb dX4_moreOf_68 (by decide) ?_
        refine lv_icmp_ne (tgt := 77) hx hb dX4_moreOf_69 (by decide) (fun c7 => ?_) (fun c7 => ?_)
        · refine lv_lconst (v := 0) hx hb dX4_moreOf_77 (by decide) ?_
          refine lv_ladd hx hb dX4_moreOf_78 ?_
          refine lv_aload_n hx hb dX4_moreOf_79 rfl (lv_at hl 1 rfl) ?_
          refine b_get (q := 24) (k := 1) hb0 X hK B rfl in_X4 (by omega) mg_24 (by decide) lk_X4_11 rfl rfl dX4_moreOf_80 ?_
          refine lv_iload_n hx hb dX4_moreOf_83 rfl (lv_at hl 2 rfl) ?_
          refine b_aald (q := 25) (t0 := 2) (v := ad (28 + a1.toNatClampNeg)) rfl X hK B (by omega) mg_25 rfl rfl (no_in s2) rfl dX4_moreOf_84 ?_
          have g8 : a1.toNatClampNeg < 4 := (no_lt s2)
          refine lv_iconst (v := 2) hx hb dX4_moreOf_85 (by decide) ?_
          refine h_ld2 X hK B (pl_cr hN g8) rfl (mg_cr g8) dX4_moreOf_86 ?_
          refine lv_i2l (v := (cr a1.toNatClampNeg).2.2.toInt64) hx hb dX4_moreOf_87 rfl ?_
          refine lv_iload_n hx hb dX4_moreOf_88 rfl (lv_at hl 3 rfl) ?_
          refine lv_iconst (v := 2) hx hb dX4_moreOf_89 (by decide) ?_
          refine lv_icmp_ne (tgt := 98) hx hb dX4_moreOf_90 (by decide) (fun c9 => ?_) (fun c9 => ?_)
          · refine lv_lconst (v := 0) hx hb dX4_moreOf_98 (by decide) ?_
            refine lv_ladd hx hb dX4_moreOf_99 ?_
            refine k_r (k := 1) (n := 3) hA B (u_S (rest := [.int a1, .ref b0]) X (c_X4_span l g N ad (mg g ad y cr dr 0 kn rf pl pz mc) (((cr a1.toNatClampNeg).1.toInt64) + 0) (((cr a1.toNatClampNeg).2.1.toInt64) + 0) (((cr a1.toNatClampNeg).2.2.toInt64) + 0) H.size) mw_X4_span md_X4_span rfl lk_X4_47 ⟨Nat.le_of_ble_eq_true rfl, Nat.le_of_ble_eq_true rfl⟩ hA hK hT B hl.1 rfl (Nat.le_of_ble_eq_true rfl) dX4_moreOf_100 ⟨Nat.le_of_ble_eq_true rfl, Nat.le_of_ble_eq_true rfl⟩) (Nat.le_of_ble_eq_true rfl) (Nat.le_of_ble_eq_true rfl) (fun r10 ad10 f' H locs hw B => ?_)
            generalize o11 : (v_X4_span (((cr a1.toNatClampNeg).1.toInt64) + 0) (((cr a1.toNatClampNeg).2.1.toInt64) + 0) (((cr a1.toNatClampNeg).2.2.toInt64) + 0)) = v9 at hw B
            cases v9 with
            | none =>
              obtain ⟨rfl, rfl, rfl⟩ := pw_n hw
              refine k_i (k := 1) (n := 3) hA B (b_V (q := 24) (rest := []) hb0 X (c_X4_getN l g N ad y cr dr 0 kn rf pl pz mc (by omega) b0 hb0 a1 H.size) mw_X4_get md_X4_get rfl lk_X4_103 ⟨Nat.le_of_ble_eq_true rfl, Nat.le_of_ble_eq_true rfl⟩ hA hK hT B (by omega) mg_24 rfl rfl hl.1 rfl (Nat.le_of_ble_eq_true rfl) dX4_moreOf_103 ⟨Nat.le_of_ble_eq_true rfl, Nat.le_of_ble_eq_true rfl⟩) (Nat.le_of_ble_eq_true rfl) (Nat.le_of_ble_eq_true rfl) (fun r12 ad12 f' H locs hw B => ?_)
              obtain ⟨rfl, rfl, rfl⟩ := hw
              have ev := (show v_X4_moreOf cr rf a1 a2 a3 a4 a5 = ((v_X4_getN rf).1, cr, 0, (v_X4_getN rf).2) from by unfold v_X4_moreOf; rw [if_pos s2, if_pos c3, if_neg c5, if_neg c7, if_neg c9, om_none o11])
              exact rt_i X hr (ad, mg g ad y cr dr 0 kn (v_X4_getN rf).2 pl pz mc) B (PO_of B) ⟨(fun _ _ _ => rfl), by rw [ev], by rw [ev]⟩ rfl (Nat.le_of_ble_eq_true rfl) (Nat.le_of_ble_eq_true rfl) dX4_moreOf_106
            | some t11 =>
              obtain ⟨z11, rfl, rfl, rfl⟩ := pw_s hw
              have B : WB g (aw N ad sz) s.heap (N + 1) (va_up ad N z11) (mg g (va_up ad N z11) (va_up y N (c_row g t11)) cr dr 0 kn rf pl pz mc) H locs := WM_push (by omega) B
              refine k_i (k := 2) (n := 6) hA B (b_V (q := 24) (rest := []) ((up_lt (by omega)).trans hb0) X (c_X4_get l g (N + 1) (va_up ad N z11) (va_up y N (c_row g t11)) cr dr 0 kn rf pl pz mc (by omega) b0 ((up_lt (by omega)).trans hb0) a1 N z11 t11 (Nat.lt_succ_self _) up_eq ((mg_hi (by omega)).trans up_eq) s2 H.size) mw_X4_get md_X4_get rfl lk_X4_103 ⟨Nat.le_of_ble_eq_true rfl, Nat.le_of_ble_eq_true rfl⟩ hA hK hT B (by omega) mg_24 rfl rfl hl.1 rfl (Nat.le_of_ble_eq_true rfl) dX4_moreOf_103 ⟨Nat.le_of_ble_eq_true rfl, Nat.le_of_ble_eq_true rfl⟩) (Nat.le_of_ble_eq_true rfl) (Nat.le_of_ble_eq_true rfl) (fun r13 ad13 f' H locs hw B => ?_)
              dsimp only at hw
              obtain ⟨mv14, rfl, rfl⟩ := hw
              have B : WB g (aw N ad sz) s.heap N ad13 (mg g ad13 y (v_X4_get cr a1 t11).2 dr 0 kn rf pl pz mc) H locs := WM_drop B (by omega) (by omega) (fun _ _ => rfl) (fun _ hk => (up_lt hk))
              have kk15 : ∀ k, k < N → k < 28 ∨ 36 ≤ k → ad13 k = ad k := fun k hk hkq => (mv14 k (by omega) hkq).trans (((fun _ hk => (up_lt hk)) k hk).trans rfl)
              have nb16 : ad13 24 = b0 := (mv14 24 (by omega) (Or.inl (by decide))).trans ((up_lt (by omega)).trans hb0)
              have ev := (show v_X4_moreOf cr rf a1 a2 a3 a4 a5 = ((v_X4_get cr a1 t11).1, (v_X4_get cr a1 t11).2, 0, rf) from by unfold v_X4_moreOf; rw [if_pos s2, if_pos c3, if_neg c5, if_neg c7, if_neg c9, om_some o11])
              exact rt_i X hr (ad13, mg g ad13 y (v_X4_get cr a1 t11).2 dr 0 kn rf pl pz mc) B (PO_of B) ⟨kk15, by rw [ev], by rw [ev]⟩ rfl (Nat.le_of_ble_eq_true rfl) (Nat.le_of_ble_eq_true rfl) dX4_moreOf_106
          · refine lv_lload hx hb dX4_moreOf_93 (lv_at hl 0 rfl) ?_
            refine lv_goto (tgt := 99) hx hb dX4_moreOf_95 (by decide) ?_
            refine lv_ladd hx hb dX4_moreOf_99 ?_
            refine k_r (k := 1) (n := 3) hA B (u_S (rest := [.int a1, .ref b0]) X (c_X4_span l g N ad (mg g ad y cr dr 0 kn rf pl pz mc) (((cr a1.toNatClampNeg).1.toInt64) + 0) (((cr a1.toNatClampNeg).2.1.toInt64) + 0) (((cr a1.toNatClampNeg).2.2.toInt64) + (a5.toInt64 * a3.toInt64)) H.size) mw_X4_span md_X4_span rfl lk_X4_47 ⟨Nat.le_of_ble_eq_true rfl, Nat.le_of_ble_eq_true rfl⟩ hA hK hT B hl.1 rfl (Nat.le_of_ble_eq_true rfl) dX4_moreOf_100 ⟨Nat.le_of_ble_eq_true rfl, Nat.le_of_ble_eq_true rfl⟩) (Nat.le_of_ble_eq_true rfl) (Nat.le_of_ble_eq_true rfl) (fun r17 ad17 f' H locs hw B => ?_)
            generalize o18 : (v_X4_span (((cr a1.toNatClampNeg).1.toInt64) + 0) (((cr a1.toNatClampNeg).2.1.toInt64) + 0) (((cr a1.toNatClampNeg).2.2.toInt64) + (a5.toInt64 * a3.toInt64))) = v9 at hw B
            cases v9 with
            | none =>
              obtain ⟨rfl, rfl, rfl⟩ := pw_n hw
              refine k_i (k := 1) (n := 3) hA B (b_V (q := 24) (rest := []) hb0 X (c_X4_getN l g N ad y cr dr 0 kn rf pl pz mc (by omega) b0 hb0 a1 H.size) mw_X4_get md_X4_get rfl lk_X4_103 ⟨Nat.le_of_ble_eq_true rfl, Nat.le_of_ble_eq_true rfl⟩ hA hK hT B (by omega) mg_24 rfl rfl hl.1 rfl (Nat.le_of_ble_eq_true rfl) dX4_moreOf_103 ⟨Nat.le_of_ble_eq_true rfl, Nat.le_of_ble_eq_true rfl⟩) (Nat.le_of_ble_eq_true rfl) (Nat.le_of_ble_eq_true rfl) (fun r19 ad19 f' H locs hw B => ?_)
              obtain ⟨rfl, rfl, rfl⟩ := hw
              have ev := (show v_X4_moreOf cr rf a1 a2 a3 a4 a5 = ((v_X4_getN rf).1, cr, 0, (v_X4_getN rf).2) from by unfold v_X4_moreOf; rw [if_pos s2, if_pos c3, if_neg c5, if_neg c7, if_pos c9, om_none o18])
              exact rt_i X hr (ad, mg g ad y cr dr 0 kn (v_X4_getN rf).2 pl pz mc) B (PO_of B) ⟨(fun _ _ _ => rfl), by rw [ev], by rw [ev]⟩ rfl (Nat.le_of_ble_eq_true rfl) (Nat.le_of_ble_eq_true rfl) dX4_moreOf_106
            | some t18 =>
              obtain ⟨z18, rfl, rfl, rfl⟩ := pw_s hw
              have B : WB g (aw N ad sz) s.heap (N + 1) (va_up ad N z18) (mg g (va_up ad N z18) (va_up y N (c_row g t18)) cr dr 0 kn rf pl pz mc) H locs := WM_push (by omega) B
              refine k_i (k := 2) (n := 6) hA B (b_V (q := 24) (rest := []) ((up_lt (by omega)).trans hb0) X (c_X4_get l g (N + 1) (va_up ad N z18) (va_up y N (c_row g t18)) cr dr 0 kn rf pl pz mc (by omega) b0 ((up_lt (by omega)).trans hb0) a1 N z18 t18 (Nat.lt_succ_self _) up_eq ((mg_hi (by omega)).trans up_eq) s2 H.size) mw_X4_get md_X4_get rfl lk_X4_103 ⟨Nat.le_of_ble_eq_true rfl, Nat.le_of_ble_eq_true rfl⟩ hA hK hT B (by omega) mg_24 rfl rfl hl.1 rfl (Nat.le_of_ble_eq_true rfl) dX4_moreOf_103 ⟨Nat.le_of_ble_eq_true rfl, Nat.le_of_ble_eq_true rfl⟩) (Nat.le_of_ble_eq_true rfl) (Nat.le_of_ble_eq_true rfl) (fun r20 ad20 f' H locs hw B => ?_)
              dsimp only at hw
              obtain ⟨mv21, rfl, rfl⟩ := hw
              have B : WB g (aw N ad sz) s.heap N ad20 (mg g ad20 y (v_X4_get cr a1 t18).2 dr 0 kn rf pl pz mc) H locs := WM_drop B (by omega) (by omega) (fun _ _ => rfl) (fun _ hk => (up_lt hk))
              have kk22 : ∀ k, k < N → k < 28 ∨ 36 ≤ k → ad20 k = ad k := fun k hk hkq => (mv21 k (by omega) hkq).trans (((fun _ hk => (up_lt hk)) k hk).trans rfl)
              have nb23 : ad20 24 = b0 := (mv21 24 (by omega) (Or.inl (by decide))).trans ((up_lt (by omega)).trans hb0)
              have ev := (show v_X4_moreOf cr rf a1 a2 a3 a4 a5 = ((v_X4_get cr a1 t18).1, (v_X4_get cr a1 t18).2, 0, rf) from by unfold v_X4_moreOf; rw [if_pos s2, if_pos c3, if_neg c5, if_neg c7, if_pos c9, om_some o18])
              exact rt_i X hr (ad20, mg g ad20 y (v_X4_get cr a1 t18).2 dr 0 kn rf pl pz mc) B (PO_of B) ⟨kk22, by rw [ev], by rw [ev]⟩ rfl (Nat.le_of_ble_eq_true rfl) (Nat.le_of_ble_eq_true rfl) dX4_moreOf_106
        · refine lv_lload hx hb dX4_moreOf_72 (lv_at hl 0 rfl) ?_
          refine lv_goto (tgt := 78) hx hb dX4_moreOf_74 (by decide) ?_
          refine lv_ladd hx hb dX4_moreOf_78 ?_
          refine lv_aload_n hx hb dX4_moreOf_79 rfl (lv_at hl 1 rfl) ?_
          refine b_get (q := 24) (k := 1) hb0 X hK B rfl in_X4 (by omega) mg_24 (by decide) lk_X4_11 rfl rfl dX4_moreOf_80 ?_
          refine lv_iload_n hx hb dX4_moreOf_83 rfl (lv_at hl 2 rfl) ?_
          refine b_aald (q := 25) (t0 := 2) (v := ad (28 + a1.toNatClampNeg)) rfl X hK B (by omega) mg_25 rfl rfl (no_in s2) rfl dX4_moreOf_84 ?_
          have g24 : a1.toNatClampNeg < 4 := (no_lt s2)
          refine lv_iconst (v := 2) hx hb dX4_moreOf_85 (by decide) ?_
          refine h_ld2 X hK B (pl_cr hN g24) rfl (mg_cr g24) dX4_moreOf_86 ?_
          refine lv_i2l (v := (cr a1.toNatClampNeg).2.2.toInt64) hx hb dX4_moreOf_87 rfl ?_
          refine lv_iload_n hx hb dX4_moreOf_88 rfl (lv_at hl 3 rfl) ?_
          refine lv_iconst (v := 2) hx hb dX4_moreOf_89 (by decide) ?_
          refine lv_icmp_ne (tgt := 98) hx hb dX4_moreOf_90 (by decide) (fun c25 => ?_) (fun c25 => ?_)
          · refine lv_lconst (v := 0) hx hb dX4_moreOf_98 (by decide) ?_
            refine lv_ladd hx hb dX4_moreOf_99 ?_
            refine k_r (k := 1) (n := 3) hA B (u_S (rest := [.int a1, .ref b0]) X (c_X4_span l g N ad (mg g ad y cr dr 0 kn rf pl pz mc) (((cr a1.toNatClampNeg).1.toInt64) + 0) (((cr a1.toNatClampNeg).2.1.toInt64) + (a5.toInt64 * a3.toInt64)) (((cr a1.toNatClampNeg).2.2.toInt64) + 0) H.size) mw_X4_span md_X4_span rfl lk_X4_47 ⟨Nat.le_of_ble_eq_true rfl, Nat.le_of_ble_eq_true rfl⟩ hA hK hT B hl.1 rfl (Nat.le_of_ble_eq_true rfl) dX4_moreOf_100 ⟨Nat.le_of_ble_eq_true rfl, Nat.le_of_ble_eq_true rfl⟩) (Nat.le_of_ble_eq_true rfl) (Nat.le_of_ble_eq_true rfl) (fun r26 ad26 f' H locs hw B => ?_)
            generalize o27 : (v_X4_span (((cr a1.toNatClampNeg).1.toInt64) + 0) (((cr a1.toNatClampNeg).2.1.toInt64) + (a5.toInt64 * a3.toInt64)) (((cr a1.toNatClampNeg).2.2.toInt64) + 0)) = v9 at hw B
            cases v9 with
            | none =>
              obtain ⟨rfl, rfl, rfl⟩ := pw_n hw
              refine k_i (k := 1) (n := 3) hA B (b_V (q := 24) (rest := []) hb0 X (c_X4_getN l g N ad y cr dr 0 kn rf pl pz mc (by omega) b0 hb0 a1 H.size) mw_X4_get md_X4_get rfl lk_X4_103 ⟨Nat.le_of_ble_eq_true rfl, Nat.le_of_ble_eq_true rfl⟩ hA hK hT B (by omega) mg_24 rfl rfl hl.1 rfl (Nat.le_of_ble_eq_true rfl) dX4_moreOf_103 ⟨Nat.le_of_ble_eq_true rfl, Nat.le_of_ble_eq_true rfl⟩) (Nat.le_of_ble_eq_true rfl) (Nat.le_of_ble_eq_true rfl) (fun r28 ad28 f' H locs hw B => ?_)
              obtain ⟨rfl, rfl, rfl⟩ := hw
              have ev := (show v_X4_moreOf cr rf a1 a2 a3 a4 a5 = ((v_X4_getN rf).1, cr, 0, (v_X4_getN rf).2) from by unfold v_X4_moreOf; rw [if_pos s2, if_pos c3, if_neg c5, if_pos c7, if_neg c25, om_none o27])
              exact rt_i X hr (ad, mg g ad y cr dr 0 kn (v_X4_getN rf).2 pl pz mc) B (PO_of B) ⟨(fun _ _ _ => rfl), by rw [ev], by rw [ev]⟩ rfl (Nat.le_of_ble_eq_true rfl) (Nat.le_of_ble_eq_true rfl) dX4_moreOf_106
            | some t27 =>
              obtain ⟨z27, rfl, rfl, rfl⟩ := pw_s hw
              have B : WB g (aw N ad sz) s.heap (N + 1) (va_up ad N z27) (mg g (va_up ad N z27) (va_up y N (c_row g t27)) cr dr 0 kn rf pl pz mc) H locs := WM_push (by omega) B
              refine k_i (k := 2) (n := 6) hA B (b_V (q := 24) (rest := []) ((up_lt (by omega)).trans hb0) X (c_X4_get l g (N + 1) (va_up ad N z27) (va_up y N (c_row g t27)) cr dr 0 kn rf pl pz mc (by omega) b0 ((up_lt (by omega)).trans hb0) a1 N z27 t27 (Nat.lt_succ_self _) up_eq ((mg_hi (by omega)).trans up_eq) s2 H.size) mw_X4_get md_X4_get rfl lk_X4_103 ⟨Nat.le_of_ble_eq_true rfl, Nat.le_of_ble_eq_true rfl⟩ hA hK hT B (by omega) mg_24 rfl rfl hl.1 rfl (Nat.le_of_ble_eq_true rfl) dX4_moreOf_103 ⟨Nat.le_of_ble_eq_true rfl, Nat.le_of_ble_eq_true rfl⟩) (Nat.le_of_ble_eq_true rfl) (Nat.le_of_ble_eq_true rfl) (fun r29 ad29 f' H locs hw B => ?_)
              dsimp only at hw
              obtain ⟨mv30, rfl, rfl⟩ := hw
              have B : WB g (aw N ad sz) s.heap N ad29 (mg g ad29 y (v_X4_get cr a1 t27).2 dr 0 kn rf pl pz mc) H locs := WM_drop B (by omega) (by omega) (fun _ _ => rfl) (fun _ hk => (up_lt hk))
              have kk31 : ∀ k, k < N → k < 28 ∨ 36 ≤ k → ad29 k = ad k := fun k hk hkq => (mv30 k (by omega) hkq).trans (((fun _ hk => (up_lt hk)) k hk).trans rfl)
              have nb32 : ad29 24 = b0 := (mv30 24 (by omega) (Or.inl (by decide))).trans ((up_lt (by omega)).trans hb0)
              have ev := (show v_X4_moreOf cr rf a1 a2 a3 a4 a5 = ((v_X4_get cr a1 t27).1, (v_X4_get cr a1 t27).2, 0, rf) from by unfold v_X4_moreOf; rw [if_pos s2, if_pos c3, if_neg c5, if_pos c7, if_neg c25, om_some o27])
              exact rt_i X hr (ad29, mg g ad29 y (v_X4_get cr a1 t27).2 dr 0 kn rf pl pz mc) B (PO_of B) ⟨kk31, by rw [ev], by rw [ev]⟩ rfl (Nat.le_of_ble_eq_true rfl) (Nat.le_of_ble_eq_true rfl) dX4_moreOf_106
          · refine lv_lload hx hb dX4_moreOf_93 (lv_at hl 0 rfl) ?_
            refine lv_goto (tgt := 99) hx hb dX4_moreOf_95 (by decide) ?_
            refine lv_ladd hx hb dX4_moreOf_99 ?_
            refine k_r (k := 1) (n := 3) hA B (u_S (rest := [.int a1, .ref b0]) X (c_X4_span l g N ad (mg g ad y cr dr 0 kn rf pl pz mc) (((cr a1.toNatClampNeg).1.toInt64) + 0) (((cr a1.toNatClampNeg).2.1.toInt64) + (a5.toInt64 * a3.toInt64)) (((cr a1.toNatClampNeg).2.2.toInt64) + (a5.toInt64 * a3.toInt64)) H.size) mw_X4_span md_X4_span rfl lk_X4_47 ⟨Nat.le_of_ble_eq_true rfl, Nat.le_of_ble_eq_true rfl⟩ hA hK hT B hl.1 rfl (Nat.le_of_ble_eq_true rfl) dX4_moreOf_100 ⟨Nat.le_of_ble_eq_true rfl, Nat.le_of_ble_eq_true rfl⟩) (Nat.le_of_ble_eq_true rfl) (Nat.le_of_ble_eq_true rfl) (fun r33 ad33 f' H locs hw B => ?_)
            generalize o34 : (v_X4_span (((cr a1.toNatClampNeg).1.toInt64) + 0) (((cr a1.toNatClampNeg).2.1.toInt64) + (a5.toInt64 * a3.toInt64)) (((cr a1.toNatClampNeg).2.2.toInt64) + (a5.toInt64 * a3.toInt64))) = v9 at hw B
            cases v9 with
            | none =>
              obtain ⟨rfl, rfl, rfl⟩ := pw_n hw
              refine k_i (k := 1) (n := 3) hA B (b_V (q := 24) (rest := []) hb0 X (c_X4_getN l g N ad y cr dr 0 kn rf pl pz mc (by omega) b0 hb0 a1 H.size) mw_X4_get md_X4_get rfl lk_X4_103 ⟨Nat.le_of_ble_eq_true rfl, Nat.le_of_ble_eq_true rfl⟩ hA hK hT B (by omega) mg_24 rfl rfl hl.1 rfl (Nat.le_of_ble_eq_true rfl) dX4_moreOf_103 ⟨Nat.le_of_ble_eq_true rfl, Nat.le_of_ble_eq_true rfl⟩) (Nat.le_of_ble_eq_true rfl) (Nat.le_of_ble_eq_true rfl) (fun r35 ad35 f' H locs hw B => ?_)
              obtain ⟨rfl, rfl, rfl⟩ := hw
              have ev := (show v_X4_moreOf cr rf a1 a2 a3 a4 a5 = ((v_X4_getN rf).1, cr, 0, (v_X4_getN rf).2) from by unfold v_X4_moreOf; rw [if_pos s2, if_pos c3, if_neg c5, if_pos c7, if_pos c25, om_none o34])
              exact rt_i X hr (ad, mg g ad y cr dr 0 kn (v_X4_getN rf).2 pl pz mc) B (PO_of B) ⟨(fun _ _ _ => rfl), by rw [ev], by rw [ev]⟩ rfl (Nat.le_of_ble_eq_true rfl) (Nat.le_of_ble_eq_true rfl) dX4_moreOf_106
            | some t34 =>
              obtain ⟨z34, rfl, rfl, rfl⟩ := pw_s hw
              have B : WB g (aw N ad sz) s.heap (N + 1) (va_up ad N z34) (mg g (va_up ad N z34) (va_up y N (c_row g t34)) cr dr 0 kn rf pl pz mc) H locs := WM_push (by omega) B
              refine k_i (k := 2) (n := 6) hA B (b_V (q := 24) (rest := []) ((up_lt (by omega)).trans hb0) X (c_X4_get l g (N + 1) (va_up ad N z34) (va_up y N (c_row g t34)) cr dr 0 kn rf pl pz mc (by omega) b0 ((up_lt (by omega)).trans hb0) a1 N z34 t34 (Nat.lt_succ_self _) up_eq ((mg_hi (by omega)).trans up_eq) s2 H.size) mw_X4_get md_X4_get rfl lk_X4_103 ⟨Nat.le_of_ble_eq_true rfl, Nat.le_of_ble_eq_true rfl⟩ hA hK hT B (by omega) mg_24 rfl rfl hl.1 rfl (Nat.le_of_ble_eq_true rfl) dX4_moreOf_103 ⟨Nat.le_of_ble_eq_true rfl, Nat.le_of_ble_eq_true rfl⟩) (Nat.le_of_ble_eq_true rfl) (Nat.le_of_ble_eq_true rfl) (fun r36 ad36 f' H locs hw B => ?_)
              dsimp only at hw
              obtain ⟨mv37, rfl, rfl⟩ := hw
              have B : WB g (aw N ad sz) s.heap N ad36 (mg g ad36 y (v_X4_get cr a1 t34).2 dr 0 kn rf pl pz mc) H locs := WM_drop B (by omega) (by omega) (fun _ _ => rfl) (fun _ hk => (up_lt hk))
              have kk38 : ∀ k, k < N → k < 28 ∨ 36 ≤ k → ad36 k = ad k := fun k hk hkq => (mv37 k (by omega) hkq).trans (((fun _ hk => (up_lt hk)) k hk).trans rfl)
              have nb39 : ad36 24 = b0 := (mv37 24 (by omega) (Or.inl (by decide))).trans ((up_lt (by omega)).trans hb0)
              have ev := (show v_X4_moreOf cr rf a1 a2 a3 a4 a5 = ((v_X4_get cr a1 t34).1, (v_X4_get cr a1 t34).2, 0, rf) from by unfold v_X4_moreOf; rw [if_pos s2, if_pos c3, if_neg c5, if_pos c7, if_pos c25, om_some o34])
              exact rt_i X hr (ad36, mg g ad36 y (v_X4_get cr a1 t34).2 dr 0 kn rf pl pz mc) B (PO_of B) ⟨kk38, by rw [ev], by rw [ev]⟩ rfl (Nat.le_of_ble_eq_true rfl) (Nat.le_of_ble_eq_true rfl) dX4_moreOf_106
      · refine lv_lload hx hb dX4_moreOf_51 (lv_at hl 0 rfl) ?_
        refine lv_goto (tgt := 57) hx hb dX4_moreOf_53 (by decide) ?_
        refine lv_ladd hx hb dX4_moreOf_57 ?_
        refine lv_aload_n hx hb dX4_moreOf_58 rfl (lv_at hl 1 rfl) ?_
        refine b_get (q := 24) (k := 1) hb0 X hK B rfl in_X4 (by omega) mg_24 (by decide) lk_X4_11 rfl rfl dX4_moreOf_59 ?_
        refine lv_iload_n hx hb dX4_moreOf_62 rfl (lv_at hl 2 rfl) ?_
        refine b_aald (q := 25) (t0 := 2) (v := ad (28 + a1.toNatClampNeg)) rfl X hK B (by omega) mg_25 rfl rfl (no_in s2) rfl dX4_moreOf_63 ?_
        have g40 : a1.toNatClampNeg < 4 := (no_lt s2)
        refine lv_iconst (v := 1) hx hb dX4_moreOf_64 (by decide) ?_
        refine h_ld1 X hK B (pl_cr hN g40) rfl (mg_cr g40) dX4_moreOf_65 ?_
        refine lv_i2l (v := (cr a1.toNatClampNeg).2.1.toInt64) hx hb dX4_moreOf_66 rfl ?_
        refine lv_iload_n hx hb dX4_moreOf_67 rfl (lv_at hl 3 rfl) ?_
        refine lv_iconst (v := 1) hx hb dX4_moreOf_68 (by decide) ?_
        refine lv_icmp_ne (tgt := 77) hx hb dX4_moreOf_69 (by decide) (fun c41 => ?_) (fun c41 => ?_)
        · refine lv_lconst (v := 0) hx hb dX4_moreOf_77 (by decide) ?_
          refine lv_ladd hx hb dX4_moreOf_78 ?_
          refine lv_aload_n hx hb dX4_moreOf_79 rfl (lv_at hl 1 rfl) ?_
          refine b_get (q := 24) (k := 1) hb0 X hK B rfl in_X4 (by omega) mg_24 (by decide) lk_X4_11 rfl rfl dX4_moreOf_80 ?_
          refine lv_iload_n hx hb dX4_moreOf_83 rfl (lv_at hl 2 rfl) ?_
          refine b_aald (q := 25) (t0 := 2) (v := ad (28 + a1.toNatClampNeg)) rfl X hK B (by omega) mg_25 rfl rfl (no_in s2) rfl dX4_moreOf_84 ?_
          have g42 : a1.toNatClampNeg < 4 := (no_lt s2)
          refine lv_iconst (v := 2) hx hb dX4_moreOf_85 (by decide) ?_
          refine h_ld2 X hK B (pl_cr hN g42) rfl (mg_cr g42) dX4_moreOf_86 ?_
          refine lv_i2l (v := (cr a1.toNatClampNeg).2.2.toInt64) hx hb dX4_moreOf_87 rfl ?_
          refine lv_iload_n hx hb dX4_moreOf_88 rfl (lv_at hl 3 rfl) ?_
          refine lv_iconst (v := 2) hx hb dX4_moreOf_89 (by decide) ?_
          refine lv_icmp_ne (tgt := 98) hx hb dX4_moreOf_90 (by decide) (fun c43 => ?_) (fun c43 => ?_)
          · refine lv_lconst (v := 0) hx hb dX4_moreOf_98 (by decide) ?_
            refine lv_ladd hx hb dX4_moreOf_99 ?_
            refine k_r (k := 1) (n := 3) hA B (u_S (rest := [.int a1, .ref b0]) X (c_X4_span l g N ad (mg g ad y cr dr 0 kn rf pl pz mc) (((cr a1.toNatClampNeg).1.toInt64) + (a5.toInt64 * a3.toInt64)) (((cr a1.toNatClampNeg).2.1.toInt64) + 0) (((cr a1.toNatClampNeg).2.2.toInt64) + 0) H.size) mw_X4_span md_X4_span rfl lk_X4_47 ⟨Nat.le_of_ble_eq_true rfl, Nat.le_of_ble_eq_true rfl⟩ hA hK hT B hl.1 rfl (Nat.le_of_ble_eq_true rfl) dX4_moreOf_100 ⟨Nat.le_of_ble_eq_true rfl, Nat.le_of_ble_eq_true rfl⟩) (Nat.le_of_ble_eq_true rfl) (Nat.le_of_ble_eq_true rfl) (fun r44 ad44 f' H locs hw B => ?_)
            generalize o45 : (v_X4_span (((cr a1.toNatClampNeg).1.toInt64) + (a5.toInt64 * a3.toInt64)) (((cr a1.toNatClampNeg).2.1.toInt64) + 0) (((cr a1.toNatClampNeg).2.2.toInt64) + 0)) = v9 at hw B
            cases v9 with
            | none =>
              obtain ⟨rfl, rfl, rfl⟩ := pw_n hw
              refine k_i (k := 1) (n := 3) hA B (b_V (q := 24) (rest := []) hb0 X (c_X4_getN l g N ad y cr dr 0 kn rf pl pz mc (by omega) b0 hb0 a1 H.size) mw_X4_get md_X4_get rfl lk_X4_103 ⟨Nat.le_of_ble_eq_true rfl, Nat.le_of_ble_eq_true rfl⟩ hA hK hT B (by omega) mg_24 rfl rfl hl.1 rfl (Nat.le_of_ble_eq_true rfl) dX4_moreOf_103 ⟨Nat.le_of_ble_eq_true rfl, Nat.le_of_ble_eq_true rfl⟩) (Nat.le_of_ble_eq_true rfl) (Nat.le_of_ble_eq_true rfl) (fun r46 ad46 f' H locs hw B => ?_)
              obtain ⟨rfl, rfl, rfl⟩ := hw
              have ev := (show v_X4_moreOf cr rf a1 a2 a3 a4 a5 = ((v_X4_getN rf).1, cr, 0, (v_X4_getN rf).2) from by unfold v_X4_moreOf; rw [if_pos s2, if_pos c3, if_pos c5, if_neg c41, if_neg c43, om_none o45])
              exact rt_i X hr (ad, mg g ad y cr dr 0 kn (v_X4_getN rf).2 pl pz mc) B (PO_of B) ⟨(fun _ _ _ => rfl), by rw [ev], by rw [ev]⟩ rfl (Nat.le_of_ble_eq_true rfl) (Nat.le_of_ble_eq_true rfl) dX4_moreOf_106
            | some t45 =>
              obtain ⟨z45, rfl, rfl, rfl⟩ := pw_s hw
              have B : WB g (aw N ad sz) s.heap (N + 1) (va_up ad N z45) (mg g (va_up ad N z45) (va_up y N (c_row g t45)) cr dr 0 kn rf pl pz mc) H locs := WM_push (by omega) B
              refine k_i (k := 2) (n := 6) hA B (b_V (q := 24) (rest := []) ((up_lt (by omega)).trans hb0) X (c_X4_get l g (N + 1) (va_up ad N z45) (va_up y N (c_row g t45)) cr dr 0 kn rf pl pz mc (by omega) b0 ((up_lt (by omega)).trans hb0) a1 N z45 t45 (Nat.lt_succ_self _) up_eq ((mg_hi (by omega)).trans up_eq) s2 H.size) mw_X4_get md_X4_get rfl lk_X4_103 ⟨Nat.le_of_ble_eq_true rfl, Nat.le_of_ble_eq_true rfl⟩ hA hK hT B (by omega) mg_24 rfl rfl hl.1 rfl (Nat.le_of_ble_eq_true rfl) dX4_moreOf_103 ⟨Nat.le_of_ble_eq_true rfl, Nat.le_of_ble_eq_true rfl⟩) (Nat.le_of_ble_eq_true rfl) (Nat.le_of_ble_eq_true rfl) (fun r47 ad47 f' H locs hw B => ?_)
              dsimp only at hw
              obtain ⟨mv48, rfl, rfl⟩ := hw
              have B : WB g (aw N ad sz) s.heap N ad47 (mg g ad47 y (v_X4_get cr a1 t45).2 dr 0 kn rf pl pz mc) H locs := WM_drop B (by omega) (by omega) (fun _ _ => rfl) (fun _ hk => (up_lt hk))
              have kk49 : ∀ k, k < N → k < 28 ∨ 36 ≤ k → ad47 k = ad k := fun k hk hkq => (mv48 k (by omega) hkq).trans (((fun _ hk => (up_lt hk)) k hk).trans rfl)
              have nb50 : ad47 24 = b0 := (mv48 24 (by omega) (Or.inl (by decide))).trans ((up_lt (by omega)).trans hb0)
              have ev := (show v_X4_moreOf cr rf a1 a2 a3 a4 a5 = ((v_X4_get cr a1 t45).1, (v_X4_get cr a1 t45).2, 0, rf) from by unfold v_X4_moreOf; rw [if_pos s2, if_pos c3, if_pos c5, if_neg c41, if_neg c43, om_some o45])
              exact rt_i X hr (ad47, mg g ad47 y (v_X4_get cr a1 t45).2 dr 0 kn rf pl pz mc) B (PO_of B) ⟨kk49, by rw [ev], by rw [ev]⟩ rfl (Nat.le_of_ble_eq_true rfl) (Nat.le_of_ble_eq_true rfl) dX4_moreOf_106
          · refine lv_lload hx hb dX4_moreOf_93 (lv_at hl 0 rfl) ?_
            refine lv_goto (tgt := 99) hx hb dX4_moreOf_95 (by decide) ?_
            refine lv_ladd hx hb dX4_moreOf_99 ?_
            refine k_r (k := 1) (n := 3) hA B (u_S (rest := [.int a1, .ref b0]) X (c_X4_span l g N ad (mg g ad y cr dr 0 kn rf pl pz mc) (((cr a1.toNatClampNeg).1.toInt64) + (a5.toInt64 * a3.toInt64)) (((cr a1.toNatClampNeg).2.1.toInt64) + 0) (((cr a1.toNatClampNeg).2.2.toInt64) + (a5.toInt64 * a3.toInt64)) H.size) mw_X4_span md_X4_span rfl lk_X4_47 ⟨Nat.le_of_ble_eq_true rfl, Nat.le_of_ble_eq_true rfl⟩ hA hK hT B hl.1 rfl (Nat.le_of_ble_eq_true rfl) dX4_moreOf_100 ⟨Nat.le_of_ble_eq_true rfl, Nat.le_of_ble_eq_true rfl⟩) (Nat.le_of_ble_eq_true rfl) (Nat.le_of_ble_eq_true rfl) (fun r51 ad51 f' H locs hw B => ?_)
            generalize o52 : (v_X4_span (((cr a1.toNatClampNeg).1.toInt64) + (a5.toInt64 * a3.toInt64)) (((cr a1.toNatClampNeg).2.1.toInt64) + 0) (((cr a1.toNatClampNeg).2.2.toInt64) + (a5.toInt64 * a3.toInt64))) = v9 at hw B
            cases v9 with
            | none =>
              obtain ⟨rfl, rfl, rfl⟩ := pw_n hw
              refine k_i (k := 1) (n := 3) hA B (b_V (q := 24) (rest := []) hb0 X (c_X4_getN l g N ad y cr dr 0 kn rf pl pz mc (by omega) b0 hb0 a1 H.size) mw_X4_get md_X4_get rfl lk_X4_103 ⟨Nat.le_of_ble_eq_true rfl, Nat.le_of_ble_eq_true rfl⟩ hA hK hT B (by omega) mg_24 rfl rfl hl.1 rfl (Nat.le_of_ble_eq_true rfl) dX4_moreOf_103 ⟨Nat.le_of_ble_eq_true rfl, Nat.le_of_ble_eq_true rfl⟩) (Nat.le_of_ble_eq_true rfl) (Nat.le_of_ble_eq_true rfl) (fun r53 ad53 f' H locs hw B => ?_)
              obtain ⟨rfl, rfl, rfl⟩ := hw
              have ev := (show v_X4_moreOf cr rf a1 a2 a3 a4 a5 = ((v_X4_getN rf).1, cr, 0, (v_X4_getN rf).2) from by unfold v_X4_moreOf; rw [if_pos s2, if_pos c3, if_pos c5, if_neg c41, if_pos c43, om_none o52])
              exact rt_i X hr (ad, mg g ad y cr dr 0 kn (v_X4_getN rf).2 pl pz mc) B (PO_of B) ⟨(fun _ _ _ => rfl), by rw [ev], by rw [ev]⟩ rfl (Nat.le_of_ble_eq_true rfl) (Nat.le_of_ble_eq_true rfl) dX4_moreOf_106
            | some t52 =>
              obtain ⟨z52, rfl, rfl, rfl⟩ := pw_s hw
              have B : WB g (aw N ad sz) s.heap (N + 1) (va_up ad N z52) (mg g (va_up ad N z52) (va_up y N (c_row g t52)) cr dr 0 kn rf pl pz mc) H locs := WM_push (by omega) B
              refine k_i (k := 2) (n := 6) hA B (b_V (q := 24) (rest := []) ((up_lt (by omega)).trans hb0) X (c_X4_get l g (N + 1) (va_up ad N z52) (va_up y N (c_row g t52)) cr dr 0 kn rf pl pz mc (by omega) b0 ((up_lt (by omega)).trans hb0) a1 N z52 t52 (Nat.lt_succ_self _) up_eq ((mg_hi (by omega)).trans up_eq) s2 H.size) mw_X4_get md_X4_get rfl lk_X4_103 ⟨Nat.le_of_ble_eq_true rfl, Nat.le_of_ble_eq_true rfl⟩ hA hK hT B (by omega) mg_24 rfl rfl hl.1 rfl (Nat.le_of_ble_eq_true rfl) dX4_moreOf_103 ⟨Nat.le_of_ble_eq_true rfl, Nat.le_of_ble_eq_true rfl⟩) (Nat.le_of_ble_eq_true rfl) (Nat.le_of_ble_eq_true rfl) (fun r54 ad54 f' H locs hw B => ?_)
              dsimp only at hw
              obtain ⟨mv55, rfl, rfl⟩ := hw
              have B : WB g (aw N ad sz) s.heap N ad54 (mg g ad54 y (v_X4_get cr a1 t52).2 dr 0 kn rf pl pz mc) H locs := WM_drop B (by omega) (by omega) (fun _ _ => rfl) (fun _ hk => (up_lt hk))
              have kk56 : ∀ k, k < N → k < 28 ∨ 36 ≤ k → ad54 k = ad k := fun k hk hkq => (mv55 k (by omega) hkq).trans (((fun _ hk => (up_lt hk)) k hk).trans rfl)
              have nb57 : ad54 24 = b0 := (mv55 24 (by omega) (Or.inl (by decide))).trans ((up_lt (by omega)).trans hb0)
              have ev := (show v_X4_moreOf cr rf a1 a2 a3 a4 a5 = ((v_X4_get cr a1 t52).1, (v_X4_get cr a1 t52).2, 0, rf) from by unfold v_X4_moreOf; rw [if_pos s2, if_pos c3, if_pos c5, if_neg c41, if_pos c43, om_some o52])
              exact rt_i X hr (ad54, mg g ad54 y (v_X4_get cr a1 t52).2 dr 0 kn rf pl pz mc) B (PO_of B) ⟨kk56, by rw [ev], by rw [ev]⟩ rfl (Nat.le_of_ble_eq_true rfl) (Nat.le_of_ble_eq_true rfl) dX4_moreOf_106
        · refine lv_lload hx hb dX4_moreOf_72 (lv_at hl 0 rfl) ?_
          refine lv_goto (tgt := 78) hx hb dX4_moreOf_74 (by decide) ?_
          refine lv_ladd hx hb dX4_moreOf_78 ?_
          refine lv_aload_n hx hb dX4_moreOf_79 rfl (lv_at hl 1 rfl) ?_
          refine b_get (q := 24) (k := 1) hb0 X hK B rfl in_X4 (by omega) mg_24 (by decide) lk_X4_11 rfl rfl dX4_moreOf_80 ?_
          refine lv_iload_n hx hb dX4_moreOf_83 rfl (lv_at hl 2 rfl) ?_
          refine b_aald (q := 25) (t0 := 2) (v := ad (28 + a1.toNatClampNeg)) rfl X hK B (by omega) mg_25 rfl rfl (no_in s2) rfl dX4_moreOf_84 ?_
          have g58 : a1.toNatClampNeg < 4 := (no_lt s2)
          refine lv_iconst (v := 2) hx hb dX4_moreOf_85 (by decide) ?_
          refine h_ld2 X hK B (pl_cr hN g58) rfl (mg_cr g58) dX4_moreOf_86 ?_
          refine lv_i2l (v := (cr a1.toNatClampNeg).2.2.toInt64) hx hb dX4_moreOf_87 rfl ?_
          refine lv_iload_n hx hb dX4_moreOf_88 rfl (lv_at hl 3 rfl) ?_
          refine lv_iconst (v := 2) hx hb dX4_moreOf_89 (by decide) ?_
          refine lv_icmp_ne (tgt := 98) hx hb dX4_moreOf_90 (by decide) (fun c59 => ?_) (fun c59 => ?_)
          · refine lv_lconst (v := 0) hx hb dX4_moreOf_98 (by decide) ?_
            refine lv_ladd hx hb dX4_moreOf_99 ?_
            refine k_r (k := 1) (n := 3) hA B (u_S (rest := [.int a1, .ref b0]) X (c_X4_span l g N ad (mg g ad y cr dr 0 kn rf pl pz mc) (((cr a1.toNatClampNeg).1.toInt64) + (a5.toInt64 * a3.toInt64)) (((cr a1.toNatClampNeg).2.1.toInt64) + (a5.toInt64 * a3.toInt64)) (((cr a1.toNatClampNeg).2.2.toInt64) + 0) H.size) mw_X4_span md_X4_span rfl lk_X4_47 ⟨Nat.le_of_ble_eq_true rfl, Nat.le_of_ble_eq_true rfl⟩ hA hK hT B hl.1 rfl (Nat.le_of_ble_eq_true rfl) dX4_moreOf_100 ⟨Nat.le_of_ble_eq_true rfl, Nat.le_of_ble_eq_true rfl⟩) (Nat.le_of_ble_eq_true rfl) (Nat.le_of_ble_eq_true rfl) (fun r60 ad60 f' H locs hw B => ?_)
            generalize o61 : (v_X4_span (((cr a1.toNatClampNeg).1.toInt64) + (a5.toInt64 * a3.toInt64)) (((cr a1.toNatClampNeg).2.1.toInt64) + (a5.toInt64 * a3.toInt64)) (((cr a1.toNatClampNeg).2.2.toInt64) + 0)) = v9 at hw B
            cases v9 with
            | none =>
              obtain ⟨rfl, rfl, rfl⟩ := pw_n hw
              refine k_i (k := 1) (n := 3) hA B (b_V (q := 24) (rest := []) hb0 X (c_X4_getN l g N ad y cr dr 0 kn rf pl pz mc (by omega) b0 hb0 a1 H.size) mw_X4_get md_X4_get rfl lk_X4_103 ⟨Nat.le_of_ble_eq_true rfl, Nat.le_of_ble_eq_true rfl⟩ hA hK hT B (by omega) mg_24 rfl rfl hl.1 rfl (Nat.le_of_ble_eq_true rfl) dX4_moreOf_103 ⟨Nat.le_of_ble_eq_true rfl, Nat.le_of_ble_eq_true rfl⟩) (Nat.le_of_ble_eq_true rfl) (Nat.le_of_ble_eq_true rfl) (fun r62 ad62 f' H locs hw B => ?_)
              obtain ⟨rfl, rfl, rfl⟩ := hw
              have ev := (show v_X4_moreOf cr rf a1 a2 a3 a4 a5 = ((v_X4_getN rf).1, cr, 0, (v_X4_getN rf).2) from by unfold v_X4_moreOf; rw [if_pos s2, if_pos c3, if_pos c5, if_pos c41, if_neg c59, om_none o61])
              exact rt_i X hr (ad, mg g ad y cr dr 0 kn (v_X4_getN rf).2 pl pz mc) B (PO_of B) ⟨(fun _ _ _ => rfl), by rw [ev], by rw [ev]⟩ rfl (Nat.le_of_ble_eq_true rfl) (Nat.le_of_ble_eq_true rfl) dX4_moreOf_106
            | some t61 =>
              obtain ⟨z61, rfl, rfl, rfl⟩ := pw_s hw
              have B : WB g (aw N ad sz) s.heap (N + 1) (va_up ad N z61) (mg g (va_up ad N z61) (va_up y N (c_row g t61)) cr dr 0 kn rf pl pz mc) H locs := WM_push (by omega) B
              refine k_i (k := 2) (n := 6) hA B (b_V (q := 24) (rest := []) ((up_lt (by omega)).trans hb0) X (c_X4_get l g (N + 1) (va_up ad N z61) (va_up y N (c_row g t61)) cr dr 0 kn rf pl pz mc (by omega) b0 ((up_lt (by omega)).trans hb0) a1 N z61 t61 (Nat.lt_succ_self _) up_eq ((mg_hi (by omega)).trans up_eq) s2 H.size) mw_X4_get md_X4_get rfl lk_X4_103 ⟨Nat.le_of_ble_eq_true rfl, Nat.le_of_ble_eq_true rfl⟩ hA hK hT B (by omega) mg_24 rfl rfl hl.1 rfl (Nat.le_of_ble_eq_true rfl) dX4_moreOf_103 ⟨Nat.le_of_ble_eq_true rfl, Nat.le_of_ble_eq_true rfl⟩) (Nat.le_of_ble_eq_true rfl) (Nat.le_of_ble_eq_true rfl) (fun r63 ad63 f' H locs hw B => ?_)
              dsimp only at hw
              obtain ⟨mv64, rfl, rfl⟩ := hw
              have B : WB g (aw N ad sz) s.heap N ad63 (mg g ad63 y (v_X4_get cr a1 t61).2 dr 0 kn rf pl pz mc) H locs := WM_drop B (by omega) (by omega) (fun _ _ => rfl) (fun _ hk => (up_lt hk))
              have kk65 : ∀ k, k < N → k < 28 ∨ 36 ≤ k → ad63 k = ad k := fun k hk hkq => (mv64 k (by omega) hkq).trans (((fun _ hk => (up_lt hk)) k hk).trans rfl)
              have nb66 : ad63 24 = b0 := (mv64 24 (by omega) (Or.inl (by decide))).trans ((up_lt (by omega)).trans hb0)
              have ev := (show v_X4_moreOf cr rf a1 a2 a3 a4 a5 = ((v_X4_get cr a1 t61).1, (v_X4_get cr a1 t61).2, 0, rf) from by unfold v_X4_moreOf; rw [if_pos s2, if_pos c3, if_pos c5, if_pos c41, if_neg c59, om_some o61])
              exact rt_i X hr (ad63, mg g ad63 y (v_X4_get cr a1 t61).2 dr 0 kn rf pl pz mc) B (PO_of B) ⟨kk65, by rw [ev], by rw [ev]⟩ rfl (Nat.le_of_ble_eq_true rfl) (Nat.le_of_ble_eq_true rfl) dX4_moreOf_106
          · refine lv_lload hx hb dX4_moreOf_93 (lv_at hl 0 rfl) ?_
            refine lv_goto (tgt := 99) hx hb dX4_moreOf_95 (by decide) ?_
            refine lv_ladd hx hb dX4_moreOf_99 ?_
            refine k_r (k := 1) (n := 3) hA B (u_S (rest := [.int a1, .ref b0]) X (c_X4_span l g N ad (mg g ad y cr dr 0 kn rf pl pz mc) (((cr a1.toNatClampNeg).1.toInt64) + (a5.toInt64 * a3.toInt64)) (((cr a1.toNatClampNeg).2.1.toInt64) + (a5.toInt64 * a3.toInt64)) (((cr a1.toNatClampNeg).2.2.toInt64) + (a5.toInt64 * a3.toInt64)) H.size) mw_X4_span md_X4_span rfl lk_X4_47 ⟨Nat.le_of_ble_eq_true rfl, Nat.le_of_ble_eq_true rfl⟩ hA hK hT B hl.1 rfl (Nat.le_of_ble_eq_true rfl) dX4_moreOf_100 ⟨Nat.le_of_ble_eq_true rfl, Nat.le_of_ble_eq_true rfl⟩) (Nat.le_of_ble_eq_true rfl) (Nat.le_of_ble_eq_true rfl) (fun r67 ad67 f' H locs hw B => ?_)
            generalize o68 : (v_X4_span (((cr a1.toNatClampNeg).1.toInt64) + (a5.toInt64 * a3.toInt64)) (((cr a1.toNatClampNeg).2.1.toInt64) + (a5.toInt64 * a3.toInt64)) (((cr a1.toNatClampNeg).2.2.toInt64) + (a5.toInt64 * a3.toInt64))) = v9 at hw B
            cases v9 with
            | none =>
              obtain ⟨rfl, rfl, rfl⟩ := pw_n hw
              refine k_i (k := 1) (n := 3) hA B (b_V (q := 24) (rest := []) hb0 X (c_X4_getN l g N ad y cr dr 0 kn rf pl pz mc (by omega) b0 hb0 a1 H.size) mw_X4_get md_X4_get rfl lk_X4_103 ⟨Nat.le_of_ble_eq_true rfl, Nat.le_of_ble_eq_true rfl⟩ hA hK hT B (by omega) mg_24 rfl rfl hl.1 rfl (Nat.le_of_ble_eq_true rfl) dX4_moreOf_103 ⟨Nat.le_of_ble_eq_true rfl, Nat.le_of_ble_eq_true rfl⟩) (Nat.le_of_ble_eq_true rfl) (Nat.le_of_ble_eq_true rfl) (fun r69 ad69 f' H locs hw B => ?_)
              obtain ⟨rfl, rfl, rfl⟩ := hw
              have ev := (show v_X4_moreOf cr rf a1 a2 a3 a4 a5 = ((v_X4_getN rf).1, cr, 0, (v_X4_getN rf).2) from by unfold v_X4_moreOf; rw [if_pos s2, if_pos c3, if_pos c5, if_pos c41, if_pos c59, om_none o68])
              exact rt_i X hr (ad, mg g ad y cr dr 0 kn (v_X4_getN rf).2 pl pz mc) B (PO_of B) ⟨(fun _ _ _ => rfl), by rw [ev], by rw [ev]⟩ rfl (Nat.le_of_ble_eq_true rfl) (Nat.le_of_ble_eq_true rfl) dX4_moreOf_106
            | some t68 =>
              obtain ⟨z68, rfl, rfl, rfl⟩ := pw_s hw
              have B : WB g (aw N ad sz) s.heap (N + 1) (va_up ad N z68) (mg g (va_up ad N z68) (va_up y N (c_row g t68)) cr dr 0 kn rf pl pz mc) H locs := WM_push (by omega) B
              refine k_i (k := 2) (n := 6) hA B (b_V (q := 24) (rest := []) ((up_lt (by omega)).trans hb0) X (c_X4_get l g (N + 1) (va_up ad N z68) (va_up y N (c_row g t68)) cr dr 0 kn rf pl pz mc (by omega) b0 ((up_lt (by omega)).trans hb0) a1 N z68 t68 (Nat.lt_succ_self _) up_eq ((mg_hi (by omega)).trans up_eq) s2 H.size) mw_X4_get md_X4_get rfl lk_X4_103 ⟨Nat.le_of_ble_eq_true rfl, Nat.le_of_ble_eq_true rfl⟩ hA hK hT B (by omega) mg_24 rfl rfl hl.1 rfl (Nat.le_of_ble_eq_true rfl) dX4_moreOf_103 ⟨Nat.le_of_ble_eq_true rfl, Nat.le_of_ble_eq_true rfl⟩) (Nat.le_of_ble_eq_true rfl) (Nat.le_of_ble_eq_true rfl) (fun r70 ad70 f' H locs hw B => ?_)
              dsimp only at hw
              obtain ⟨mv71, rfl, rfl⟩ := hw
              have B : WB g (aw N ad sz) s.heap N ad70 (mg g ad70 y (v_X4_get cr a1 t68).2 dr 0 kn rf pl pz mc) H locs := WM_drop B (by omega) (by omega) (fun _ _ => rfl) (fun _ hk => (up_lt hk))
              have kk72 : ∀ k, k < N → k < 28 ∨ 36 ≤ k → ad70 k = ad k := fun k hk hkq => (mv71 k (by omega) hkq).trans (((fun _ hk => (up_lt hk)) k hk).trans rfl)
              have nb73 : ad70 24 = b0 := (mv71 24 (by omega) (Or.inl (by decide))).trans ((up_lt (by omega)).trans hb0)
              have ev := (show v_X4_moreOf cr rf a1 a2 a3 a4 a5 = ((v_X4_get cr a1 t68).1, (v_X4_get cr a1 t68).2, 0, rf) from by unfold v_X4_moreOf; rw [if_pos s2, if_pos c3, if_pos c5, if_pos c41, if_pos c59, om_some o68])
              exact rt_i X hr (ad70, mg g ad70 y (v_X4_get cr a1 t68).2 dr 0 kn rf pl pz mc) B (PO_of B) ⟨kk72, by rw [ev], by rw [ev]⟩ rfl (Nat.le_of_ble_eq_true rfl) (Nat.le_of_ble_eq_true rfl) dX4_moreOf_106
    · refine lv_ldc2 hx hb hown (hts _ (List.mem_cons_of_mem _ lk_X4_115)) dX4_moreOf_22 ?_
      refine lv_iload_n hx hb dX4_moreOf_25 rfl (lv_at hl 3 rfl) ?_
      refine lv_i2l (v := a3.toInt64) hx hb dX4_moreOf_26 rfl ?_
      refine lv_lmul hx hb dX4_moreOf_27 ?_
      refine lv_goto (tgt := 33) hx hb dX4_moreOf_28 (by decide) ?_
      refine lv_lmul hx hb dX4_moreOf_33 ?_
      refine lv_lstore (lv' := [(6, .long (a5.toInt64 * (4000000000 * a3.toInt64))), (0, .ref b0), (1, .int a1), (2, .int a2), (3, .int a3), (4, .int a4), (5, .int a5)]) hx hb dX4_moreOf_34 hl (by decide) rfl (fun ls hl => ?_)
      refine lv_aload_n hx hb dX4_moreOf_36 rfl (lv_at hl 1 rfl) ?_
      refine lv_iload_n hx hb dX4_moreOf_37 rfl (lv_at hl 2 rfl) ?_
      refine lv_aload_n hx hb dX4_moreOf_38 rfl (lv_at hl 1 rfl) ?_
      refine b_get (q := 24) (k := 1) hb0 X hK B rfl in_X4 (by omega) mg_24 (by decide) lk_X4_11 rfl rfl dX4_moreOf_39 ?_
      refine lv_iload_n hx hb dX4_moreOf_42 rfl (lv_at hl 2 rfl) ?_
      refine b_aald (q := 25) (t0 := 2) (v := ad (28 + a1.toNatClampNeg)) rfl X hK B (by omega) mg_25 rfl rfl (no_in s2) rfl dX4_moreOf_43 ?_
      have g74 : a1.toNatClampNeg < 4 := (no_lt s2)
      refine lv_iconst (v := 0) hx hb dX4_moreOf_44 (by decide) ?_
      refine h_ld0 X hK B (pl_cr hN g74) rfl (mg_cr g74) dX4_moreOf_45 ?_
      refine lv_i2l (v := (cr a1.toNatClampNeg).1.toInt64) hx hb dX4_moreOf_46 rfl ?_
      refine lv_iload_n hx hb dX4_moreOf_47 rfl (lv_at hl 3 rfl) ?_
      refine lv_if_ne (tgt := 56) hx hb dX4_moreOf_48 (by decide) (fun c75 => ?_) (fun c75 => ?_)
      · refine lv_lconst (v := 0) hx hb dX4_moreOf_56 (by decide) ?_
        refine lv_ladd hx hb dX4_moreOf_57 ?_
        refine lv_aload_n hx hb dX4_moreOf_58 rfl (lv_at hl 1 rfl) ?_
        refine b_get (q := 24) (k := 1) hb0 X hK B rfl in_X4 (by omega) mg_24 (by decide) lk_X4_11 rfl rfl dX4_moreOf_59 ?_
        refine lv_iload_n hx hb dX4_moreOf_62 rfl (lv_at hl 2 rfl) ?_
        refine b_aald (q := 25) (t0 := 2) (v := ad (28 + a1.toNatClampNeg)) rfl X hK B (by omega) mg_25 rfl rfl (no_in s2) rfl dX4_moreOf_63 ?_
        have g76 : a1.toNatClampNeg < 4 := (no_lt s2)
        refine lv_iconst (v := 1) hx hb dX4_moreOf_64 (by decide) ?_
        refine h_ld1 X hK B (pl_cr hN g76) rfl (mg_cr g76) dX4_moreOf_65 ?_
        refine lv_i2l (v := (cr a1.toNatClampNeg).2.1.toInt64) hx hb dX4_moreOf_66 rfl ?_
        refine lv_iload_n hx hb dX4_moreOf_67 rfl (lv_at hl 3 rfl) ?_
        refine lv_iconst (v := 1) hx hb dX4_moreOf_68 (by decide) ?_
        refine lv_icmp_ne (tgt := 77) hx hb dX4_moreOf_69 (by decide) (fun c77 => ?_) (fun c77 => ?_)
        · refine lv_lconst (v := 0) hx hb dX4_moreOf_77 (by decide) ?_
          refine lv_ladd hx hb dX4_moreOf_78 ?_
          refine lv_aload_n hx hb dX4_moreOf_79 rfl (lv_at hl 1 rfl) ?_
          refine b_get (q := 24) (k := 1) hb0 X hK B rfl in_X4 (by omega) mg_24 (by decide) lk_X4_11 rfl rfl dX4_moreOf_80 ?_
          refine lv_iload_n hx hb dX4_moreOf_83 rfl (lv_at hl 2 rfl) ?_
          refine b_aald (q := 25) (t0 := 2) (v := ad (28 + a1.toNatClampNeg)) rfl X hK B (by omega) mg_25 rfl rfl (no_in s2) rfl dX4_moreOf_84 ?_
          have g78 : a1.toNatClampNeg < 4 := (no_lt s2)
          refine lv_iconst (v := 2) hx hb dX4_moreOf_85 (by decide) ?_
          refine h_ld2 X hK B (pl_cr hN g78) rfl (mg_cr g78) dX4_moreOf_86 ?_
          refine lv_i2l (v := (cr a1.toNatClampNeg).2.2.toInt64) hx hb dX4_moreOf_87 rfl ?_
          refine lv_iload_n hx hb dX4_moreOf_88 rfl (lv_at hl 3 rfl) ?_
          refine lv_iconst (v := 2) hx hb dX4_moreOf_89 (by decide) ?_
          refine lv_icmp_ne (tgt := 98) hx hb dX4_moreOf_90 (by decide) (fun c79 => ?_) (fun c79 => ?_)
          · refine lv_lconst (v := 0) hx hb dX4_moreOf_98 (by decide) ?_
            refine lv_ladd hx hb dX4_moreOf_99 ?_
            refine k_r (k := 1) (n := 3) hA B (u_S (rest := [.int a1, .ref b0]) X (c_X4_span l g N ad (mg g ad y cr dr 0 kn rf pl pz mc) (((cr a1.toNatClampNeg).1.toInt64) + 0) (((cr a1.toNatClampNeg).2.1.toInt64) + 0) (((cr a1.toNatClampNeg).2.2.toInt64) + 0) H.size) mw_X4_span md_X4_span rfl lk_X4_47 ⟨Nat.le_of_ble_eq_true rfl, Nat.le_of_ble_eq_true rfl⟩ hA hK hT B hl.1 rfl (Nat.le_of_ble_eq_true rfl) dX4_moreOf_100 ⟨Nat.le_of_ble_eq_true rfl, Nat.le_of_ble_eq_true rfl⟩) (Nat.le_of_ble_eq_true rfl) (Nat.le_of_ble_eq_true rfl) (fun r80 ad80 f' H locs hw B => ?_)
            generalize o81 : (v_X4_span (((cr a1.toNatClampNeg).1.toInt64) + 0) (((cr a1.toNatClampNeg).2.1.toInt64) + 0) (((cr a1.toNatClampNeg).2.2.toInt64) + 0)) = v9 at hw B
            cases v9 with
            | none =>
              obtain ⟨rfl, rfl, rfl⟩ := pw_n hw
              refine k_i (k := 1) (n := 3) hA B (b_V (q := 24) (rest := []) hb0 X (c_X4_getN l g N ad y cr dr 0 kn rf pl pz mc (by omega) b0 hb0 a1 H.size) mw_X4_get md_X4_get rfl lk_X4_103 ⟨Nat.le_of_ble_eq_true rfl, Nat.le_of_ble_eq_true rfl⟩ hA hK hT B (by omega) mg_24 rfl rfl hl.1 rfl (Nat.le_of_ble_eq_true rfl) dX4_moreOf_103 ⟨Nat.le_of_ble_eq_true rfl, Nat.le_of_ble_eq_true rfl⟩) (Nat.le_of_ble_eq_true rfl) (Nat.le_of_ble_eq_true rfl) (fun r82 ad82 f' H locs hw B => ?_)
              obtain ⟨rfl, rfl, rfl⟩ := hw
              have ev := (show v_X4_moreOf cr rf a1 a2 a3 a4 a5 = ((v_X4_getN rf).1, cr, 0, (v_X4_getN rf).2) from by unfold v_X4_moreOf; rw [if_pos s2, if_neg c3, if_neg c75, if_neg c77, if_neg c79, om_none o81])
              exact rt_i X hr (ad, mg g ad y cr dr 0 kn (v_X4_getN rf).2 pl pz mc) B (PO_of B) ⟨(fun _ _ _ => rfl), by rw [ev], by rw [ev]⟩ rfl (Nat.le_of_ble_eq_true rfl) (Nat.le_of_ble_eq_true rfl) dX4_moreOf_106
            | some t81 =>
              obtain ⟨z81, rfl, rfl, rfl⟩ := pw_s hw
              have B : WB g (aw N ad sz) s.heap (N + 1) (va_up ad N z81) (mg g (va_up ad N z81) (va_up y N (c_row g t81)) cr dr 0 kn rf pl pz mc) H locs := WM_push (by omega) B
              refine k_i (k := 2) (n := 6) hA B (b_V (q := 24) (rest := []) ((up_lt (by omega)).trans hb0) X (c_X4_get l g (N + 1) (va_up ad N z81) (va_up y N (c_row g t81)) cr dr 0 kn rf pl pz mc (by omega) b0 ((up_lt (by omega)).trans hb0) a1 N z81 t81 (Nat.lt_succ_self _) up_eq ((mg_hi (by omega)).trans up_eq) s2 H.size) mw_X4_get md_X4_get rfl lk_X4_103 ⟨Nat.le_of_ble_eq_true rfl, Nat.le_of_ble_eq_true rfl⟩ hA hK hT B (by omega) mg_24 rfl rfl hl.1 rfl (Nat.le_of_ble_eq_true rfl) dX4_moreOf_103 ⟨Nat.le_of_ble_eq_true rfl, Nat.le_of_ble_eq_true rfl⟩) (Nat.le_of_ble_eq_true rfl) (Nat.le_of_ble_eq_true rfl) (fun r83 ad83 f' H locs hw B => ?_)
              dsimp only at hw
              obtain ⟨mv84, rfl, rfl⟩ := hw
              have B : WB g (aw N ad sz) s.heap N ad83 (mg g ad83 y (v_X4_get cr a1 t81).2 dr 0 kn rf pl pz mc) H locs := WM_drop B (by omega) (by omega) (fun _ _ => rfl) (fun _ hk => (up_lt hk))
              have kk85 : ∀ k, k < N → k < 28 ∨ 36 ≤ k → ad83 k = ad k := fun k hk hkq => (mv84 k (by omega) hkq).trans (((fun _ hk => (up_lt hk)) k hk).trans rfl)
              have nb86 : ad83 24 = b0 := (mv84 24 (by omega) (Or.inl (by decide))).trans ((up_lt (by omega)).trans hb0)
              have ev := (show v_X4_moreOf cr rf a1 a2 a3 a4 a5 = ((v_X4_get cr a1 t81).1, (v_X4_get cr a1 t81).2, 0, rf) from by unfold v_X4_moreOf; rw [if_pos s2, if_neg c3, if_neg c75, if_neg c77, if_neg c79, om_some o81])
              exact rt_i X hr (ad83, mg g ad83 y (v_X4_get cr a1 t81).2 dr 0 kn rf pl pz mc) B (PO_of B) ⟨kk85, by rw [ev], by rw [ev]⟩ rfl (Nat.le_of_ble_eq_true rfl) (Nat.le_of_ble_eq_true rfl) dX4_moreOf_106
          · refine lv_lload hx hb dX4_moreOf_93 (lv_at hl 0 rfl) ?_
            refine lv_goto (tgt := 99) hx hb dX4_moreOf_95 (by decide) ?_
            refine lv_ladd hx hb dX4_moreOf_99 ?_
            refine k_r (k := 1) (n := 3) hA B (u_S (rest := [.int a1, .ref b0]) X (c_X4_span l g N ad (mg g ad y cr dr 0 kn rf pl pz mc) (((cr a1.toNatClampNeg).1.toInt64) + 0) (((cr a1.toNatClampNeg).2.1.toInt64) + 0) (((cr a1.toNatClampNeg).2.2.toInt64) + (a5.toInt64 * (4000000000 * a3.toInt64))) H.size) mw_X4_span md_X4_span rfl lk_X4_47 ⟨Nat.le_of_ble_eq_true rfl, Nat.le_of_ble_eq_true rfl⟩ hA hK hT B hl.1 rfl (Nat.le_of_ble_eq_true rfl) dX4_moreOf_100 ⟨Nat.le_of_ble_eq_true rfl, Nat.le_of_ble_eq_true rfl⟩) (Nat.le_of_ble_eq_true rfl) (Nat.le_of_ble_eq_true rfl) (fun r87 ad87 f' H locs hw B => ?_)
            generalize o88 : (v_X4_span (((cr a1.toNatClampNeg).1.toInt64) + 0) (((cr a1.toNatClampNeg).2.1.toInt64) + 0) (((cr a1.toNatClampNeg).2.2.toInt64) + (a5.toInt64 * (4000000000 * a3.toInt64)))) = v9 at hw B
            cases v9 with
            | none =>
              obtain ⟨rfl, rfl, rfl⟩ := pw_n hw
              refine k_i (k := 1) (n := 3) hA B (b_V (q := 24) (rest := []) hb0 X (c_X4_getN l g N ad y cr dr 0 kn rf pl pz mc (by omega) b0 hb0 a1 H.size) mw_X4_get md_X4_get rfl lk_X4_103 ⟨Nat.le_of_ble_eq_true rfl, Nat.le_of_ble_eq_true rfl⟩ hA hK hT B (by omega) mg_24 rfl rfl hl.1 rfl (Nat.le_of_ble_eq_true rfl) dX4_moreOf_103 ⟨Nat.le_of_ble_eq_true rfl, Nat.le_of_ble_eq_true rfl⟩) (Nat.le_of_ble_eq_true rfl) (Nat.le_of_ble_eq_true rfl) (fun r89 ad89 f' H locs hw B => ?_)
              obtain ⟨rfl, rfl, rfl⟩ := hw
              have ev := (show v_X4_moreOf cr rf a1 a2 a3 a4 a5 = ((v_X4_getN rf).1, cr, 0, (v_X4_getN rf).2) from by unfold v_X4_moreOf; rw [if_pos s2, if_neg c3, if_neg c75, if_neg c77, if_pos c79, om_none o88])
              exact rt_i X hr (ad, mg g ad y cr dr 0 kn (v_X4_getN rf).2 pl pz mc) B (PO_of B) ⟨(fun _ _ _ => rfl), by rw [ev], by rw [ev]⟩ rfl (Nat.le_of_ble_eq_true rfl) (Nat.le_of_ble_eq_true rfl) dX4_moreOf_106
            | some t88 =>
              obtain ⟨z88, rfl, rfl, rfl⟩ := pw_s hw
              have B : WB g (aw N ad sz) s.heap (N + 1) (va_up ad N z88) (mg g (va_up ad N z88) (va_up y N (c_row g t88)) cr dr 0 kn rf pl pz mc) H locs := WM_push (by omega) B
              refine k_i (k := 2) (n := 6) hA B (b_V (q := 24) (rest := []) ((up_lt (by omega)).trans hb0) X (c_X4_get l g (N + 1) (va_up ad N z88) (va_up y N (c_row g t88)) cr dr 0 kn rf pl pz mc (by omega) b0 ((up_lt (by omega)).trans hb0) a1 N z88 t88 (Nat.lt_succ_self _) up_eq ((mg_hi (by omega)).trans up_eq) s2 H.size) mw_X4_get md_X4_get rfl lk_X4_103 ⟨Nat.le_of_ble_eq_true rfl, Nat.le_of_ble_eq_true rfl⟩ hA hK hT B (by omega) mg_24 rfl rfl hl.1 rfl (Nat.le_of_ble_eq_true rfl) dX4_moreOf_103 ⟨Nat.le_of_ble_eq_true rfl, Nat.le_of_ble_eq_true rfl⟩) (Nat.le_of_ble_eq_true rfl) (Nat.le_of_ble_eq_true rfl) (fun r90 ad90 f' H locs hw B => ?_)
              dsimp only at hw
              obtain ⟨mv91, rfl, rfl⟩ := hw
              have B : WB g (aw N ad sz) s.heap N ad90 (mg g ad90 y (v_X4_get cr a1 t88).2 dr 0 kn rf pl pz mc) H locs := WM_drop B (by omega) (by omega) (fun _ _ => rfl) (fun _ hk => (up_lt hk))
              have kk92 : ∀ k, k < N → k < 28 ∨ 36 ≤ k → ad90 k = ad k := fun k hk hkq => (mv91 k (by omega) hkq).trans (((fun _ hk => (up_lt hk)) k hk).trans rfl)
              have nb93 : ad90 24 = b0 := (mv91 24 (by omega) (Or.inl (by decide))).trans ((up_lt (by omega)).trans hb0)
              have ev := (show v_X4_moreOf cr rf a1 a2 a3 a4 a5 = ((v_X4_get cr a1 t88).1, (v_X4_get cr a1 t88).2, 0, rf) from by unfold v_X4_moreOf; rw [if_pos s2, if_neg c3, if_neg c75, if_neg c77, if_pos c79, om_some o88])
              exact rt_i X hr (ad90, mg g ad90 y (v_X4_get cr a1 t88).2 dr 0 kn rf pl pz mc) B (PO_of B) ⟨kk92, by rw [ev], by rw [ev]⟩ rfl (Nat.le_of_ble_eq_true rfl) (Nat.le_of_ble_eq_true rfl) dX4_moreOf_106
        · refine lv_lload hx hb dX4_moreOf_72 (lv_at hl 0 rfl) ?_
          refine lv_goto (tgt := 78) hx hb dX4_moreOf_74 (by decide) ?_
          refine lv_ladd hx hb dX4_moreOf_78 ?_
          refine lv_aload_n hx hb dX4_moreOf_79 rfl (lv_at hl 1 rfl) ?_
          refine b_get (q := 24) (k := 1) hb0 X hK B rfl in_X4 (by omega) mg_24 (by decide) lk_X4_11 rfl rfl dX4_moreOf_80 ?_
          refine lv_iload_n hx hb dX4_moreOf_83 rfl (lv_at hl 2 rfl) ?_
          refine b_aald (q := 25) (t0 := 2) (v := ad (28 + a1.toNatClampNeg)) rfl X hK B (by omega) mg_25 rfl rfl (no_in s2) rfl dX4_moreOf_84 ?_
          have g94 : a1.toNatClampNeg < 4 := (no_lt s2)
          refine lv_iconst (v := 2) hx hb dX4_moreOf_85 (by decide) ?_
          refine h_ld2 X hK B (pl_cr hN g94) rfl (mg_cr g94) dX4_moreOf_86 ?_
          refine lv_i2l (v := (cr a1.toNatClampNeg).2.2.toInt64) hx hb dX4_moreOf_87 rfl ?_
          refine lv_iload_n hx hb dX4_moreOf_88 rfl (lv_at hl 3 rfl) ?_
          refine lv_iconst (v := 2) hx hb dX4_moreOf_89 (by decide) ?_
          refine lv_icmp_ne (tgt := 98) hx hb dX4_moreOf_90 (by decide) (fun c95 => ?_) (fun c95 => ?_)
          · refine lv_lconst (v := 0) hx hb dX4_moreOf_98 (by decide) ?_
            refine lv_ladd hx hb dX4_moreOf_99 ?_
            refine k_r (k := 1) (n := 3) hA B (u_S (rest := [.int a1, .ref b0]) X (c_X4_span l g N ad (mg g ad y cr dr 0 kn rf pl pz mc) (((cr a1.toNatClampNeg).1.toInt64) + 0) (((cr a1.toNatClampNeg).2.1.toInt64) + (a5.toInt64 * (4000000000 * a3.toInt64))) (((cr a1.toNatClampNeg).2.2.toInt64) + 0) H.size) mw_X4_span md_X4_span rfl lk_X4_47 ⟨Nat.le_of_ble_eq_true rfl, Nat.le_of_ble_eq_true rfl⟩ hA hK hT B hl.1 rfl (Nat.le_of_ble_eq_true rfl) dX4_moreOf_100 ⟨Nat.le_of_ble_eq_true rfl, Nat.le_of_ble_eq_true rfl⟩) (Nat.le_of_ble_eq_true rfl) (Nat.le_of_ble_eq_true rfl) (fun r96 ad96 f' H locs hw B => ?_)
            generalize o97 : (v_X4_span (((cr a1.toNatClampNeg).1.toInt64) + 0) (((cr a1.toNatClampNeg).2.1.toInt64) + (a5.toInt64 * (4000000000 * a3.toInt64))) (((cr a1.toNatClampNeg).2.2.toInt64) + 0)) = v9 at hw B
            cases v9 with
            | none =>
              obtain ⟨rfl, rfl, rfl⟩ := pw_n hw
              refine k_i (k := 1) (n := 3) hA B (b_V (q := 24) (rest := []) hb0 X (c_X4_getN l g N ad y cr dr 0 kn rf pl pz mc (by omega) b0 hb0 a1 H.size) mw_X4_get md_X4_get rfl lk_X4_103 ⟨Nat.le_of_ble_eq_true rfl, Nat.le_of_ble_eq_true rfl⟩ hA hK hT B (by omega) mg_24 rfl rfl hl.1 rfl (Nat.le_of_ble_eq_true rfl) dX4_moreOf_103 ⟨Nat.le_of_ble_eq_true rfl, Nat.le_of_ble_eq_true rfl⟩) (Nat.le_of_ble_eq_true rfl) (Nat.le_of_ble_eq_true rfl) (fun r98 ad98 f' H locs hw B => ?_)
              obtain ⟨rfl, rfl, rfl⟩ := hw
              have ev := (show v_X4_moreOf cr rf a1 a2 a3 a4 a5 = ((v_X4_getN rf).1, cr, 0, (v_X4_getN rf).2) from by unfold v_X4_moreOf; rw [if_pos s2, if_neg c3, if_neg c75, if_pos c77, if_neg c95, om_none o97])
              exact rt_i X hr (ad, mg g ad y cr dr 0 kn (v_X4_getN rf).2 pl pz mc) B (PO_of B) ⟨(fun _ _ _ => rfl), by rw [ev], by rw [ev]⟩ rfl (Nat.le_of_ble_eq_true rfl) (Nat.le_of_ble_eq_true rfl) dX4_moreOf_106
            | some t97 =>
              obtain ⟨z97, rfl, rfl, rfl⟩ := pw_s hw
              have B : WB g (aw N ad sz) s.heap (N + 1) (va_up ad N z97) (mg g (va_up ad N z97) (va_up y N (c_row g t97)) cr dr 0 kn rf pl pz mc) H locs := WM_push (by omega) B
              refine k_i (k := 2) (n := 6) hA B (b_V (q := 24) (rest := []) ((up_lt (by omega)).trans hb0) X (c_X4_get l g (N + 1) (va_up ad N z97) (va_up y N (c_row g t97)) cr dr 0 kn rf pl pz mc (by omega) b0 ((up_lt (by omega)).trans hb0) a1 N z97 t97 (Nat.lt_succ_self _) up_eq ((mg_hi (by omega)).trans up_eq) s2 H.size) mw_X4_get md_X4_get rfl lk_X4_103 ⟨Nat.le_of_ble_eq_true rfl, Nat.le_of_ble_eq_true rfl⟩ hA hK hT B (by omega) mg_24 rfl rfl hl.1 rfl (Nat.le_of_ble_eq_true rfl) dX4_moreOf_103 ⟨Nat.le_of_ble_eq_true rfl, Nat.le_of_ble_eq_true rfl⟩) (Nat.le_of_ble_eq_true rfl) (Nat.le_of_ble_eq_true rfl) (fun r99 ad99 f' H locs hw B => ?_)
              dsimp only at hw
              obtain ⟨mv100, rfl, rfl⟩ := hw
              have B : WB g (aw N ad sz) s.heap N ad99 (mg g ad99 y (v_X4_get cr a1 t97).2 dr 0 kn rf pl pz mc) H locs := WM_drop B (by omega) (by omega) (fun _ _ => rfl) (fun _ hk => (up_lt hk))
              have kk101 : ∀ k, k < N → k < 28 ∨ 36 ≤ k → ad99 k = ad k := fun k hk hkq => (mv100 k (by omega) hkq).trans (((fun _ hk => (up_lt hk)) k hk).trans rfl)
              have nb102 : ad99 24 = b0 := (mv100 24 (by omega) (Or.inl (by decide))).trans ((up_lt (by omega)).trans hb0)
              have ev := (show v_X4_moreOf cr rf a1 a2 a3 a4 a5 = ((v_X4_get cr a1 t97).1, (v_X4_get cr a1 t97).2, 0, rf) from by unfold v_X4_moreOf; rw [if_pos s2, if_neg c3, if_neg c75, if_pos c77, if_neg c95, om_some o97])
              exact rt_i X hr (ad99, mg g ad99 y (v_X4_get cr a1 t97).2 dr 0 kn rf pl pz mc) B (PO_of B) ⟨kk101, by rw [ev], by rw [ev]⟩ rfl (Nat.le_of_ble_eq_true rfl) (Nat.le_of_ble_eq_true rfl) dX4_moreOf_106
          · refine lv_lload hx hb dX4_moreOf_93 (lv_at hl 0 rfl) ?_
            refine lv_goto (tgt := 99) hx hb dX4_moreOf_95 (by decide) ?_
            refine lv_ladd hx hb dX4_moreOf_99 ?_
            refine k_r (k := 1) (n := 3) hA B (u_S (rest := [.int a1, .ref b0]) X (c_X4_span l g N ad (mg g ad y cr dr 0 kn rf pl pz mc) (((cr a1.toNatClampNeg).1.toInt64) + 0) (((cr a1.toNatClampNeg).2.1.toInt64) + (a5.toInt64 * (4000000000 * a3.toInt64))) (((cr a1.toNatClampNeg).2.2.toInt64) + (a5.toInt64 * (4000000000 * a3.toInt64))) H.size) mw_X4_span md_X4_span rfl lk_X4_47 ⟨Nat.le_of_ble_eq_true rfl, Nat.le_of_ble_eq_true rfl⟩ hA hK hT B hl.1 rfl (Nat.le_of_ble_eq_true rfl) dX4_moreOf_100 ⟨Nat.le_of_ble_eq_true rfl, Nat.le_of_ble_eq_true rfl⟩) (Nat.le_of_ble_eq_true rfl) (Nat.le_of_ble_eq_true rfl) (fun r103 ad103 f' H locs hw B => ?_)
            generalize o104 : (v_X4_span (((cr a1.toNatClampNeg).1.toInt64) + 0) (((cr a1.toNatClampNeg).2.1.toInt64) + (a5.toInt64 * (4000000000 * a3.toInt64))) (((cr a1.toNatClampNeg).2.2.toInt64) + (a5.toInt64 * (4000000000 * a3.toInt64)))) = v9 at hw B
            cases v9 with
            | none =>
              obtain ⟨rfl, rfl, rfl⟩ := pw_n hw
              refine k_i (k := 1) (n := 3) hA B (b_V (q := 24) (rest := []) hb0 X (c_X4_getN l g N ad y cr dr 0 kn rf pl pz mc (by omega) b0 hb0 a1 H.size) mw_X4_get md_X4_get rfl lk_X4_103 ⟨Nat.le_of_ble_eq_true rfl, Nat.le_of_ble_eq_true rfl⟩ hA hK hT B (by omega) mg_24 rfl rfl hl.1 rfl (Nat.le_of_ble_eq_true rfl) dX4_moreOf_103 ⟨Nat.le_of_ble_eq_true rfl, Nat.le_of_ble_eq_true rfl⟩) (Nat.le_of_ble_eq_true rfl) (Nat.le_of_ble_eq_true rfl) (fun r105 ad105 f' H locs hw B => ?_)
              obtain ⟨rfl, rfl, rfl⟩ := hw
              have ev := (show v_X4_moreOf cr rf a1 a2 a3 a4 a5 = ((v_X4_getN rf).1, cr, 0, (v_X4_getN rf).2) from by unfold v_X4_moreOf; rw [if_pos s2, if_neg c3, if_neg c75, if_pos c77, if_pos c95, om_none o104])
              exact rt_i X hr (ad, mg g ad y cr dr 0 kn (v_X4_getN rf).2 pl pz mc) B (PO_of B) ⟨(fun _ _ _ => rfl), by rw [ev], by rw [ev]⟩ rfl (Nat.le_of_ble_eq_true rfl) (Nat.le_of_ble_eq_true rfl) dX4_moreOf_106
            | some t104 =>
              obtain ⟨z104, rfl, rfl, rfl⟩ := pw_s hw
              have B : WB g (aw N ad sz) s.heap (N + 1) (va_up ad N z104) (mg g (va_up ad N z104) (va_up y N (c_row g t104)) cr dr 0 kn rf pl pz mc) H locs := WM_push (by omega) B
              refine k_i (k := 2) (n := 6) hA B (b_V (q := 24) (rest := []) ((up_lt (by omega)).trans hb0) X (c_X4_get l g (N + 1) (va_up ad N z104) (va_up y N (c_row g t104)) cr dr 0 kn rf pl pz mc (by omega) b0 ((up_lt (by omega)).trans hb0) a1 N z104 t104 (Nat.lt_succ_self _) up_eq ((mg_hi (by omega)).trans up_eq) s2 H.size) mw_X4_get md_X4_get rfl lk_X4_103 ⟨Nat.le_of_ble_eq_true rfl, Nat.le_of_ble_eq_true rfl⟩ hA hK hT B (by omega) mg_24 rfl rfl hl.1 rfl (Nat.le_of_ble_eq_true rfl) dX4_moreOf_103 ⟨Nat.le_of_ble_eq_true rfl, Nat.le_of_ble_eq_true rfl⟩) (Nat.le_of_ble_eq_true rfl) (Nat.le_of_ble_eq_true rfl) (fun r106 ad106 f' H locs hw B => ?_)
              dsimp only at hw
              obtain ⟨mv107, rfl, rfl⟩ := hw
              have B : WB g (aw N ad sz) s.heap N ad106 (mg g ad106 y (v_X4_get cr a1 t104).2 dr 0 kn rf pl pz mc) H locs := WM_drop B (by omega) (by omega) (fun _ _ => rfl) (fun _ hk => (up_lt hk))
              have kk108 : ∀ k, k < N → k < 28 ∨ 36 ≤ k → ad106 k = ad k := fun k hk hkq => (mv107 k (by omega) hkq).trans (((fun _ hk => (up_lt hk)) k hk).trans rfl)
              have nb109 : ad106 24 = b0 := (mv107 24 (by omega) (Or.inl (by decide))).trans ((up_lt (by omega)).trans hb0)
              have ev := (show v_X4_moreOf cr rf a1 a2 a3 a4 a5 = ((v_X4_get cr a1 t104).1, (v_X4_get cr a1 t104).2, 0, rf) from by unfold v_X4_moreOf; rw [if_pos s2, if_neg c3, if_neg c75, if_pos c77, if_pos c95, om_some o104])
              exact rt_i X hr (ad106, mg g ad106 y (v_X4_get cr a1 t104).2 dr 0 kn rf pl pz mc) B (PO_of B) ⟨kk108, by rw [ev], by rw [ev]⟩ rfl (Nat.le_of_ble_eq_true rfl) (Nat.le_of_ble_eq_true rfl) dX4_moreOf_106
      · refine lv_lload hx hb dX4_moreOf_51 (lv_at hl 0 rfl) ?_
        refine lv_goto (tgt := 57) hx hb dX4_moreOf_53 (by decide) ?_
        refine lv_ladd hx hb dX4_moreOf_57 ?_
        refine lv_aload_n hx hb dX4_moreOf_58 rfl (lv_at hl 1 rfl) ?_
        refine b_get (q := 24) (k := 1) hb0 X hK B rfl in_X4 (by omega) mg_24 (by decide) lk_X4_11 rfl rfl dX4_moreOf_59 ?_
        refine lv_iload_n hx hb dX4_moreOf_62 rfl (lv_at hl 2 rfl) ?_
        refine b_aald (q := 25) (t0 := 2) (v := ad (28 + a1.toNatClampNeg)) rfl X hK B (by omega) mg_25 rfl rfl (no_in s2) rfl dX4_moreOf_63 ?_
        have g110 : a1.toNatClampNeg < 4 := (no_lt s2)
        refine lv_iconst (v := 1) hx hb dX4_moreOf_64 (by decide) ?_
        refine h_ld1 X hK B (pl_cr hN g110) rfl (mg_cr g110) dX4_moreOf_65 ?_
        refine lv_i2l (v := (cr a1.toNatClampNeg).2.1.toInt64) hx hb dX4_moreOf_66 rfl ?_
        refine lv_iload_n hx hb dX4_moreOf_67 rfl (lv_at hl 3 rfl) ?_
        refine lv_iconst (v := 1) hx hb dX4_moreOf_68 (by decide) ?_
        refine lv_icmp_ne (tgt := 77) hx hb dX4_moreOf_69 (by decide) (fun c111 => ?_) (fun c111 => ?_)
        · refine lv_lconst (v := 0) hx hb dX4_moreOf_77 (by decide) ?_
          refine lv_ladd hx hb dX4_moreOf_78 ?_
          refine lv_aload_n hx hb dX4_moreOf_79 rfl (lv_at hl 1 rfl) ?_
          refine b_get (q := 24) (k := 1) hb0 X hK B rfl in_X4 (by omega) mg_24 (by decide) lk_X4_11 rfl rfl dX4_moreOf_80 ?_
          refine lv_iload_n hx hb dX4_moreOf_83 rfl (lv_at hl 2 rfl) ?_
          refine b_aald (q := 25) (t0 := 2) (v := ad (28 + a1.toNatClampNeg)) rfl X hK B (by omega) mg_25 rfl rfl (no_in s2) rfl dX4_moreOf_84 ?_
          have g112 : a1.toNatClampNeg < 4 := (no_lt s2)
          refine lv_iconst (v := 2) hx hb dX4_moreOf_85 (by decide) ?_
          refine h_ld2 X hK B (pl_cr hN g112) rfl (mg_cr g112) dX4_moreOf_86 ?_
          refine lv_i2l (v := (cr a1.toNatClampNeg).2.2.toInt64) hx hb dX4_moreOf_87 rfl ?_
          refine lv_iload_n hx hb dX4_moreOf_88 rfl (lv_at hl 3 rfl) ?_
          refine lv_iconst (v := 2) hx hb dX4_moreOf_89 (by decide) ?_
          refine lv_icmp_ne (tgt := 98) hx hb dX4_moreOf_90 (by decide) (fun c113 => ?_) (fun c113 => ?_)
          · refine lv_lconst (v := 0) hx hb dX4_moreOf_98 (by decide) ?_
            refine lv_ladd hx hb dX4_moreOf_99 ?_
            refine k_r (k := 1) (n := 3) hA B (u_S (rest := [.int a1, .ref b0]) X (c_X4_span l g N ad (mg g ad y cr dr 0 kn rf pl pz mc) (((cr a1.toNatClampNeg).1.toInt64) + (a5.toInt64 * (4000000000 * a3.toInt64))) (((cr a1.toNatClampNeg).2.1.toInt64) + 0) (((cr a1.toNatClampNeg).2.2.toInt64) + 0) H.size) mw_X4_span md_X4_span rfl lk_X4_47 ⟨Nat.le_of_ble_eq_true rfl, Nat.le_of_ble_eq_true rfl⟩ hA hK hT B hl.1 rfl (Nat.le_of_ble_eq_true rfl) dX4_moreOf_100 ⟨Nat.le_of_ble_eq_true rfl, Nat.le_of_ble_eq_true rfl⟩) (Nat.le_of_ble_eq_true rfl) (Nat.le_of_ble_eq_true rfl) (fun r114 ad114 f' H locs hw B => ?_)
            generalize o115 : (v_X4_span (((cr a1.toNatClampNeg).1.toInt64) + (a5.toInt64 * (4000000000 * a3.toInt64))) (((cr a1.toNatClampNeg).2.1.toInt64) + 0) (((cr a1.toNatClampNeg).2.2.toInt64) + 0)) = v9 at hw B
            cases v9 with
            | none =>
              obtain ⟨rfl, rfl, rfl⟩ := pw_n hw
              refine k_i (k := 1) (n := 3) hA B (b_V (q := 24) (rest := []) hb0 X (c_X4_getN l g N ad y cr dr 0 kn rf pl pz mc (by omega) b0 hb0 a1 H.size) mw_X4_get md_X4_get rfl lk_X4_103 ⟨Nat.le_of_ble_eq_true rfl, Nat.le_of_ble_eq_true rfl⟩ hA hK hT B (by omega) mg_24 rfl rfl hl.1 rfl (Nat.le_of_ble_eq_true rfl) dX4_moreOf_103 ⟨Nat.le_of_ble_eq_true rfl, Nat.le_of_ble_eq_true rfl⟩) (Nat.le_of_ble_eq_true rfl) (Nat.le_of_ble_eq_true rfl) (fun r116 ad116 f' H locs hw B => ?_)
              obtain ⟨rfl, rfl, rfl⟩ := hw
              have ev := (show v_X4_moreOf cr rf a1 a2 a3 a4 a5 = ((v_X4_getN rf).1, cr, 0, (v_X4_getN rf).2) from by unfold v_X4_moreOf; rw [if_pos s2, if_neg c3, if_pos c75, if_neg c111, if_neg c113, om_none o115])
              exact rt_i X hr (ad, mg g ad y cr dr 0 kn (v_X4_getN rf).2 pl pz mc) B (PO_of B) ⟨(fun _ _ _ => rfl), by rw [ev], by rw [ev]⟩ rfl (Nat.le_of_ble_eq_true rfl) (Nat.le_of_ble_eq_true rfl) dX4_moreOf_106
            | some t115 =>
              obtain ⟨z115, rfl, rfl, rfl⟩ := pw_s hw
              have B : WB g (aw N ad sz) s.heap (N + 1) (va_up ad N z115) (mg g (va_up ad N z115) (va_up y N (c_row g t115)) cr dr 0 kn rf pl pz mc) H locs := WM_push (by omega) B
              refine k_i (k := 2) (n := 6) hA B (b_V (q := 24) (rest := []) ((up_lt (by omega)).trans hb0) X (c_X4_get l g (N + 1) (va_up ad N z115) (va_up y N (c_row g t115)) cr dr 0 kn rf pl pz mc (by omega) b0 ((up_lt (by omega)).trans hb0) a1 N z115 t115 (Nat.lt_succ_self _) up_eq ((mg_hi (by omega)).trans up_eq) s2 H.size) mw_X4_get md_X4_get rfl lk_X4_103 ⟨Nat.le_of_ble_eq_true rfl, Nat.le_of_ble_eq_true rfl⟩ hA hK hT B (by omega) mg_24 rfl rfl hl.1 rfl (Nat.le_of_ble_eq_true rfl) dX4_moreOf_103 ⟨Nat.le_of_ble_eq_true rfl, Nat.le_of_ble_eq_true rfl⟩) (Nat.le_of_ble_eq_true rfl) (Nat.le_of_ble_eq_true rfl) (fun r117 ad117 f' H locs hw B => ?_)
              dsimp only at hw
              obtain ⟨mv118, rfl, rfl⟩ := hw
              have B : WB g (aw N ad sz) s.heap N ad117 (mg g ad117 y (v_X4_get cr a1 t115).2 dr 0 kn rf pl pz mc) H locs := WM_drop B (by omega) (by omega) (fun _ _ => rfl) (fun _ hk => (up_lt hk))
              have kk119 : ∀ k, k < N → k < 28 ∨ 36 ≤ k → ad117 k = ad k := fun k hk hkq => (mv118 k (by omega) hkq).trans (((fun _ hk => (up_lt hk)) k hk).trans rfl)
              have nb120 : ad117 24 = b0 := (mv118 24 (by omega) (Or.inl (by decide))).trans ((up_lt (by omega)).trans hb0)
              have ev := (show v_X4_moreOf cr rf a1 a2 a3 a4 a5 = ((v_X4_get cr a1 t115).1, (v_X4_get cr a1 t115).2, 0, rf) from by unfold v_X4_moreOf; rw [if_pos s2, if_neg c3, if_pos c75, if_neg c111, if_neg c113, om_some o115])
              exact rt_i X hr (ad117, mg g ad117 y (v_X4_get cr a1 t115).2 dr 0 kn rf pl pz mc) B (PO_of B) ⟨kk119, by rw [ev], by rw [ev]⟩ rfl (Nat.le_of_ble_eq_true rfl) (Nat.le_of_ble_eq_true rfl) dX4_moreOf_106
          · refine lv_lload hx hb dX4_moreOf_93 (lv_at hl 0 rfl) ?_
            refine lv_goto (tgt := 99) hx hb dX4_moreOf_95 (by decide) ?_
            refine lv_ladd hx hb dX4_moreOf_99 ?_
            refine k_r (k := 1) (n := 3) hA B (u_S (rest := [.int a1, .ref b0]) X (c_X4_span l g N ad (mg g ad y cr dr 0 kn rf pl pz mc) (((cr a1.toNatClampNeg).1.toInt64) + (a5.toInt64 * (4000000000 * a3.toInt64))) (((cr a1.toNatClampNeg).2.1.toInt64) + 0) (((cr a1.toNatClampNeg).2.2.toInt64) + (a5.toInt64 * (4000000000 * a3.toInt64))) H.size) mw_X4_span md_X4_span rfl lk_X4_47 ⟨Nat.le_of_ble_eq_true rfl, Nat.le_of_ble_eq_true rfl⟩ hA hK hT B hl.1 rfl (Nat.le_of_ble_eq_true rfl) dX4_moreOf_100 ⟨Nat.le_of_ble_eq_true rfl, Nat.le_of_ble_eq_true rfl⟩) (Nat.le_of_ble_eq_true rfl) (Nat.le_of_ble_eq_true rfl) (fun r121 ad121 f' H locs hw B => ?_)
            generalize o122 : (v_X4_span (((cr a1.toNatClampNeg).1.toInt64) + (a5.toInt64 * (4000000000 * a3.toInt64))) (((cr a1.toNatClampNeg).2.1.toInt64) + 0) (((cr a1.toNatClampNeg).2.2.toInt64) + (a5.toInt64 * (4000000000 * a3.toInt64)))) = v9 at hw B
            cases v9 with
            | none =>
              obtain ⟨rfl, rfl, rfl⟩ := pw_n hw
              refine k_i (k := 1) (n := 3) hA B (b_V (q := 24) (rest := []) hb0 X (c_X4_getN l g N ad y cr dr 0 kn rf pl pz mc (by omega) b0 hb0 a1 H.size) mw_X4_get md_X4_get rfl lk_X4_103 ⟨Nat.le_of_ble_eq_true rfl, Nat.le_of_ble_eq_true rfl⟩ hA hK hT B (by omega) mg_24 rfl rfl hl.1 rfl (Nat.le_of_ble_eq_true rfl) dX4_moreOf_103 ⟨Nat.le_of_ble_eq_true rfl, Nat.le_of_ble_eq_true rfl⟩) (Nat.le_of_ble_eq_true rfl) (Nat.le_of_ble_eq_true rfl) (fun r123 ad123 f' H locs hw B => ?_)
              obtain ⟨rfl, rfl, rfl⟩ := hw
              have ev := (show v_X4_moreOf cr rf a1 a2 a3 a4 a5 = ((v_X4_getN rf).1, cr, 0, (v_X4_getN rf).2) from by unfold v_X4_moreOf; rw [if_pos s2, if_neg c3, if_pos c75, if_neg c111, if_pos c113, om_none o122])
              exact rt_i X hr (ad, mg g ad y cr dr 0 kn (v_X4_getN rf).2 pl pz mc) B (PO_of B) ⟨(fun _ _ _ => rfl), by rw [ev], by rw [ev]⟩ rfl (Nat.le_of_ble_eq_true rfl) (Nat.le_of_ble_eq_true rfl) dX4_moreOf_106
            | some t122 =>
              obtain ⟨z122, rfl, rfl, rfl⟩ := pw_s hw
              have B : WB g (aw N ad sz) s.heap (N + 1) (va_up ad N z122) (mg g (va_up ad N z122) (va_up y N (c_row g t122)) cr dr 0 kn rf pl pz mc) H locs := WM_push (by omega) B
              refine k_i (k := 2) (n := 6) hA B (b_V (q := 24) (rest := []) ((up_lt (by omega)).trans hb0) X (c_X4_get l g (N + 1) (va_up ad N z122) (va_up y N (c_row g t122)) cr dr 0 kn rf pl pz mc (by omega) b0 ((up_lt (by omega)).trans hb0) a1 N z122 t122 (Nat.lt_succ_self _) up_eq ((mg_hi (by omega)).trans up_eq) s2 H.size) mw_X4_get md_X4_get rfl lk_X4_103 ⟨Nat.le_of_ble_eq_true rfl, Nat.le_of_ble_eq_true rfl⟩ hA hK hT B (by omega) mg_24 rfl rfl hl.1 rfl (Nat.le_of_ble_eq_true rfl) dX4_moreOf_103 ⟨Nat.le_of_ble_eq_true rfl, Nat.le_of_ble_eq_true rfl⟩) (Nat.le_of_ble_eq_true rfl) (Nat.le_of_ble_eq_true rfl) (fun r124 ad124 f' H locs hw B => ?_)
              dsimp only at hw
              obtain ⟨mv125, rfl, rfl⟩ := hw
              have B : WB g (aw N ad sz) s.heap N ad124 (mg g ad124 y (v_X4_get cr a1 t122).2 dr 0 kn rf pl pz mc) H locs := WM_drop B (by omega) (by omega) (fun _ _ => rfl) (fun _ hk => (up_lt hk))
              have kk126 : ∀ k, k < N → k < 28 ∨ 36 ≤ k → ad124 k = ad k := fun k hk hkq => (mv125 k (by omega) hkq).trans (((fun _ hk => (up_lt hk)) k hk).trans rfl)
              have nb127 : ad124 24 = b0 := (mv125 24 (by omega) (Or.inl (by decide))).trans ((up_lt (by omega)).trans hb0)
              have ev := (show v_X4_moreOf cr rf a1 a2 a3 a4 a5 = ((v_X4_get cr a1 t122).1, (v_X4_get cr a1 t122).2, 0, rf) from by unfold v_X4_moreOf; rw [if_pos s2, if_neg c3, if_pos c75, if_neg c111, if_pos c113, om_some o122])
              exact rt_i X hr (ad124, mg g ad124 y (v_X4_get cr a1 t122).2 dr 0 kn rf pl pz mc) B (PO_of B) ⟨kk126, by rw [ev], by rw [ev]⟩ rfl (Nat.le_of_ble_eq_true rfl) (Nat.le_of_ble_eq_true rfl) dX4_moreOf_106
        · refine lv_lload hx hb dX4_moreOf_72 (lv_at hl 0 rfl) ?_
          refine lv_goto (tgt := 78) hx hb dX4_moreOf_74 (by decide) ?_
          refine lv_ladd hx hb dX4_moreOf_78 ?_
          refine lv_aload_n hx hb dX4_moreOf_79 rfl (lv_at hl 1 rfl) ?_
          refine b_get (q := 24) (k := 1) hb0 X hK B rfl in_X4 (by omega) mg_24 (by decide) lk_X4_11 rfl rfl dX4_moreOf_80 ?_
          refine lv_iload_n hx hb dX4_moreOf_83 rfl (lv_at hl 2 rfl) ?_
          refine b_aald (q := 25) (t0 := 2) (v := ad (28 + a1.toNatClampNeg)) rfl X hK B (by omega) mg_25 rfl rfl (no_in s2) rfl dX4_moreOf_84 ?_
          have g128 : a1.toNatClampNeg < 4 := (no_lt s2)
          refine lv_iconst (v := 2) hx hb dX4_moreOf_85 (by decide) ?_
          refine h_ld2 X hK B (pl_cr hN g128) rfl (mg_cr g128) dX4_moreOf_86 ?_
          refine lv_i2l (v := (cr a1.toNatClampNeg).2.2.toInt64) hx hb dX4_moreOf_87 rfl ?_
          refine lv_iload_n hx hb dX4_moreOf_88 rfl (lv_at hl 3 rfl) ?_
          refine lv_iconst (v := 2) hx hb dX4_moreOf_89 (by decide) ?_
          refine lv_icmp_ne (tgt := 98) hx hb dX4_moreOf_90 (by decide) (fun c129 => ?_) (fun c129 => ?_)
          · refine lv_lconst (v := 0) hx hb dX4_moreOf_98 (by decide) ?_
            refine lv_ladd hx hb dX4_moreOf_99 ?_
            refine k_r (k := 1) (n := 3) hA B (u_S (rest := [.int a1, .ref b0]) X (c_X4_span l g N ad (mg g ad y cr dr 0 kn rf pl pz mc) (((cr a1.toNatClampNeg).1.toInt64) + (a5.toInt64 * (4000000000 * a3.toInt64))) (((cr a1.toNatClampNeg).2.1.toInt64) + (a5.toInt64 * (4000000000 * a3.toInt64))) (((cr a1.toNatClampNeg).2.2.toInt64) + 0) H.size) mw_X4_span md_X4_span rfl lk_X4_47 ⟨Nat.le_of_ble_eq_true rfl, Nat.le_of_ble_eq_true rfl⟩ hA hK hT B hl.1 rfl (Nat.le_of_ble_eq_true rfl) dX4_moreOf_100 ⟨Nat.le_of_ble_eq_true rfl, Nat.le_of_ble_eq_true rfl⟩) (Nat.le_of_ble_eq_true rfl) (Nat.le_of_ble_eq_true rfl) (fun r130 ad130 f' H locs hw B => ?_)
            generalize o131 : (v_X4_span (((cr a1.toNatClampNeg).1.toInt64) + (a5.toInt64 * (4000000000 * a3.toInt64))) (((cr a1.toNatClampNeg).2.1.toInt64) + (a5.toInt64 * (4000000000 * a3.toInt64))) (((cr a1.toNatClampNeg).2.2.toInt64) + 0)) = v9 at hw B
            cases v9 with
            | none =>
              obtain ⟨rfl, rfl, rfl⟩ := pw_n hw
              refine k_i (k := 1) (n := 3) hA B (b_V (q := 24) (rest := []) hb0 X (c_X4_getN l g N ad y cr dr 0 kn rf pl pz mc (by omega) b0 hb0 a1 H.size) mw_X4_get md_X4_get rfl lk_X4_103 ⟨Nat.le_of_ble_eq_true rfl, Nat.le_of_ble_eq_true rfl⟩ hA hK hT B (by omega) mg_24 rfl rfl hl.1 rfl (Nat.le_of_ble_eq_true rfl) dX4_moreOf_103 ⟨Nat.le_of_ble_eq_true rfl, Nat.le_of_ble_eq_true rfl⟩) (Nat.le_of_ble_eq_true rfl) (Nat.le_of_ble_eq_true rfl) (fun r132 ad132 f' H locs hw B => ?_)
              obtain ⟨rfl, rfl, rfl⟩ := hw
              have ev := (show v_X4_moreOf cr rf a1 a2 a3 a4 a5 = ((v_X4_getN rf).1, cr, 0, (v_X4_getN rf).2) from by unfold v_X4_moreOf; rw [if_pos s2, if_neg c3, if_pos c75, if_pos c111, if_neg c129, om_none o131])
              exact rt_i X hr (ad, mg g ad y cr dr 0 kn (v_X4_getN rf).2 pl pz mc) B (PO_of B) ⟨(fun _ _ _ => rfl), by rw [ev], by rw [ev]⟩ rfl (Nat.le_of_ble_eq_true rfl) (Nat.le_of_ble_eq_true rfl) dX4_moreOf_106
            | some t131 =>
              obtain ⟨z131, rfl, rfl, rfl⟩ := pw_s hw
              have B : WB g (aw N ad sz) s.heap (N + 1) (va_up ad N z131) (mg g (va_up ad N z131) (va_up y N (c_row g t131)) cr dr 0 kn rf pl pz mc) H locs := WM_push (by omega) B
              refine k_i (k := 2) (n := 6) hA B (b_V (q := 24) (rest := []) ((up_lt (by omega)).trans hb0) X (c_X4_get l g (N + 1) (va_up ad N z131) (va_up y N (c_row g t131)) cr dr 0 kn rf pl pz mc (by omega) b0 ((up_lt (by omega)).trans hb0) a1 N z131 t131 (Nat.lt_succ_self _) up_eq ((mg_hi (by omega)).trans up_eq) s2 H.size) mw_X4_get md_X4_get rfl lk_X4_103 ⟨Nat.le_of_ble_eq_true rfl, Nat.le_of_ble_eq_true rfl⟩ hA hK hT B (by omega) mg_24 rfl rfl hl.1 rfl (Nat.le_of_ble_eq_true rfl) dX4_moreOf_103 ⟨Nat.le_of_ble_eq_true rfl, Nat.le_of_ble_eq_true rfl⟩) (Nat.le_of_ble_eq_true rfl) (Nat.le_of_ble_eq_true rfl) (fun r133 ad133 f' H locs hw B => ?_)
              dsimp only at hw
              obtain ⟨mv134, rfl, rfl⟩ := hw
              have B : WB g (aw N ad sz) s.heap N ad133 (mg g ad133 y (v_X4_get cr a1 t131).2 dr 0 kn rf pl pz mc) H locs := WM_drop B (by omega) (by omega) (fun _ _ => rfl) (fun _ hk => (up_lt hk))
              have kk135 : ∀ k, k < N → k < 28 ∨ 36 ≤ k → ad133 k = ad k := fun k hk hkq => (mv134 k (by omega) hkq).trans (((fun _ hk => (up_lt hk)) k hk).trans rfl)
              have nb136 : ad133 24 = b0 := (mv134 24 (by omega) (Or.inl (by decide))).trans ((up_lt (by omega)).trans hb0)
              have ev := (show v_X4_moreOf cr rf a1 a2 a3 a4 a5 = ((v_X4_get cr a1 t131).1, (v_X4_get cr a1 t131).2, 0, rf) from by unfold v_X4_moreOf; rw [if_pos s2, if_neg c3, if_pos c75, if_pos c111, if_neg c129, om_some o131])
              exact rt_i X hr (ad133, mg g ad133 y (v_X4_get cr a1 t131).2 dr 0 kn rf pl pz mc) B (PO_of B) ⟨kk135, by rw [ev], by rw [ev]⟩ rfl (Nat.le_of_ble_eq_true rfl) (Nat.le_of_ble_eq_true rfl) dX4_moreOf_106
          · refine lv_lload hx hb dX4_moreOf_93 (lv_at hl 0 rfl) ?_
            refine lv_goto (tgt := 99) hx hb dX4_moreOf_95 (by decide) ?_
            refine lv_ladd hx hb dX4_moreOf_99 ?_
            refine k_r (k := 1) (n := 3) hA B (u_S (rest := [.int a1, .ref b0]) X (c_X4_span l g N ad (mg g ad y cr dr 0 kn rf pl pz mc) (((cr a1.toNatClampNeg).1.toInt64) + (a5.toInt64 * (4000000000 * a3.toInt64))) (((cr a1.toNatClampNeg).2.1.toInt64) + (a5.toInt64 * (4000000000 * a3.toInt64))) (((cr a1.toNatClampNeg).2.2.toInt64) + (a5.toInt64 * (4000000000 * a3.toInt64))) H.size) mw_X4_span md_X4_span rfl lk_X4_47 ⟨Nat.le_of_ble_eq_true rfl, Nat.le_of_ble_eq_true rfl⟩ hA hK hT B hl.1 rfl (Nat.le_of_ble_eq_true rfl) dX4_moreOf_100 ⟨Nat.le_of_ble_eq_true rfl, Nat.le_of_ble_eq_true rfl⟩) (Nat.le_of_ble_eq_true rfl) (Nat.le_of_ble_eq_true rfl) (fun r137 ad137 f' H locs hw B => ?_)
            generalize o138 : (v_X4_span (((cr a1.toNatClampNeg).1.toInt64) + (a5.toInt64 * (4000000000 * a3.toInt64))) (((cr a1.toNatClampNeg).2.1.toInt64) + (a5.toInt64 * (4000000000 * a3.toInt64))) (((cr a1.toNatClampNeg).2.2.toInt64) + (a5.toInt64 * (4000000000 * a3.toInt64)))) = v9 at hw B
            cases v9 with
            | none =>
              obtain ⟨rfl, rfl, rfl⟩ := pw_n hw
              refine k_i (k := 1) (n := 3) hA B (b_V (q := 24) (rest := []) hb0 X (c_X4_getN l g N ad y cr dr 0 kn rf pl pz mc (by omega) b0 hb0 a1 H.size) mw_X4_get md_X4_get rfl lk_X4_103 ⟨Nat.le_of_ble_eq_true rfl, Nat.le_of_ble_eq_true rfl⟩ hA hK hT B (by omega) mg_24 rfl rfl hl.1 rfl (Nat.le_of_ble_eq_true rfl) dX4_moreOf_103 ⟨Nat.le_of_ble_eq_true rfl, Nat.le_of_ble_eq_true rfl⟩) (Nat.le_of_ble_eq_true rfl) (Nat.le_of_ble_eq_true rfl) (fun r139 ad139 f' H locs hw B => ?_)
              obtain ⟨rfl, rfl, rfl⟩ := hw
              have ev := (show v_X4_moreOf cr rf a1 a2 a3 a4 a5 = ((v_X4_getN rf).1, cr, 0, (v_X4_getN rf).2) from by unfold v_X4_moreOf; rw [if_pos s2, if_neg c3, if_pos c75, if_pos c111, if_pos c129, om_none o138])
              exact rt_i X hr (ad, mg g ad y cr dr 0 kn (v_X4_getN rf).2 pl pz mc) B (PO_of B) ⟨(fun _ _ _ => rfl), by rw [ev], by rw [ev]⟩ rfl (Nat.le_of_ble_eq_true rfl) (Nat.le_of_ble_eq_true rfl) dX4_moreOf_106
            | some t138 =>
              obtain ⟨z138, rfl, rfl, rfl⟩ := pw_s hw
              have B : WB g (aw N ad sz) s.heap (N + 1) (va_up ad N z138) (mg g (va_up ad N z138) (va_up y N (c_row g t138)) cr dr 0 kn rf pl pz mc) H locs := WM_push (by omega) B
              refine k_i (k := 2) (n := 6) hA B (b_V (q := 24) (rest := []) ((up_lt (by omega)).trans hb0) X (c_X4_get l g (N + 1) (va_up ad N z138) (va_up y N (c_row g t138)) cr dr 0 kn rf pl pz mc (by omega) b0 ((up_lt (by omega)).trans hb0) a1 N z138 t138 (Nat.lt_succ_self _) up_eq ((mg_hi (by omega)).trans up_eq) s2 H.size) mw_X4_get md_X4_get rfl lk_X4_103 ⟨Nat.le_of_ble_eq_true rfl, Nat.le_of_ble_eq_true rfl⟩ hA hK hT B (by omega) mg_24 rfl rfl hl.1 rfl (Nat.le_of_ble_eq_true rfl) dX4_moreOf_103 ⟨Nat.le_of_ble_eq_true rfl, Nat.le_of_ble_eq_true rfl⟩) (Nat.le_of_ble_eq_true rfl) (Nat.le_of_ble_eq_true rfl) (fun r140 ad140 f' H locs hw B => ?_)
              dsimp only at hw
              obtain ⟨mv141, rfl, rfl⟩ := hw
              have B : WB g (aw N ad sz) s.heap N ad140 (mg g ad140 y (v_X4_get cr a1 t138).2 dr 0 kn rf pl pz mc) H locs := WM_drop B (by omega) (by omega) (fun _ _ => rfl) (fun _ hk => (up_lt hk))
              have kk142 : ∀ k, k < N → k < 28 ∨ 36 ≤ k → ad140 k = ad k := fun k hk hkq => (mv141 k (by omega) hkq).trans (((fun _ hk => (up_lt hk)) k hk).trans rfl)
              have nb143 : ad140 24 = b0 := (mv141 24 (by omega) (Or.inl (by decide))).trans ((up_lt (by omega)).trans hb0)
              have ev := (show v_X4_moreOf cr rf a1 a2 a3 a4 a5 = ((v_X4_get cr a1 t138).1, (v_X4_get cr a1 t138).2, 0, rf) from by unfold v_X4_moreOf; rw [if_pos s2, if_neg c3, if_pos c75, if_pos c111, if_pos c129, om_some o138])
              exact rt_i X hr (ad140, mg g ad140 y (v_X4_get cr a1 t138).2 dr 0 kn rf pl pz mc) B (PO_of B) ⟨kk142, by rw [ev], by rw [ev]⟩ rfl (Nat.le_of_ble_eq_true rfl) (Nat.le_of_ble_eq_true rfl) dX4_moreOf_106
  · have s2x : (v_X4_isNone a1) = 1 := (b01_X4_isNone).resolve_left s2
    rw [s2x]
    refine k_i (k := 0) (n := 0) hA B (b_V (q := 24) (rest := []) hb0 X (c_X4_stops l g N ad y cr dr th kn rf pl pz mc (by omega) b0 hb0 1 0 H.size) mw_X4_stops md_X4_stops rfl lk_X4_99 ⟨Nat.le_of_ble_eq_true rfl, Nat.le_of_ble_eq_true rfl⟩ hA hK hT B (by omega) mg_24 rfl rfl hl.1 rfl (Nat.le_of_ble_eq_true rfl) dX4_moreOf_6 ⟨Nat.le_of_ble_eq_true rfl, Nat.le_of_ble_eq_true rfl⟩) (Nat.le_of_ble_eq_true rfl) (Nat.le_of_ble_eq_true rfl) (fun r ad' f' H locs hw B => ?_)
    rw [st_10] at hw
    dsimp only at hw
    obtain ⟨rfl, rfl, rfl⟩ := hw
    have B : WB g (aw N ad sz) s.heap N ad (mg g ad y cr dr 1 kn rf pl pz mc) H locs := B
    refine lv_if_eq (tgt := 14) hx hb dX4_moreOf_9 (by decide) (fun z => absurd z (by decide)) (fun _ => ?_)
    refine lv_iconst (v := 0) hx hb dX4_moreOf_12 (by decide) ?_
    have ev := (show v_X4_moreOf cr rf a1 a2 a3 a4 a5 = (0, cr, 1, rf) from by unfold v_X4_moreOf; rw [if_neg s2])
    exact rt_i X hr (ad, mg g ad y cr dr 1 kn rf pl pz mc) B (PO_of B) ⟨(fun _ _ _ => rfl), by rw [ev], by rw [ev]⟩ rfl (Nat.le_of_ble_eq_true rfl) (Nat.le_of_ble_eq_true rfl) dX4_moreOf_13
def v_X4_plusYears (cr : Nat → TR) (rf : Int32) (a1 : Int32) (a2 : Int32) (a3 : Int32) : Int32 × (Nat → TR) × Int32 × Int32 := ((v_X4_moreOf cr rf a1 0 a2 a3 1).1, (v_X4_moreOf cr rf a1 0 a2 a3 1).2.1, (v_X4_moreOf cr rf a1 0 a2 a3 1).2.2.1, (v_X4_moreOf cr rf a1 0 a2 a3 1).2.2.2)
set_option maxHeartbeats 4000000 in
set_option maxRecDepth 100000 in
theorem c_X4_plusYears (l : Launch) (g : GG) (N : Nat) (ad : Nat → Nat) (y : Nat → va_E) (cr dr : Nat → TR) (th kn rf : Int32) (pl : Nat → TR) (pz : Nat) (mc : Int32) (hN : 36 + pz ≤ N) (b0 : Nat) (hb0 : ad 24 = b0) (a1 : Int32) (a2 : Int32) (a3 : Int32) : KI l yX4_plusYears cX4_plusYears 4 (some .int) (rm 3 2 6) g [.ref b0, .int a1, .int a2, .int a3] N ad (mg g ad y cr dr th kn rf pl pz mc) N (fun r ad' f' => (∀ k, k < N → k < 28 ∨ 36 ≤ k → ad' k = ad k) ∧ (v_X4_plusYears cr rf a1 a2 a3).1 = r ∧ mg g ad' y (v_X4_plusYears cr rf a1 a2 a3).2.1 dr (v_X4_plusYears cr rf a1 a2 a3).2.2.1 kn (v_X4_plusYears cr rf a1 a2 a3).2.2.2 pl pz mc = f') := by
  intro sz
  refine mt_start (by decide) (Nat.le_of_ble_eq_true rfl) ?_
  intro p e s m args below meth c hsz X hr hnam hA hK hT H locs B ls hl
  obtain ⟨hx, hb, hml, hown, hts, hlocks⟩ := id X
  have hl : lv_has ls 4 [(0, .ref b0), (1, .int a1), (2, .int a2), (3, .int a3)] := hl
  refine lv_aload_n hx hb dX4_plusYears_0 rfl (lv_at hl 0 rfl) ?_
  refine lv_iload_n hx hb dX4_plusYears_1 rfl (lv_at hl 1 rfl) ?_
  refine lv_iconst (v := 0) hx hb dX4_plusYears_2 (by decide) ?_
  refine lv_iload_n hx hb dX4_plusYears_3 rfl (lv_at hl 2 rfl) ?_
  refine lv_iload_n hx hb dX4_plusYears_4 rfl (lv_at hl 3 rfl) ?_
  refine lv_iconst (v := 1) hx hb dX4_plusYears_5 (by decide) ?_
  refine k_i (k := 2) (n := 6) hA B (b_V (q := 24) (rest := []) hb0 X (c_X4_moreOf l g N ad y cr dr th kn rf pl pz mc (by omega) b0 hb0 a1 0 a2 a3 1 H.size) mw_X4_moreOf md_X4_moreOf rfl lk_X4_117 ⟨Nat.le_of_ble_eq_true rfl, Nat.le_of_ble_eq_true rfl⟩ hA hK hT B (by omega) mg_24 rfl rfl hl.1 rfl (Nat.le_of_ble_eq_true rfl) dX4_plusYears_6 ⟨Nat.le_of_ble_eq_true rfl, Nat.le_of_ble_eq_true rfl⟩) (Nat.le_of_ble_eq_true rfl) (Nat.le_of_ble_eq_true rfl) (fun r1 ad1 f' H locs hw B => ?_)
  dsimp only at hw
  obtain ⟨mv2, rfl, rfl⟩ := hw
  have kk3 : ∀ k, k < N → k < 28 ∨ 36 ≤ k → ad1 k = ad k := fun k hk hkq => (mv2 k (by omega) hkq).trans (rfl.trans rfl)
  have nb4 : ad1 24 = b0 := (mv2 24 (by omega) (Or.inl (by decide))).trans hb0
  have ev := (show v_X4_plusYears cr rf a1 a2 a3 = ((v_X4_moreOf cr rf a1 0 a2 a3 1).1, (v_X4_moreOf cr rf a1 0 a2 a3 1).2.1, (v_X4_moreOf cr rf a1 0 a2 a3 1).2.2.1, (v_X4_moreOf cr rf a1 0 a2 a3 1).2.2.2) from rfl)
  exact rt_i X hr (ad1, mg g ad1 y (v_X4_moreOf cr rf a1 0 a2 a3 1).2.1 dr (v_X4_moreOf cr rf a1 0 a2 a3 1).2.2.1 kn (v_X4_moreOf cr rf a1 0 a2 a3 1).2.2.2 pl pz mc) B (PO_of B) ⟨kk3, by rw [ev], by rw [ev]⟩ rfl (Nat.le_of_ble_eq_true rfl) (Nat.le_of_ble_eq_true rfl) dX4_plusYears_9
def v_X4_plusMonths (cr : Nat → TR) (rf : Int32) (a1 : Int32) (a2 : Int32) (a3 : Int32) : Int32 × (Nat → TR) × Int32 × Int32 := ((v_X4_moreOf cr rf a1 1 a2 a3 1).1, (v_X4_moreOf cr rf a1 1 a2 a3 1).2.1, (v_X4_moreOf cr rf a1 1 a2 a3 1).2.2.1, (v_X4_moreOf cr rf a1 1 a2 a3 1).2.2.2)
set_option maxHeartbeats 4000000 in
set_option maxRecDepth 100000 in
theorem c_X4_plusMonths (l : Launch) (g : GG) (N : Nat) (ad : Nat → Nat) (y : Nat → va_E) (cr dr : Nat → TR) (th kn rf : Int32) (pl : Nat → TR) (pz : Nat) (mc : Int32) (hN : 36 + pz ≤ N) (b0 : Nat) (hb0 : ad 24 = b0) (a1 : Int32) (a2 : Int32) (a3 : Int32) : KI l yX4_plusMonths cX4_plusMonths 4 (some .int) (rm 3 2 6) g [.ref b0, .int a1, .int a2, .int a3] N ad (mg g ad y cr dr th kn rf pl pz mc) N (fun r ad' f' => (∀ k, k < N → k < 28 ∨ 36 ≤ k → ad' k = ad k) ∧ (v_X4_plusMonths cr rf a1 a2 a3).1 = r ∧ mg g ad' y (v_X4_plusMonths cr rf a1 a2 a3).2.1 dr (v_X4_plusMonths cr rf a1 a2 a3).2.2.1 kn (v_X4_plusMonths cr rf a1 a2 a3).2.2.2 pl pz mc = f') := by
  intro sz
  refine mt_start (by decide) (Nat.le_of_ble_eq_true rfl) ?_
  intro p e s m args below meth c hsz X hr hnam hA hK hT H locs B ls hl
  obtain ⟨hx, hb, hml, hown, hts, hlocks⟩ := id X
  have hl : lv_has ls 4 [(0, .ref b0), (1, .int a1), (2, .int a2), (3, .int a3)] := hl
  refine lv_aload_n hx hb dX4_plusMonths_0 rfl (lv_at hl 0 rfl) ?_
  refine lv_iload_n hx hb dX4_plusMonths_1 rfl (lv_at hl 1 rfl) ?_
  refine lv_iconst (v := 1) hx hb dX4_plusMonths_2 (by decide) ?_
  refine lv_iload_n hx hb dX4_plusMonths_3 rfl (lv_at hl 2 rfl) ?_
  refine lv_iload_n hx hb dX4_plusMonths_4 rfl (lv_at hl 3 rfl) ?_
  refine lv_iconst (v := 1) hx hb dX4_plusMonths_5 (by decide) ?_
  refine k_i (k := 2) (n := 6) hA B (b_V (q := 24) (rest := []) hb0 X (c_X4_moreOf l g N ad y cr dr th kn rf pl pz mc (by omega) b0 hb0 a1 1 a2 a3 1 H.size) mw_X4_moreOf md_X4_moreOf rfl lk_X4_117 ⟨Nat.le_of_ble_eq_true rfl, Nat.le_of_ble_eq_true rfl⟩ hA hK hT B (by omega) mg_24 rfl rfl hl.1 rfl (Nat.le_of_ble_eq_true rfl) dX4_plusMonths_6 ⟨Nat.le_of_ble_eq_true rfl, Nat.le_of_ble_eq_true rfl⟩) (Nat.le_of_ble_eq_true rfl) (Nat.le_of_ble_eq_true rfl) (fun r1 ad1 f' H locs hw B => ?_)
  dsimp only at hw
  obtain ⟨mv2, rfl, rfl⟩ := hw
  have kk3 : ∀ k, k < N → k < 28 ∨ 36 ≤ k → ad1 k = ad k := fun k hk hkq => (mv2 k (by omega) hkq).trans (rfl.trans rfl)
  have nb4 : ad1 24 = b0 := (mv2 24 (by omega) (Or.inl (by decide))).trans hb0
  have ev := (show v_X4_plusMonths cr rf a1 a2 a3 = ((v_X4_moreOf cr rf a1 1 a2 a3 1).1, (v_X4_moreOf cr rf a1 1 a2 a3 1).2.1, (v_X4_moreOf cr rf a1 1 a2 a3 1).2.2.1, (v_X4_moreOf cr rf a1 1 a2 a3 1).2.2.2) from rfl)
  exact rt_i X hr (ad1, mg g ad1 y (v_X4_moreOf cr rf a1 1 a2 a3 1).2.1 dr (v_X4_moreOf cr rf a1 1 a2 a3 1).2.2.1 kn (v_X4_moreOf cr rf a1 1 a2 a3 1).2.2.2 pl pz mc) B (PO_of B) ⟨kk3, by rw [ev], by rw [ev]⟩ rfl (Nat.le_of_ble_eq_true rfl) (Nat.le_of_ble_eq_true rfl) dX4_plusMonths_9
def v_X4_plusDays (cr : Nat → TR) (rf : Int32) (a1 : Int32) (a2 : Int32) (a3 : Int32) : Int32 × (Nat → TR) × Int32 × Int32 := ((v_X4_moreOf cr rf a1 2 a2 a3 1).1, (v_X4_moreOf cr rf a1 2 a2 a3 1).2.1, (v_X4_moreOf cr rf a1 2 a2 a3 1).2.2.1, (v_X4_moreOf cr rf a1 2 a2 a3 1).2.2.2)
set_option maxHeartbeats 4000000 in
set_option maxRecDepth 100000 in
theorem c_X4_plusDays (l : Launch) (g : GG) (N : Nat) (ad : Nat → Nat) (y : Nat → va_E) (cr dr : Nat → TR) (th kn rf : Int32) (pl : Nat → TR) (pz : Nat) (mc : Int32) (hN : 36 + pz ≤ N) (b0 : Nat) (hb0 : ad 24 = b0) (a1 : Int32) (a2 : Int32) (a3 : Int32) : KI l yX4_plusDays cX4_plusDays 4 (some .int) (rm 3 2 6) g [.ref b0, .int a1, .int a2, .int a3] N ad (mg g ad y cr dr th kn rf pl pz mc) N (fun r ad' f' => (∀ k, k < N → k < 28 ∨ 36 ≤ k → ad' k = ad k) ∧ (v_X4_plusDays cr rf a1 a2 a3).1 = r ∧ mg g ad' y (v_X4_plusDays cr rf a1 a2 a3).2.1 dr (v_X4_plusDays cr rf a1 a2 a3).2.2.1 kn (v_X4_plusDays cr rf a1 a2 a3).2.2.2 pl pz mc = f') := by
  intro sz
  refine mt_start (by decide) (Nat.le_of_ble_eq_true rfl) ?_
  intro p e s m args below meth c hsz X hr hnam hA hK hT H locs B ls hl
  obtain ⟨hx, hb, hml, hown, hts, hlocks⟩ := id X
  have hl : lv_has ls 4 [(0, .ref b0), (1, .int a1), (2, .int a2), (3, .int a3)] := hl
  refine lv_aload_n hx hb dX4_plusDays_0 rfl (lv_at hl 0 rfl) ?_
  refine lv_iload_n hx hb dX4_plusDays_1 rfl (lv_at hl 1 rfl) ?_
  refine lv_iconst (v := 2) hx hb dX4_plusDays_2 (by decide) ?_
  refine lv_iload_n hx hb dX4_plusDays_3 rfl (lv_at hl 2 rfl) ?_
  refine lv_iload_n hx hb dX4_plusDays_4 rfl (lv_at hl 3 rfl) ?_
  refine lv_iconst (v := 1) hx hb dX4_plusDays_5 (by decide) ?_
  refine k_i (k := 2) (n := 6) hA B (b_V (q := 24) (rest := []) hb0 X (c_X4_moreOf l g N ad y cr dr th kn rf pl pz mc (by omega) b0 hb0 a1 2 a2 a3 1 H.size) mw_X4_moreOf md_X4_moreOf rfl lk_X4_117 ⟨Nat.le_of_ble_eq_true rfl, Nat.le_of_ble_eq_true rfl⟩ hA hK hT B (by omega) mg_24 rfl rfl hl.1 rfl (Nat.le_of_ble_eq_true rfl) dX4_plusDays_6 ⟨Nat.le_of_ble_eq_true rfl, Nat.le_of_ble_eq_true rfl⟩) (Nat.le_of_ble_eq_true rfl) (Nat.le_of_ble_eq_true rfl) (fun r1 ad1 f' H locs hw B => ?_)
  dsimp only at hw
  obtain ⟨mv2, rfl, rfl⟩ := hw
  have kk3 : ∀ k, k < N → k < 28 ∨ 36 ≤ k → ad1 k = ad k := fun k hk hkq => (mv2 k (by omega) hkq).trans (rfl.trans rfl)
  have nb4 : ad1 24 = b0 := (mv2 24 (by omega) (Or.inl (by decide))).trans hb0
  have ev := (show v_X4_plusDays cr rf a1 a2 a3 = ((v_X4_moreOf cr rf a1 2 a2 a3 1).1, (v_X4_moreOf cr rf a1 2 a2 a3 1).2.1, (v_X4_moreOf cr rf a1 2 a2 a3 1).2.2.1, (v_X4_moreOf cr rf a1 2 a2 a3 1).2.2.2) from rfl)
  exact rt_i X hr (ad1, mg g ad1 y (v_X4_moreOf cr rf a1 2 a2 a3 1).2.1 dr (v_X4_moreOf cr rf a1 2 a2 a3 1).2.2.1 kn (v_X4_moreOf cr rf a1 2 a2 a3 1).2.2.2 pl pz mc) B (PO_of B) ⟨kk3, by rw [ev], by rw [ev]⟩ rfl (Nat.le_of_ble_eq_true rfl) (Nat.le_of_ble_eq_true rfl) dX4_plusDays_9
def v_X4_minusYears (cr : Nat → TR) (rf : Int32) (a1 : Int32) (a2 : Int32) (a3 : Int32) : Int32 × (Nat → TR) × Int32 × Int32 := ((v_X4_moreOf cr rf a1 0 a2 a3 (-1)).1, (v_X4_moreOf cr rf a1 0 a2 a3 (-1)).2.1, (v_X4_moreOf cr rf a1 0 a2 a3 (-1)).2.2.1, (v_X4_moreOf cr rf a1 0 a2 a3 (-1)).2.2.2)
set_option maxHeartbeats 4000000 in
set_option maxRecDepth 100000 in
theorem c_X4_minusYears (l : Launch) (g : GG) (N : Nat) (ad : Nat → Nat) (y : Nat → va_E) (cr dr : Nat → TR) (th kn rf : Int32) (pl : Nat → TR) (pz : Nat) (mc : Int32) (hN : 36 + pz ≤ N) (b0 : Nat) (hb0 : ad 24 = b0) (a1 : Int32) (a2 : Int32) (a3 : Int32) : KI l yX4_minusYears cX4_minusYears 4 (some .int) (rm 3 2 6) g [.ref b0, .int a1, .int a2, .int a3] N ad (mg g ad y cr dr th kn rf pl pz mc) N (fun r ad' f' => (∀ k, k < N → k < 28 ∨ 36 ≤ k → ad' k = ad k) ∧ (v_X4_minusYears cr rf a1 a2 a3).1 = r ∧ mg g ad' y (v_X4_minusYears cr rf a1 a2 a3).2.1 dr (v_X4_minusYears cr rf a1 a2 a3).2.2.1 kn (v_X4_minusYears cr rf a1 a2 a3).2.2.2 pl pz mc = f') := by
  intro sz
  refine mt_start (by decide) (Nat.le_of_ble_eq_true rfl) ?_
  intro p e s m args below meth c hsz X hr hnam hA hK hT H locs B ls hl
  obtain ⟨hx, hb, hml, hown, hts, hlocks⟩ := id X
  have hl : lv_has ls 4 [(0, .ref b0), (1, .int a1), (2, .int a2), (3, .int a3)] := hl
  refine lv_aload_n hx hb dX4_minusYears_0 rfl (lv_at hl 0 rfl) ?_
  refine lv_iload_n hx hb dX4_minusYears_1 rfl (lv_at hl 1 rfl) ?_
  refine lv_iconst (v := 0) hx hb dX4_minusYears_2 (by decide) ?_
  refine lv_iload_n hx hb dX4_minusYears_3 rfl (lv_at hl 2 rfl) ?_
  refine lv_iload_n hx hb dX4_minusYears_4 rfl (lv_at hl 3 rfl) ?_
  refine lv_iconst (v := (-1)) hx hb dX4_minusYears_5 (by decide) ?_
  refine k_i (k := 2) (n := 6) hA B (b_V (q := 24) (rest := []) hb0 X (c_X4_moreOf l g N ad y cr dr th kn rf pl pz mc (by omega) b0 hb0 a1 0 a2 a3 (-1) H.size) mw_X4_moreOf md_X4_moreOf rfl lk_X4_117 ⟨Nat.le_of_ble_eq_true rfl, Nat.le_of_ble_eq_true rfl⟩ hA hK hT B (by omega) mg_24 rfl rfl hl.1 rfl (Nat.le_of_ble_eq_true rfl) dX4_minusYears_6 ⟨Nat.le_of_ble_eq_true rfl, Nat.le_of_ble_eq_true rfl⟩) (Nat.le_of_ble_eq_true rfl) (Nat.le_of_ble_eq_true rfl) (fun r1 ad1 f' H locs hw B => ?_)
  dsimp only at hw
  obtain ⟨mv2, rfl, rfl⟩ := hw
  have kk3 : ∀ k, k < N → k < 28 ∨ 36 ≤ k → ad1 k = ad k := fun k hk hkq => (mv2 k (by omega) hkq).trans (rfl.trans rfl)
  have nb4 : ad1 24 = b0 := (mv2 24 (by omega) (Or.inl (by decide))).trans hb0
  have ev := (show v_X4_minusYears cr rf a1 a2 a3 = ((v_X4_moreOf cr rf a1 0 a2 a3 (-1)).1, (v_X4_moreOf cr rf a1 0 a2 a3 (-1)).2.1, (v_X4_moreOf cr rf a1 0 a2 a3 (-1)).2.2.1, (v_X4_moreOf cr rf a1 0 a2 a3 (-1)).2.2.2) from rfl)
  exact rt_i X hr (ad1, mg g ad1 y (v_X4_moreOf cr rf a1 0 a2 a3 (-1)).2.1 dr (v_X4_moreOf cr rf a1 0 a2 a3 (-1)).2.2.1 kn (v_X4_moreOf cr rf a1 0 a2 a3 (-1)).2.2.2 pl pz mc) B (PO_of B) ⟨kk3, by rw [ev], by rw [ev]⟩ rfl (Nat.le_of_ble_eq_true rfl) (Nat.le_of_ble_eq_true rfl) dX4_minusYears_9
def v_X4_minusMonths (cr : Nat → TR) (rf : Int32) (a1 : Int32) (a2 : Int32) (a3 : Int32) : Int32 × (Nat → TR) × Int32 × Int32 := ((v_X4_moreOf cr rf a1 1 a2 a3 (-1)).1, (v_X4_moreOf cr rf a1 1 a2 a3 (-1)).2.1, (v_X4_moreOf cr rf a1 1 a2 a3 (-1)).2.2.1, (v_X4_moreOf cr rf a1 1 a2 a3 (-1)).2.2.2)
set_option maxHeartbeats 4000000 in
set_option maxRecDepth 100000 in
theorem c_X4_minusMonths (l : Launch) (g : GG) (N : Nat) (ad : Nat → Nat) (y : Nat → va_E) (cr dr : Nat → TR) (th kn rf : Int32) (pl : Nat → TR) (pz : Nat) (mc : Int32) (hN : 36 + pz ≤ N) (b0 : Nat) (hb0 : ad 24 = b0) (a1 : Int32) (a2 : Int32) (a3 : Int32) : KI l yX4_minusMonths cX4_minusMonths 4 (some .int) (rm 3 2 6) g [.ref b0, .int a1, .int a2, .int a3] N ad (mg g ad y cr dr th kn rf pl pz mc) N (fun r ad' f' => (∀ k, k < N → k < 28 ∨ 36 ≤ k → ad' k = ad k) ∧ (v_X4_minusMonths cr rf a1 a2 a3).1 = r ∧ mg g ad' y (v_X4_minusMonths cr rf a1 a2 a3).2.1 dr (v_X4_minusMonths cr rf a1 a2 a3).2.2.1 kn (v_X4_minusMonths cr rf a1 a2 a3).2.2.2 pl pz mc = f') := by
  intro sz
  refine mt_start (by decide) (Nat.le_of_ble_eq_true rfl) ?_
  intro p e s m args below meth c hsz X hr hnam hA hK hT H locs B ls hl
  obtain ⟨hx, hb, hml, hown, hts, hlocks⟩ := id X
  have hl : lv_has ls 4 [(0, .ref b0), (1, .int a1), (2, .int a2), (3, .int a3)] := hl
  refine lv_aload_n hx hb dX4_minusMonths_0 rfl (lv_at hl 0 rfl) ?_
  refine lv_iload_n hx hb dX4_minusMonths_1 rfl (lv_at hl 1 rfl) ?_
  refine lv_iconst (v := 1) hx hb dX4_minusMonths_2 (by decide) ?_
  refine lv_iload_n hx hb dX4_minusMonths_3 rfl (lv_at hl 2 rfl) ?_
  refine lv_iload_n hx hb dX4_minusMonths_4 rfl (lv_at hl 3 rfl) ?_
  refine lv_iconst (v := (-1)) hx hb dX4_minusMonths_5 (by decide) ?_
  refine k_i (k := 2) (n := 6) hA B (b_V (q := 24) (rest := []) hb0 X (c_X4_moreOf l g N ad y cr dr th kn rf pl pz mc (by omega) b0 hb0 a1 1 a2 a3 (-1) H.size) mw_X4_moreOf md_X4_moreOf rfl lk_X4_117 ⟨Nat.le_of_ble_eq_true rfl, Nat.le_of_ble_eq_true rfl⟩ hA hK hT B (by omega) mg_24 rfl rfl hl.1 rfl (Nat.le_of_ble_eq_true rfl) dX4_minusMonths_6 ⟨Nat.le_of_ble_eq_true rfl, Nat.le_of_ble_eq_true rfl⟩) (Nat.le_of_ble_eq_true rfl) (Nat.le_of_ble_eq_true rfl) (fun r1 ad1 f' H locs hw B => ?_)
  dsimp only at hw
  obtain ⟨mv2, rfl, rfl⟩ := hw
  have kk3 : ∀ k, k < N → k < 28 ∨ 36 ≤ k → ad1 k = ad k := fun k hk hkq => (mv2 k (by omega) hkq).trans (rfl.trans rfl)
  have nb4 : ad1 24 = b0 := (mv2 24 (by omega) (Or.inl (by decide))).trans hb0
  have ev := (show v_X4_minusMonths cr rf a1 a2 a3 = ((v_X4_moreOf cr rf a1 1 a2 a3 (-1)).1, (v_X4_moreOf cr rf a1 1 a2 a3 (-1)).2.1, (v_X4_moreOf cr rf a1 1 a2 a3 (-1)).2.2.1, (v_X4_moreOf cr rf a1 1 a2 a3 (-1)).2.2.2) from rfl)
  exact rt_i X hr (ad1, mg g ad1 y (v_X4_moreOf cr rf a1 1 a2 a3 (-1)).2.1 dr (v_X4_moreOf cr rf a1 1 a2 a3 (-1)).2.2.1 kn (v_X4_moreOf cr rf a1 1 a2 a3 (-1)).2.2.2 pl pz mc) B (PO_of B) ⟨kk3, by rw [ev], by rw [ev]⟩ rfl (Nat.le_of_ble_eq_true rfl) (Nat.le_of_ble_eq_true rfl) dX4_minusMonths_9
def v_X4_minusDays (cr : Nat → TR) (rf : Int32) (a1 : Int32) (a2 : Int32) (a3 : Int32) : Int32 × (Nat → TR) × Int32 × Int32 := ((v_X4_moreOf cr rf a1 2 a2 a3 (-1)).1, (v_X4_moreOf cr rf a1 2 a2 a3 (-1)).2.1, (v_X4_moreOf cr rf a1 2 a2 a3 (-1)).2.2.1, (v_X4_moreOf cr rf a1 2 a2 a3 (-1)).2.2.2)
set_option maxHeartbeats 4000000 in
set_option maxRecDepth 100000 in
theorem c_X4_minusDays (l : Launch) (g : GG) (N : Nat) (ad : Nat → Nat) (y : Nat → va_E) (cr dr : Nat → TR) (th kn rf : Int32) (pl : Nat → TR) (pz : Nat) (mc : Int32) (hN : 36 + pz ≤ N) (b0 : Nat) (hb0 : ad 24 = b0) (a1 : Int32) (a2 : Int32) (a3 : Int32) : KI l yX4_minusDays cX4_minusDays 4 (some .int) (rm 3 2 6) g [.ref b0, .int a1, .int a2, .int a3] N ad (mg g ad y cr dr th kn rf pl pz mc) N (fun r ad' f' => (∀ k, k < N → k < 28 ∨ 36 ≤ k → ad' k = ad k) ∧ (v_X4_minusDays cr rf a1 a2 a3).1 = r ∧ mg g ad' y (v_X4_minusDays cr rf a1 a2 a3).2.1 dr (v_X4_minusDays cr rf a1 a2 a3).2.2.1 kn (v_X4_minusDays cr rf a1 a2 a3).2.2.2 pl pz mc = f') := by
  intro sz
  refine mt_start (by decide) (Nat.le_of_ble_eq_true rfl) ?_
  intro p e s m args below meth c hsz X hr hnam hA hK hT H locs B ls hl
  obtain ⟨hx, hb, hml, hown, hts, hlocks⟩ := id X
  have hl : lv_has ls 4 [(0, .ref b0), (1, .int a1), (2, .int a2), (3, .int a3)] := hl
  refine lv_aload_n hx hb dX4_minusDays_0 rfl (lv_at hl 0 rfl) ?_
  refine lv_iload_n hx hb dX4_minusDays_1 rfl (lv_at hl 1 rfl) ?_
  refine lv_iconst (v := 2) hx hb dX4_minusDays_2 (by decide) ?_
  refine lv_iload_n hx hb dX4_minusDays_3 rfl (lv_at hl 2 rfl) ?_
  refine lv_iload_n hx hb dX4_minusDays_4 rfl (lv_at hl 3 rfl) ?_
  refine lv_iconst (v := (-1)) hx hb dX4_minusDays_5 (by decide) ?_
  refine k_i (k := 2) (n := 6) hA B (b_V (q := 24) (rest := []) hb0 X (c_X4_moreOf l g N ad y cr dr th kn rf pl pz mc (by omega) b0 hb0 a1 2 a2 a3 (-1) H.size) mw_X4_moreOf md_X4_moreOf rfl lk_X4_117 ⟨Nat.le_of_ble_eq_true rfl, Nat.le_of_ble_eq_true rfl⟩ hA hK hT B (by omega) mg_24 rfl rfl hl.1 rfl (Nat.le_of_ble_eq_true rfl) dX4_minusDays_6 ⟨Nat.le_of_ble_eq_true rfl, Nat.le_of_ble_eq_true rfl⟩) (Nat.le_of_ble_eq_true rfl) (Nat.le_of_ble_eq_true rfl) (fun r1 ad1 f' H locs hw B => ?_)
  dsimp only at hw
  obtain ⟨mv2, rfl, rfl⟩ := hw
  have kk3 : ∀ k, k < N → k < 28 ∨ 36 ≤ k → ad1 k = ad k := fun k hk hkq => (mv2 k (by omega) hkq).trans (rfl.trans rfl)
  have nb4 : ad1 24 = b0 := (mv2 24 (by omega) (Or.inl (by decide))).trans hb0
  have ev := (show v_X4_minusDays cr rf a1 a2 a3 = ((v_X4_moreOf cr rf a1 2 a2 a3 (-1)).1, (v_X4_moreOf cr rf a1 2 a2 a3 (-1)).2.1, (v_X4_moreOf cr rf a1 2 a2 a3 (-1)).2.2.1, (v_X4_moreOf cr rf a1 2 a2 a3 (-1)).2.2.2) from rfl)
  exact rt_i X hr (ad1, mg g ad1 y (v_X4_moreOf cr rf a1 2 a2 a3 (-1)).2.1 dr (v_X4_moreOf cr rf a1 2 a2 a3 (-1)).2.2.1 kn (v_X4_moreOf cr rf a1 2 a2 a3 (-1)).2.2.2 pl pz mc) B (PO_of B) ⟨kk3, by rw [ev], by rw [ev]⟩ rfl (Nat.le_of_ble_eq_true rfl) (Nat.le_of_ble_eq_true rfl) dX4_minusDays_9
def v_X4_plus (cr : Nat → TR) (rf : Int32) (a1 : Int32) (a2 : Int32) : Int32 × (Nat → TR) × Int32 × Int32 := if (v_X4_isNone a1) = 0 then (if (v_X4_isNone a2) = 0 then (om (v_X4_sum (cr a1.toNatClampNeg) 1 (cr a2.toNatClampNeg)) ((v_X4_getN rf).1, cr, 0, (v_X4_getN rf).2) (fun t8 => ((v_X4_get cr a1 t8).1, (v_X4_get cr a1 t8).2, 0, rf))) else (0, cr, 1, rf)) else (0, cr, 1, rf)
set_option maxHeartbeats 4000000 in
set_option maxRecDepth 100000 in
theorem c_X4_plus (l : Launch) (g : GG) (N : Nat) (ad : Nat → Nat) (y : Nat → va_E) (cr dr : Nat → TR) (th kn rf : Int32) (pl : Nat → TR) (pz : Nat) (mc : Int32) (hN : 36 + pz ≤ N) (b0 : Nat) (hb0 : ad 24 = b0) (a1 : Int32) (a2 : Int32) : KI l yX4_plus cX4_plus 3 (some .int) (rm 3 2 6) g [.ref b0, .int a1, .int a2] N ad (mg g ad y cr dr th kn rf pl pz mc) N (fun r ad' f' => (∀ k, k < N → k < 28 ∨ 36 ≤ k → ad' k = ad k) ∧ (v_X4_plus cr rf a1 a2).1 = r ∧ mg g ad' y (v_X4_plus cr rf a1 a2).2.1 dr (v_X4_plus cr rf a1 a2).2.2.1 kn (v_X4_plus cr rf a1 a2).2.2.2 pl pz mc = f') := by
  intro sz
  refine mt_start (by decide) (Nat.le_of_ble_eq_true rfl) ?_
  intro p e s m args below meth c hsz X hr hnam hA hK hT H locs B ls hl
  obtain ⟨hx, hb, hml, hown, hts, hlocks⟩ := id X
  have hl : lv_has ls 3 [(0, .ref b0), (1, .int a1), (2, .int a2)] := hl
  refine lv_aload_n hx hb dX4_plus_0 rfl (lv_at hl 0 rfl) ?_
  refine lv_iload_n hx hb dX4_plus_1 rfl (lv_at hl 1 rfl) ?_
  refine k_i (k := 0) (n := 0) hA B (u_S (rest := [.ref b0]) X (c_X4_isNone l g N ad (mg g ad y cr dr th kn rf pl pz mc) a1 H.size) mw_X4_isNone md_X4_isNone rfl lk_X4_95 ⟨Nat.le_of_ble_eq_true rfl, Nat.le_of_ble_eq_true rfl⟩ hA hK hT B hl.1 rfl (Nat.le_of_ble_eq_true rfl) dX4_plus_2 ⟨Nat.le_of_ble_eq_true rfl, Nat.le_of_ble_eq_true rfl⟩) (Nat.le_of_ble_eq_true rfl) (Nat.le_of_ble_eq_true rfl) (fun r1 ad1 f' H locs hw B => ?_)
  obtain ⟨rfl, rfl, rfl⟩ := hw
  refine lv_if_ne (tgt := 15) hx hb dX4_plus_5 (by decide) (fun c2 => ?_) (fun c2 => ?_)
  · refine lv_iconst (v := 1) hx hb dX4_plus_15 (by decide) ?_
    refine lv_goto (tgt := 20) hx hb dX4_plus_16 (by decide) ?_
    refine lv_iconst (v := 0) hx hb dX4_plus_20 (by decide) ?_
    refine k_i (k := 0) (n := 0) hA B (b_V (q := 24) (rest := []) hb0 X (c_X4_stops l g N ad y cr dr th kn rf pl pz mc (by omega) b0 hb0 1 0 H.size) mw_X4_stops md_X4_stops rfl lk_X4_99 ⟨Nat.le_of_ble_eq_true rfl, Nat.le_of_ble_eq_true rfl⟩ hA hK hT B (by omega) mg_24 rfl rfl hl.1 rfl (Nat.le_of_ble_eq_true rfl) dX4_plus_21 ⟨Nat.le_of_ble_eq_true rfl, Nat.le_of_ble_eq_true rfl⟩) (Nat.le_of_ble_eq_true rfl) (Nat.le_of_ble_eq_true rfl) (fun r ad' f' H locs hw B => ?_)
    rw [st_10] at hw
    dsimp only at hw
    obtain ⟨rfl, rfl, rfl⟩ := hw
    have B : WB g (aw N ad sz) s.heap N ad (mg g ad y cr dr 1 kn rf pl pz mc) H locs := B
    refine lv_if_eq (tgt := 31) hx hb dX4_plus_24 (by decide) (fun z => absurd z (by decide)) (fun _ => ?_)
    refine lv_iconst (v := 0) hx hb dX4_plus_27 (by decide) ?_
    refine lv_goto (tgt := 52) hx hb dX4_plus_28 (by decide) ?_
    have ev := (show v_X4_plus cr rf a1 a2 = (0, cr, 1, rf) from by unfold v_X4_plus; rw [if_neg c2])
    exact rt_i X hr (ad, mg g ad y cr dr 1 kn rf pl pz mc) B (PO_of B) ⟨(fun _ _ _ => rfl), by rw [ev], by rw [ev]⟩ rfl (Nat.le_of_ble_eq_true rfl) (Nat.le_of_ble_eq_true rfl) dX4_plus_52
  · refine lv_iload_n hx hb dX4_plus_8 rfl (lv_at hl 2 rfl) ?_
    refine k_i (k := 0) (n := 0) hA B (u_S (rest := [.ref b0]) X (c_X4_isNone l g N ad (mg g ad y cr dr th kn rf pl pz mc) a2 H.size) mw_X4_isNone md_X4_isNone rfl lk_X4_95 ⟨Nat.le_of_ble_eq_true rfl, Nat.le_of_ble_eq_true rfl⟩ hA hK hT B hl.1 rfl (Nat.le_of_ble_eq_true rfl) dX4_plus_9 ⟨Nat.le_of_ble_eq_true rfl, Nat.le_of_ble_eq_true rfl⟩) (Nat.le_of_ble_eq_true rfl) (Nat.le_of_ble_eq_true rfl) (fun r3 ad3 f' H locs hw B => ?_)
    obtain ⟨rfl, rfl, rfl⟩ := hw
    refine lv_if_eq (tgt := 19) hx hb dX4_plus_12 (by decide) (fun c4 => ?_) (fun c4 => ?_)
    · refine lv_iconst (v := 0) hx hb dX4_plus_19 (by decide) ?_
      refine lv_iconst (v := 0) hx hb dX4_plus_20 (by decide) ?_
      refine k_i (k := 0) (n := 0) hA B (b_V (q := 24) (rest := []) hb0 X (c_X4_stops l g N ad y cr dr th kn rf pl pz mc (by omega) b0 hb0 0 0 H.size) mw_X4_stops md_X4_stops rfl lk_X4_99 ⟨Nat.le_of_ble_eq_true rfl, Nat.le_of_ble_eq_true rfl⟩ hA hK hT B (by omega) mg_24 rfl rfl hl.1 rfl (Nat.le_of_ble_eq_true rfl) dX4_plus_21 ⟨Nat.le_of_ble_eq_true rfl, Nat.le_of_ble_eq_true rfl⟩) (Nat.le_of_ble_eq_true rfl) (Nat.le_of_ble_eq_true rfl) (fun r ad' f' H locs hw B => ?_)
      rw [st_00] at hw
      dsimp only at hw
      obtain ⟨rfl, rfl, rfl⟩ := hw
      have B : WB g (aw N ad sz) s.heap N ad (mg g ad y cr dr 0 kn rf pl pz mc) H locs := B
      refine lv_if_eq (tgt := 31) hx hb dX4_plus_24 (by decide) (fun _ => ?_) (fun z => absurd z (by decide))
      refine lv_aload_n hx hb dX4_plus_31 rfl (lv_at hl 0 rfl) ?_
      refine lv_iload_n hx hb dX4_plus_32 rfl (lv_at hl 1 rfl) ?_
      refine lv_aload_n hx hb dX4_plus_33 rfl (lv_at hl 0 rfl) ?_
      refine b_get (q := 24) (k := 1) hb0 X hK B rfl in_X4 (by omega) mg_24 (by decide) lk_X4_11 rfl rfl dX4_plus_34 ?_
      refine lv_iload_n hx hb dX4_plus_37 rfl (lv_at hl 1 rfl) ?_
      refine b_aald (q := 25) (t0 := 2) (v := ad (28 + a1.toNatClampNeg)) rfl X hK B (by omega) mg_25 rfl rfl (no_in c2) rfl dX4_plus_38 ?_
      have g5 : a1.toNatClampNeg < 4 := (no_lt c2)
      refine lv_lconst (v := 1) hx hb dX4_plus_39 (by decide) ?_
      refine lv_aload_n hx hb dX4_plus_40 rfl (lv_at hl 0 rfl) ?_
      refine b_get (q := 24) (k := 1) hb0 X hK B rfl in_X4 (by omega) mg_24 (by decide) lk_X4_11 rfl rfl dX4_plus_41 ?_
      refine lv_iload_n hx hb dX4_plus_44 rfl (lv_at hl 2 rfl) ?_
      refine b_aald (q := 25) (t0 := 2) (v := ad (28 + a2.toNatClampNeg)) rfl X hK B (by omega) mg_25 rfl rfl (no_in c4) rfl dX4_plus_45 ?_
      have g6 : a2.toNatClampNeg < 4 := (no_lt c4)
      refine k_r (k := 1) (n := 3) hA B (u_S (rest := [.int a1, .ref b0]) X (c_X4_sum l g N ad (mg g ad y cr dr 0 kn rf pl pz mc) (28 + a1.toNatClampNeg) (ad (28 + a1.toNatClampNeg)) (cr a1.toNatClampNeg) (pl_cr hN g5) rfl (mg_cr g5) 1 (28 + a2.toNatClampNeg) (ad (28 + a2.toNatClampNeg)) (cr a2.toNatClampNeg) (pl_cr hN g6) rfl (mg_cr g6) H.size) mw_X4_sum md_X4_sum rfl lk_X4_57 ⟨Nat.le_of_ble_eq_true rfl, Nat.le_of_ble_eq_true rfl⟩ hA hK hT B hl.1 rfl (Nat.le_of_ble_eq_true rfl) dX4_plus_46 ⟨Nat.le_of_ble_eq_true rfl, Nat.le_of_ble_eq_true rfl⟩) (Nat.le_of_ble_eq_true rfl) (Nat.le_of_ble_eq_true rfl) (fun r7 ad7 f' H locs hw B => ?_)
      generalize o8 : (v_X4_sum (cr a1.toNatClampNeg) 1 (cr a2.toNatClampNeg)) = v9 at hw B
      cases v9 with
      | none =>
        obtain ⟨rfl, rfl, rfl⟩ := pw_n hw
        refine k_i (k := 1) (n := 3) hA B (b_V (q := 24) (rest := []) hb0 X (c_X4_getN l g N ad y cr dr 0 kn rf pl pz mc (by omega) b0 hb0 a1 H.size) mw_X4_get md_X4_get rfl lk_X4_103 ⟨Nat.le_of_ble_eq_true rfl, Nat.le_of_ble_eq_true rfl⟩ hA hK hT B (by omega) mg_24 rfl rfl hl.1 rfl (Nat.le_of_ble_eq_true rfl) dX4_plus_49 ⟨Nat.le_of_ble_eq_true rfl, Nat.le_of_ble_eq_true rfl⟩) (Nat.le_of_ble_eq_true rfl) (Nat.le_of_ble_eq_true rfl) (fun r9 ad9 f' H locs hw B => ?_)
        obtain ⟨rfl, rfl, rfl⟩ := hw
        have ev := (show v_X4_plus cr rf a1 a2 = ((v_X4_getN rf).1, cr, 0, (v_X4_getN rf).2) from by unfold v_X4_plus; rw [if_pos c2, if_pos c4, om_none o8])
        exact rt_i X hr (ad, mg g ad y cr dr 0 kn (v_X4_getN rf).2 pl pz mc) B (PO_of B) ⟨(fun _ _ _ => rfl), by rw [ev], by rw [ev]⟩ rfl (Nat.le_of_ble_eq_true rfl) (Nat.le_of_ble_eq_true rfl) dX4_plus_52
      | some t8 =>
        obtain ⟨z8, rfl, rfl, rfl⟩ := pw_s hw
        have B : WB g (aw N ad sz) s.heap (N + 1) (va_up ad N z8) (mg g (va_up ad N z8) (va_up y N (c_row g t8)) cr dr 0 kn rf pl pz mc) H locs := WM_push (by omega) B
        refine k_i (k := 2) (n := 6) hA B (b_V (q := 24) (rest := []) ((up_lt (by omega)).trans hb0) X (c_X4_get l g (N + 1) (va_up ad N z8) (va_up y N (c_row g t8)) cr dr 0 kn rf pl pz mc (by omega) b0 ((up_lt (by omega)).trans hb0) a1 N z8 t8 (Nat.lt_succ_self _) up_eq ((mg_hi (by omega)).trans up_eq) c2 H.size) mw_X4_get md_X4_get rfl lk_X4_103 ⟨Nat.le_of_ble_eq_true rfl, Nat.le_of_ble_eq_true rfl⟩ hA hK hT B (by omega) mg_24 rfl rfl hl.1 rfl (Nat.le_of_ble_eq_true rfl) dX4_plus_49 ⟨Nat.le_of_ble_eq_true rfl, Nat.le_of_ble_eq_true rfl⟩) (Nat.le_of_ble_eq_true rfl) (Nat.le_of_ble_eq_true rfl) (fun r10 ad10 f' H locs hw B => ?_)
        dsimp only at hw
        obtain ⟨mv11, rfl, rfl⟩ := hw
        have B : WB g (aw N ad sz) s.heap N ad10 (mg g ad10 y (v_X4_get cr a1 t8).2 dr 0 kn rf pl pz mc) H locs := WM_drop B (by omega) (by omega) (fun _ _ => rfl) (fun _ hk => (up_lt hk))
        have kk12 : ∀ k, k < N → k < 28 ∨ 36 ≤ k → ad10 k = ad k := fun k hk hkq => (mv11 k (by omega) hkq).trans (((fun _ hk => (up_lt hk)) k hk).trans rfl)
        have nb13 : ad10 24 = b0 := (mv11 24 (by omega) (Or.inl (by decide))).trans ((up_lt (by omega)).trans hb0)
        have ev := (show v_X4_plus cr rf a1 a2 = ((v_X4_get cr a1 t8).1, (v_X4_get cr a1 t8).2, 0, rf) from by unfold v_X4_plus; rw [if_pos c2, if_pos c4, om_some o8])
        exact rt_i X hr (ad10, mg g ad10 y (v_X4_get cr a1 t8).2 dr 0 kn rf pl pz mc) B (PO_of B) ⟨kk12, by rw [ev], by rw [ev]⟩ rfl (Nat.le_of_ble_eq_true rfl) (Nat.le_of_ble_eq_true rfl) dX4_plus_52
    · refine lv_iconst (v := 1) hx hb dX4_plus_15 (by decide) ?_
      refine lv_goto (tgt := 20) hx hb dX4_plus_16 (by decide) ?_
      refine lv_iconst (v := 0) hx hb dX4_plus_20 (by decide) ?_
      refine k_i (k := 0) (n := 0) hA B (b_V (q := 24) (rest := []) hb0 X (c_X4_stops l g N ad y cr dr th kn rf pl pz mc (by omega) b0 hb0 1 0 H.size) mw_X4_stops md_X4_stops rfl lk_X4_99 ⟨Nat.le_of_ble_eq_true rfl, Nat.le_of_ble_eq_true rfl⟩ hA hK hT B (by omega) mg_24 rfl rfl hl.1 rfl (Nat.le_of_ble_eq_true rfl) dX4_plus_21 ⟨Nat.le_of_ble_eq_true rfl, Nat.le_of_ble_eq_true rfl⟩) (Nat.le_of_ble_eq_true rfl) (Nat.le_of_ble_eq_true rfl) (fun r ad' f' H locs hw B => ?_)
      rw [st_10] at hw
      dsimp only at hw
      obtain ⟨rfl, rfl, rfl⟩ := hw
      have B : WB g (aw N ad sz) s.heap N ad (mg g ad y cr dr 1 kn rf pl pz mc) H locs := B
      refine lv_if_eq (tgt := 31) hx hb dX4_plus_24 (by decide) (fun z => absurd z (by decide)) (fun _ => ?_)
      refine lv_iconst (v := 0) hx hb dX4_plus_27 (by decide) ?_
      refine lv_goto (tgt := 52) hx hb dX4_plus_28 (by decide) ?_
      have ev := (show v_X4_plus cr rf a1 a2 = (0, cr, 1, rf) from by unfold v_X4_plus; rw [if_pos c2, if_neg c4])
      exact rt_i X hr (ad, mg g ad y cr dr 1 kn rf pl pz mc) B (PO_of B) ⟨(fun _ _ _ => rfl), by rw [ev], by rw [ev]⟩ rfl (Nat.le_of_ble_eq_true rfl) (Nat.le_of_ble_eq_true rfl) dX4_plus_52
def v_X4_minus (cr : Nat → TR) (rf : Int32) (a1 : Int32) (a2 : Int32) : Int32 × (Nat → TR) × Int32 × Int32 := if (v_X4_isNone a1) = 0 then (if (v_X4_isNone a2) = 0 then (om (v_X4_sum (cr a1.toNatClampNeg) (-1) (cr a2.toNatClampNeg)) ((v_X4_getN rf).1, cr, 0, (v_X4_getN rf).2) (fun t8 => ((v_X4_get cr a1 t8).1, (v_X4_get cr a1 t8).2, 0, rf))) else (0, cr, 1, rf)) else (0, cr, 1, rf)
set_option maxHeartbeats 4000000 in
set_option maxRecDepth 100000 in
theorem c_X4_minus (l : Launch) (g : GG) (N : Nat) (ad : Nat → Nat) (y : Nat → va_E) (cr dr : Nat → TR) (th kn rf : Int32) (pl : Nat → TR) (pz : Nat) (mc : Int32) (hN : 36 + pz ≤ N) (b0 : Nat) (hb0 : ad 24 = b0) (a1 : Int32) (a2 : Int32) : KI l yX4_minus cX4_minus 3 (some .int) (rm 3 2 6) g [.ref b0, .int a1, .int a2] N ad (mg g ad y cr dr th kn rf pl pz mc) N (fun r ad' f' => (∀ k, k < N → k < 28 ∨ 36 ≤ k → ad' k = ad k) ∧ (v_X4_minus cr rf a1 a2).1 = r ∧ mg g ad' y (v_X4_minus cr rf a1 a2).2.1 dr (v_X4_minus cr rf a1 a2).2.2.1 kn (v_X4_minus cr rf a1 a2).2.2.2 pl pz mc = f') := by
  intro sz
  refine mt_start (by decide) (Nat.le_of_ble_eq_true rfl) ?_
  intro p e s m args below meth c hsz X hr hnam hA hK hT H locs B ls hl
  obtain ⟨hx, hb, hml, hown, hts, hlocks⟩ := id X
  have hl : lv_has ls 3 [(0, .ref b0), (1, .int a1), (2, .int a2)] := hl
  refine lv_aload_n hx hb dX4_minus_0 rfl (lv_at hl 0 rfl) ?_
  refine lv_iload_n hx hb dX4_minus_1 rfl (lv_at hl 1 rfl) ?_
  refine k_i (k := 0) (n := 0) hA B (u_S (rest := [.ref b0]) X (c_X4_isNone l g N ad (mg g ad y cr dr th kn rf pl pz mc) a1 H.size) mw_X4_isNone md_X4_isNone rfl lk_X4_95 ⟨Nat.le_of_ble_eq_true rfl, Nat.le_of_ble_eq_true rfl⟩ hA hK hT B hl.1 rfl (Nat.le_of_ble_eq_true rfl) dX4_minus_2 ⟨Nat.le_of_ble_eq_true rfl, Nat.le_of_ble_eq_true rfl⟩) (Nat.le_of_ble_eq_true rfl) (Nat.le_of_ble_eq_true rfl) (fun r1 ad1 f' H locs hw B => ?_)
  obtain ⟨rfl, rfl, rfl⟩ := hw
  refine lv_if_ne (tgt := 15) hx hb dX4_minus_5 (by decide) (fun c2 => ?_) (fun c2 => ?_)
  · refine lv_iconst (v := 1) hx hb dX4_minus_15 (by decide) ?_
    refine lv_goto (tgt := 20) hx hb dX4_minus_16 (by decide) ?_
    refine lv_iconst (v := 0) hx hb dX4_minus_20 (by decide) ?_
    refine k_i (k := 0) (n := 0) hA B (b_V (q := 24) (rest := []) hb0 X (c_X4_stops l g N ad y cr dr th kn rf pl pz mc (by omega) b0 hb0 1 0 H.size) mw_X4_stops md_X4_stops rfl lk_X4_99 ⟨Nat.le_of_ble_eq_true rfl, Nat.le_of_ble_eq_true rfl⟩ hA hK hT B (by omega) mg_24 rfl rfl hl.1 rfl (Nat.le_of_ble_eq_true rfl) dX4_minus_21 ⟨Nat.le_of_ble_eq_true rfl, Nat.le_of_ble_eq_true rfl⟩) (Nat.le_of_ble_eq_true rfl) (Nat.le_of_ble_eq_true rfl) (fun r ad' f' H locs hw B => ?_)
    rw [st_10] at hw
    dsimp only at hw
    obtain ⟨rfl, rfl, rfl⟩ := hw
    have B : WB g (aw N ad sz) s.heap N ad (mg g ad y cr dr 1 kn rf pl pz mc) H locs := B
    refine lv_if_eq (tgt := 31) hx hb dX4_minus_24 (by decide) (fun z => absurd z (by decide)) (fun _ => ?_)
    refine lv_iconst (v := 0) hx hb dX4_minus_27 (by decide) ?_
    refine lv_goto (tgt := 54) hx hb dX4_minus_28 (by decide) ?_
    have ev := (show v_X4_minus cr rf a1 a2 = (0, cr, 1, rf) from by unfold v_X4_minus; rw [if_neg c2])
    exact rt_i X hr (ad, mg g ad y cr dr 1 kn rf pl pz mc) B (PO_of B) ⟨(fun _ _ _ => rfl), by rw [ev], by rw [ev]⟩ rfl (Nat.le_of_ble_eq_true rfl) (Nat.le_of_ble_eq_true rfl) dX4_minus_54
  · refine lv_iload_n hx hb dX4_minus_8 rfl (lv_at hl 2 rfl) ?_
    refine k_i (k := 0) (n := 0) hA B (u_S (rest := [.ref b0]) X (c_X4_isNone l g N ad (mg g ad y cr dr th kn rf pl pz mc) a2 H.size) mw_X4_isNone md_X4_isNone rfl lk_X4_95 ⟨Nat.le_of_ble_eq_true rfl, Nat.le_of_ble_eq_true rfl⟩ hA hK hT B hl.1 rfl (Nat.le_of_ble_eq_true rfl) dX4_minus_9 ⟨Nat.le_of_ble_eq_true rfl, Nat.le_of_ble_eq_true rfl⟩) (Nat.le_of_ble_eq_true rfl) (Nat.le_of_ble_eq_true rfl) (fun r3 ad3 f' H locs hw B => ?_)
    obtain ⟨rfl, rfl, rfl⟩ := hw
    refine lv_if_eq (tgt := 19) hx hb dX4_minus_12 (by decide) (fun c4 => ?_) (fun c4 => ?_)
    · refine lv_iconst (v := 0) hx hb dX4_minus_19 (by decide) ?_
      refine lv_iconst (v := 0) hx hb dX4_minus_20 (by decide) ?_
      refine k_i (k := 0) (n := 0) hA B (b_V (q := 24) (rest := []) hb0 X (c_X4_stops l g N ad y cr dr th kn rf pl pz mc (by omega) b0 hb0 0 0 H.size) mw_X4_stops md_X4_stops rfl lk_X4_99 ⟨Nat.le_of_ble_eq_true rfl, Nat.le_of_ble_eq_true rfl⟩ hA hK hT B (by omega) mg_24 rfl rfl hl.1 rfl (Nat.le_of_ble_eq_true rfl) dX4_minus_21 ⟨Nat.le_of_ble_eq_true rfl, Nat.le_of_ble_eq_true rfl⟩) (Nat.le_of_ble_eq_true rfl) (Nat.le_of_ble_eq_true rfl) (fun r ad' f' H locs hw B => ?_)
      rw [st_00] at hw
      dsimp only at hw
      obtain ⟨rfl, rfl, rfl⟩ := hw
      have B : WB g (aw N ad sz) s.heap N ad (mg g ad y cr dr 0 kn rf pl pz mc) H locs := B
      refine lv_if_eq (tgt := 31) hx hb dX4_minus_24 (by decide) (fun _ => ?_) (fun z => absurd z (by decide))
      refine lv_aload_n hx hb dX4_minus_31 rfl (lv_at hl 0 rfl) ?_
      refine lv_iload_n hx hb dX4_minus_32 rfl (lv_at hl 1 rfl) ?_
      refine lv_aload_n hx hb dX4_minus_33 rfl (lv_at hl 0 rfl) ?_
      refine b_get (q := 24) (k := 1) hb0 X hK B rfl in_X4 (by omega) mg_24 (by decide) lk_X4_11 rfl rfl dX4_minus_34 ?_
      refine lv_iload_n hx hb dX4_minus_37 rfl (lv_at hl 1 rfl) ?_
      refine b_aald (q := 25) (t0 := 2) (v := ad (28 + a1.toNatClampNeg)) rfl X hK B (by omega) mg_25 rfl rfl (no_in c2) rfl dX4_minus_38 ?_
      have g5 : a1.toNatClampNeg < 4 := (no_lt c2)
      refine lv_ldc2 hx hb hown (hts _ (List.mem_cons_of_mem _ lk_X4_55)) dX4_minus_39 ?_
      refine lv_aload_n hx hb dX4_minus_42 rfl (lv_at hl 0 rfl) ?_
      refine b_get (q := 24) (k := 1) hb0 X hK B rfl in_X4 (by omega) mg_24 (by decide) lk_X4_11 rfl rfl dX4_minus_43 ?_
      refine lv_iload_n hx hb dX4_minus_46 rfl (lv_at hl 2 rfl) ?_
      refine b_aald (q := 25) (t0 := 2) (v := ad (28 + a2.toNatClampNeg)) rfl X hK B (by omega) mg_25 rfl rfl (no_in c4) rfl dX4_minus_47 ?_
      have g6 : a2.toNatClampNeg < 4 := (no_lt c4)
      refine k_r (k := 1) (n := 3) hA B (u_S (rest := [.int a1, .ref b0]) X (c_X4_sum l g N ad (mg g ad y cr dr 0 kn rf pl pz mc) (28 + a1.toNatClampNeg) (ad (28 + a1.toNatClampNeg)) (cr a1.toNatClampNeg) (pl_cr hN g5) rfl (mg_cr g5) (-1) (28 + a2.toNatClampNeg) (ad (28 + a2.toNatClampNeg)) (cr a2.toNatClampNeg) (pl_cr hN g6) rfl (mg_cr g6) H.size) mw_X4_sum md_X4_sum rfl lk_X4_57 ⟨Nat.le_of_ble_eq_true rfl, Nat.le_of_ble_eq_true rfl⟩ hA hK hT B hl.1 rfl (Nat.le_of_ble_eq_true rfl) dX4_minus_48 ⟨Nat.le_of_ble_eq_true rfl, Nat.le_of_ble_eq_true rfl⟩) (Nat.le_of_ble_eq_true rfl) (Nat.le_of_ble_eq_true rfl) (fun r7 ad7 f' H locs hw B => ?_)
      generalize o8 : (v_X4_sum (cr a1.toNatClampNeg) (-1) (cr a2.toNatClampNeg)) = v9 at hw B
      cases v9 with
      | none =>
        obtain ⟨rfl, rfl, rfl⟩ := pw_n hw
        refine k_i (k := 1) (n := 3) hA B (b_V (q := 24) (rest := []) hb0 X (c_X4_getN l g N ad y cr dr 0 kn rf pl pz mc (by omega) b0 hb0 a1 H.size) mw_X4_get md_X4_get rfl lk_X4_103 ⟨Nat.le_of_ble_eq_true rfl, Nat.le_of_ble_eq_true rfl⟩ hA hK hT B (by omega) mg_24 rfl rfl hl.1 rfl (Nat.le_of_ble_eq_true rfl) dX4_minus_51 ⟨Nat.le_of_ble_eq_true rfl, Nat.le_of_ble_eq_true rfl⟩) (Nat.le_of_ble_eq_true rfl) (Nat.le_of_ble_eq_true rfl) (fun r9 ad9 f' H locs hw B => ?_)
        obtain ⟨rfl, rfl, rfl⟩ := hw
        have ev := (show v_X4_minus cr rf a1 a2 = ((v_X4_getN rf).1, cr, 0, (v_X4_getN rf).2) from by unfold v_X4_minus; rw [if_pos c2, if_pos c4, om_none o8])
        exact rt_i X hr (ad, mg g ad y cr dr 0 kn (v_X4_getN rf).2 pl pz mc) B (PO_of B) ⟨(fun _ _ _ => rfl), by rw [ev], by rw [ev]⟩ rfl (Nat.le_of_ble_eq_true rfl) (Nat.le_of_ble_eq_true rfl) dX4_minus_54
      | some t8 =>
        obtain ⟨z8, rfl, rfl, rfl⟩ := pw_s hw
        have B : WB g (aw N ad sz) s.heap (N + 1) (va_up ad N z8) (mg g (va_up ad N z8) (va_up y N (c_row g t8)) cr dr 0 kn rf pl pz mc) H locs := WM_push (by omega) B
        refine k_i (k := 2) (n := 6) hA B (b_V (q := 24) (rest := []) ((up_lt (by omega)).trans hb0) X (c_X4_get l g (N + 1) (va_up ad N z8) (va_up y N (c_row g t8)) cr dr 0 kn rf pl pz mc (by omega) b0 ((up_lt (by omega)).trans hb0) a1 N z8 t8 (Nat.lt_succ_self _) up_eq ((mg_hi (by omega)).trans up_eq) c2 H.size) mw_X4_get md_X4_get rfl lk_X4_103 ⟨Nat.le_of_ble_eq_true rfl, Nat.le_of_ble_eq_true rfl⟩ hA hK hT B (by omega) mg_24 rfl rfl hl.1 rfl (Nat.le_of_ble_eq_true rfl) dX4_minus_51 ⟨Nat.le_of_ble_eq_true rfl, Nat.le_of_ble_eq_true rfl⟩) (Nat.le_of_ble_eq_true rfl) (Nat.le_of_ble_eq_true rfl) (fun r10 ad10 f' H locs hw B => ?_)
        dsimp only at hw
        obtain ⟨mv11, rfl, rfl⟩ := hw
        have B : WB g (aw N ad sz) s.heap N ad10 (mg g ad10 y (v_X4_get cr a1 t8).2 dr 0 kn rf pl pz mc) H locs := WM_drop B (by omega) (by omega) (fun _ _ => rfl) (fun _ hk => (up_lt hk))
        have kk12 : ∀ k, k < N → k < 28 ∨ 36 ≤ k → ad10 k = ad k := fun k hk hkq => (mv11 k (by omega) hkq).trans (((fun _ hk => (up_lt hk)) k hk).trans rfl)
        have nb13 : ad10 24 = b0 := (mv11 24 (by omega) (Or.inl (by decide))).trans ((up_lt (by omega)).trans hb0)
        have ev := (show v_X4_minus cr rf a1 a2 = ((v_X4_get cr a1 t8).1, (v_X4_get cr a1 t8).2, 0, rf) from by unfold v_X4_minus; rw [if_pos c2, if_pos c4, om_some o8])
        exact rt_i X hr (ad10, mg g ad10 y (v_X4_get cr a1 t8).2 dr 0 kn rf pl pz mc) B (PO_of B) ⟨kk12, by rw [ev], by rw [ev]⟩ rfl (Nat.le_of_ble_eq_true rfl) (Nat.le_of_ble_eq_true rfl) dX4_minus_54
    · refine lv_iconst (v := 1) hx hb dX4_minus_15 (by decide) ?_
      refine lv_goto (tgt := 20) hx hb dX4_minus_16 (by decide) ?_
      refine lv_iconst (v := 0) hx hb dX4_minus_20 (by decide) ?_
      refine k_i (k := 0) (n := 0) hA B (b_V (q := 24) (rest := []) hb0 X (c_X4_stops l g N ad y cr dr th kn rf pl pz mc (by omega) b0 hb0 1 0 H.size) mw_X4_stops md_X4_stops rfl lk_X4_99 ⟨Nat.le_of_ble_eq_true rfl, Nat.le_of_ble_eq_true rfl⟩ hA hK hT B (by omega) mg_24 rfl rfl hl.1 rfl (Nat.le_of_ble_eq_true rfl) dX4_minus_21 ⟨Nat.le_of_ble_eq_true rfl, Nat.le_of_ble_eq_true rfl⟩) (Nat.le_of_ble_eq_true rfl) (Nat.le_of_ble_eq_true rfl) (fun r ad' f' H locs hw B => ?_)
      rw [st_10] at hw
      dsimp only at hw
      obtain ⟨rfl, rfl, rfl⟩ := hw
      have B : WB g (aw N ad sz) s.heap N ad (mg g ad y cr dr 1 kn rf pl pz mc) H locs := B
      refine lv_if_eq (tgt := 31) hx hb dX4_minus_24 (by decide) (fun z => absurd z (by decide)) (fun _ => ?_)
      refine lv_iconst (v := 0) hx hb dX4_minus_27 (by decide) ?_
      refine lv_goto (tgt := 54) hx hb dX4_minus_28 (by decide) ?_
      have ev := (show v_X4_minus cr rf a1 a2 = (0, cr, 1, rf) from by unfold v_X4_minus; rw [if_pos c2, if_neg c4])
      exact rt_i X hr (ad, mg g ad y cr dr 1 kn rf pl pz mc) B (PO_of B) ⟨(fun _ _ _ => rfl), by rw [ev], by rw [ev]⟩ rfl (Nat.le_of_ble_eq_true rfl) (Nat.le_of_ble_eq_true rfl) dX4_minus_54
def v_X4_multipliedBy (cr : Nat → TR) (rf : Int32) (a1 : Int32) (a2 : Int32) : Int32 × (Nat → TR) × Int32 × Int32 := if v_X4_isNone a1 = 0 then (om (v_X4_sum (v_X4_nothing) a2.toInt64 (cr a1.toNatClampNeg)) ((v_X4_getN rf).1, cr, 0, (v_X4_getN rf).2) (fun t7 => ((v_X4_get cr a1 t7).1, (v_X4_get cr a1 t7).2, 0, rf))) else (0, cr, 1, rf)
set_option maxHeartbeats 4000000 in
set_option maxRecDepth 100000 in
theorem c_X4_multipliedBy (l : Launch) (g : GG) (N : Nat) (ad : Nat → Nat) (y : Nat → va_E) (cr dr : Nat → TR) (th kn rf : Int32) (pl : Nat → TR) (pz : Nat) (mc : Int32) (hN : 36 + pz ≤ N) (b0 : Nat) (hb0 : ad 24 = b0) (a1 : Int32) (a2 : Int32) : KI l yX4_multipliedBy cX4_multipliedBy 3 (some .int) (rm 3 3 9) g [.ref b0, .int a1, .int a2] N ad (mg g ad y cr dr th kn rf pl pz mc) N (fun r ad' f' => (∀ k, k < N → k < 28 ∨ 36 ≤ k → ad' k = ad k) ∧ (v_X4_multipliedBy cr rf a1 a2).1 = r ∧ mg g ad' y (v_X4_multipliedBy cr rf a1 a2).2.1 dr (v_X4_multipliedBy cr rf a1 a2).2.2.1 kn (v_X4_multipliedBy cr rf a1 a2).2.2.2 pl pz mc = f') := by
  intro sz
  refine mt_start (by decide) (Nat.le_of_ble_eq_true rfl) ?_
  intro p e s m args below meth c hsz X hr hnam hA hK hT H locs B ls hl
  obtain ⟨hx, hb, hml, hown, hts, hlocks⟩ := id X
  have hl : lv_has ls 3 [(0, .ref b0), (1, .int a1), (2, .int a2)] := hl
  refine lv_aload_n hx hb dX4_multipliedBy_0 rfl (lv_at hl 0 rfl) ?_
  refine lv_iload_n hx hb dX4_multipliedBy_1 rfl (lv_at hl 1 rfl) ?_
  refine k_i (k := 0) (n := 0) hA B (u_S (rest := [.ref b0]) X (c_X4_isNone l g N ad (mg g ad y cr dr th kn rf pl pz mc) a1 H.size) mw_X4_isNone md_X4_isNone rfl lk_X4_95 ⟨Nat.le_of_ble_eq_true rfl, Nat.le_of_ble_eq_true rfl⟩ hA hK hT B hl.1 rfl (Nat.le_of_ble_eq_true rfl) dX4_multipliedBy_2 ⟨Nat.le_of_ble_eq_true rfl, Nat.le_of_ble_eq_true rfl⟩) (Nat.le_of_ble_eq_true rfl) (Nat.le_of_ble_eq_true rfl) (fun r1 ad1 f' H locs hw B => ?_)
  obtain ⟨rfl, rfl, rfl⟩ := hw
  refine lv_iconst (v := 0) hx hb dX4_multipliedBy_5 (by decide) ?_
  by_cases s2 : v_X4_isNone a1 = 0
  · rw [s2]
    refine k_i (k := 0) (n := 0) hA B (b_V (q := 24) (rest := []) hb0 X (c_X4_stops l g N ad y cr dr th kn rf pl pz mc (by omega) b0 hb0 0 0 H.size) mw_X4_stops md_X4_stops rfl lk_X4_99 ⟨Nat.le_of_ble_eq_true rfl, Nat.le_of_ble_eq_true rfl⟩ hA hK hT B (by omega) mg_24 rfl rfl hl.1 rfl (Nat.le_of_ble_eq_true rfl) dX4_multipliedBy_6 ⟨Nat.le_of_ble_eq_true rfl, Nat.le_of_ble_eq_true rfl⟩) (Nat.le_of_ble_eq_true rfl) (Nat.le_of_ble_eq_true rfl) (fun r ad' f' H locs hw B => ?_)
    rw [st_00] at hw
    dsimp only at hw
    obtain ⟨rfl, rfl, rfl⟩ := hw
    have B : WB g (aw N ad sz) s.heap N ad (mg g ad y cr dr 0 kn rf pl pz mc) H locs := B
    refine lv_if_eq (tgt := 16) hx hb dX4_multipliedBy_9 (by decide) (fun _ => ?_) (fun z => absurd z (by decide))
    refine lv_aload_n hx hb dX4_multipliedBy_16 rfl (lv_at hl 0 rfl) ?_
    refine lv_iload_n hx hb dX4_multipliedBy_17 rfl (lv_at hl 1 rfl) ?_
    refine k_r (k := 1) (n := 3) hA B (u_S (rest := [.int a1, .ref b0]) X (c_X4_nothing l g N ad (mg g ad y cr dr 0 kn rf pl pz mc) H.size) mw_X4_nothing md_X4_nothing rfl lk_X4_51 ⟨Nat.le_of_ble_eq_true rfl, Nat.le_of_ble_eq_true rfl⟩ hA hK hT B hl.1 rfl (Nat.le_of_ble_eq_true rfl) dX4_multipliedBy_18 ⟨Nat.le_of_ble_eq_true rfl, Nat.le_of_ble_eq_true rfl⟩) (Nat.le_of_ble_eq_true rfl) (Nat.le_of_ble_eq_true rfl) (fun r3 ad3 f' H locs hw B => ?_)
    obtain ⟨z4, rfl, rfl, rfl⟩ := hw
    have B : WB g (aw N ad sz) s.heap (N + 1) (va_up ad N z4) (mg g (va_up ad N z4) (va_up y N (c_row g (v_X4_nothing))) cr dr 0 kn rf pl pz mc) H locs := WM_push (by omega) B
    refine lv_iload_n hx hb dX4_multipliedBy_21 rfl (lv_at hl 2 rfl) ?_
    refine lv_i2l (v := a2.toInt64) hx hb dX4_multipliedBy_22 rfl ?_
    refine lv_aload_n hx hb dX4_multipliedBy_23 rfl (lv_at hl 0 rfl) ?_
    refine b_get (q := 24) (k := 1) ((up_lt (by omega)).trans hb0) X hK B rfl in_X4 (by omega) mg_24 (by decide) lk_X4_11 rfl rfl dX4_multipliedBy_24 ?_
    refine lv_iload_n hx hb dX4_multipliedBy_27 rfl (lv_at hl 1 rfl) ?_
    refine b_aald (q := 25) (t0 := 2) (v := (va_up ad N z4) (28 + a1.toNatClampNeg)) rfl X hK B (by omega) mg_25 rfl rfl (no_in s2) rfl dX4_multipliedBy_28 ?_
    have g5 : a1.toNatClampNeg < 4 := (no_lt s2)
    rw [show (va_up ad N z4) (28 + a1.toNatClampNeg) = ad (28 + a1.toNatClampNeg) from (up_lt (by omega))]
    refine k_r (k := 2) (n := 6) hA B (u_S (rest := [.int a1, .ref b0]) X (c_X4_sum l g (N + 1) (va_up ad N z4) (mg g (va_up ad N z4) (va_up y N (c_row g (v_X4_nothing))) cr dr 0 kn rf pl pz mc) N z4 (v_X4_nothing) (Nat.lt_succ_self _) up_eq ((mg_hi (by omega)).trans up_eq) a2.toInt64 (28 + a1.toNatClampNeg) (ad (28 + a1.toNatClampNeg)) (cr a1.toNatClampNeg) (Nat.lt_succ_of_lt (pl_cr hN g5)) ((up_lt (pl_cr hN g5)).trans rfl) (mg_cr g5) H.size) mw_X4_sum md_X4_sum rfl lk_X4_57 ⟨Nat.le_of_ble_eq_true rfl, Nat.le_of_ble_eq_true rfl⟩ hA hK hT B hl.1 rfl (Nat.le_of_ble_eq_true rfl) dX4_multipliedBy_29 ⟨Nat.le_of_ble_eq_true rfl, Nat.le_of_ble_eq_true rfl⟩) (Nat.le_of_ble_eq_true rfl) (Nat.le_of_ble_eq_true rfl) (fun r6 ad6 f' H locs hw B => ?_)
    generalize o7 : (v_X4_sum (v_X4_nothing) a2.toInt64 (cr a1.toNatClampNeg)) = v9 at hw B
    cases v9 with
    | none =>
      obtain ⟨rfl, rfl, rfl⟩ := pw_n hw
      refine k_i (k := 2) (n := 6) hA B (b_V (q := 24) (rest := []) ((up_lt (by omega)).trans hb0) X (c_X4_getN l g (N + 1) (va_up ad N z4) (va_up y N (c_row g (v_X4_nothing))) cr dr 0 kn rf pl pz mc (by omega) b0 ((up_lt (by omega)).trans hb0) a1 H.size) mw_X4_get md_X4_get rfl lk_X4_103 ⟨Nat.le_of_ble_eq_true rfl, Nat.le_of_ble_eq_true rfl⟩ hA hK hT B (by omega) mg_24 rfl rfl hl.1 rfl (Nat.le_of_ble_eq_true rfl) dX4_multipliedBy_32 ⟨Nat.le_of_ble_eq_true rfl, Nat.le_of_ble_eq_true rfl⟩) (Nat.le_of_ble_eq_true rfl) (Nat.le_of_ble_eq_true rfl) (fun r8 ad8 f' H locs hw B => ?_)
      obtain ⟨rfl, rfl, rfl⟩ := hw
      have B : WB g (aw N ad sz) s.heap N ad (mg g ad y cr dr 0 kn (v_X4_getN rf).2 pl pz mc) H locs := WM_drop B (by omega) (by omega) (fun _ hk => (up_lt hk)) (fun _ hk => (up_lt hk))
      have ev := (show v_X4_multipliedBy cr rf a1 a2 = ((v_X4_getN rf).1, cr, 0, (v_X4_getN rf).2) from by unfold v_X4_multipliedBy; rw [if_pos s2, om_none o7])
      exact rt_i X hr (ad, mg g ad y cr dr 0 kn (v_X4_getN rf).2 pl pz mc) B (PO_of B) ⟨(fun _ _ _ => rfl), by rw [ev], by rw [ev]⟩ rfl (Nat.le_of_ble_eq_true rfl) (Nat.le_of_ble_eq_true rfl) dX4_multipliedBy_35
    | some t7 =>
      obtain ⟨z7, rfl, rfl, rfl⟩ := pw_s hw
      have B : WB g (aw N ad sz) s.heap (N + 1 + 1) (va_up (va_up ad N z4) (N + 1) z7) (mg g (va_up (va_up ad N z4) (N + 1) z7) (va_up (va_up y N (c_row g (v_X4_nothing))) (N + 1) (c_row g t7)) cr dr 0 kn rf pl pz mc) H locs := WM_push (by omega) B
      refine k_i (k := 3) (n := 9) hA B (b_V (q := 24) (rest := []) ((up_lt (by omega)).trans ((up_lt (by omega)).trans hb0)) X (c_X4_get l g (N + 1 + 1) (va_up (va_up ad N z4) (N + 1) z7) (va_up (va_up y N (c_row g (v_X4_nothing))) (N + 1) (c_row g t7)) cr dr 0 kn rf pl pz mc (by omega) b0 ((up_lt (by omega)).trans ((up_lt (by omega)).trans hb0)) a1 (N + 1) z7 t7 (Nat.lt_succ_self _) up_eq ((mg_hi (by omega)).trans up_eq) s2 H.size) mw_X4_get md_X4_get rfl lk_X4_103 ⟨Nat.le_of_ble_eq_true rfl, Nat.le_of_ble_eq_true rfl⟩ hA hK hT B (by omega) mg_24 rfl rfl hl.1 rfl (Nat.le_of_ble_eq_true rfl) dX4_multipliedBy_32 ⟨Nat.le_of_ble_eq_true rfl, Nat.le_of_ble_eq_true rfl⟩) (Nat.le_of_ble_eq_true rfl) (Nat.le_of_ble_eq_true rfl) (fun r9 ad9 f' H locs hw B => ?_)
      dsimp only at hw
      obtain ⟨mv10, rfl, rfl⟩ := hw
      have B : WB g (aw N ad sz) s.heap N ad9 (mg g ad9 y (v_X4_get cr a1 t7).2 dr 0 kn rf pl pz mc) H locs := WM_drop B (by omega) (by omega) (fun _ _ => rfl) (fun _ hk => ((up_lt (Nat.lt_succ_of_lt hk)).trans (up_lt hk)))
      have kk11 : ∀ k, k < N → k < 28 ∨ 36 ≤ k → ad9 k = ad k := fun k hk hkq => (mv10 k (by omega) hkq).trans (((fun _ hk => ((up_lt (Nat.lt_succ_of_lt hk)).trans (up_lt hk))) k hk).trans rfl)
      have nb12 : ad9 24 = b0 := (mv10 24 (by omega) (Or.inl (by decide))).trans ((up_lt (by omega)).trans ((up_lt (by omega)).trans hb0))
      have ev := (show v_X4_multipliedBy cr rf a1 a2 = ((v_X4_get cr a1 t7).1, (v_X4_get cr a1 t7).2, 0, rf) from by unfold v_X4_multipliedBy; rw [if_pos s2, om_some o7])
      exact rt_i X hr (ad9, mg g ad9 y (v_X4_get cr a1 t7).2 dr 0 kn rf pl pz mc) B (PO_of B) ⟨kk11, by rw [ev], by rw [ev]⟩ rfl (Nat.le_of_ble_eq_true rfl) (Nat.le_of_ble_eq_true rfl) dX4_multipliedBy_35
  · have s2x : (v_X4_isNone a1) = 1 := (b01_X4_isNone).resolve_left s2
    rw [s2x]
    refine k_i (k := 0) (n := 0) hA B (b_V (q := 24) (rest := []) hb0 X (c_X4_stops l g N ad y cr dr th kn rf pl pz mc (by omega) b0 hb0 1 0 H.size) mw_X4_stops md_X4_stops rfl lk_X4_99 ⟨Nat.le_of_ble_eq_true rfl, Nat.le_of_ble_eq_true rfl⟩ hA hK hT B (by omega) mg_24 rfl rfl hl.1 rfl (Nat.le_of_ble_eq_true rfl) dX4_multipliedBy_6 ⟨Nat.le_of_ble_eq_true rfl, Nat.le_of_ble_eq_true rfl⟩) (Nat.le_of_ble_eq_true rfl) (Nat.le_of_ble_eq_true rfl) (fun r ad' f' H locs hw B => ?_)
    rw [st_10] at hw
    dsimp only at hw
    obtain ⟨rfl, rfl, rfl⟩ := hw
    have B : WB g (aw N ad sz) s.heap N ad (mg g ad y cr dr 1 kn rf pl pz mc) H locs := B
    refine lv_if_eq (tgt := 16) hx hb dX4_multipliedBy_9 (by decide) (fun z => absurd z (by decide)) (fun _ => ?_)
    refine lv_iconst (v := 0) hx hb dX4_multipliedBy_12 (by decide) ?_
    refine lv_goto (tgt := 35) hx hb dX4_multipliedBy_13 (by decide) ?_
    have ev := (show v_X4_multipliedBy cr rf a1 a2 = (0, cr, 1, rf) from by unfold v_X4_multipliedBy; rw [if_neg s2])
    exact rt_i X hr (ad, mg g ad y cr dr 1 kn rf pl pz mc) B (PO_of B) ⟨(fun _ _ _ => rfl), by rw [ev], by rw [ev]⟩ rfl (Nat.le_of_ble_eq_true rfl) (Nat.le_of_ble_eq_true rfl) dX4_multipliedBy_35
def v_X4_negated (cr : Nat → TR) (rf : Int32) (a1 : Int32) : Int32 × (Nat → TR) × Int32 × Int32 := if v_X4_isNone a1 = 0 then (om (v_X4_opposed (cr a1.toNatClampNeg)) ((v_X4_getN rf).1, cr, 0, (v_X4_getN rf).2) (fun t5 => ((v_X4_get cr a1 t5).1, (v_X4_get cr a1 t5).2, 0, rf))) else (0, cr, 1, rf)
set_option maxHeartbeats 4000000 in
set_option maxRecDepth 100000 in
theorem c_X4_negated (l : Launch) (g : GG) (N : Nat) (ad : Nat → Nat) (y : Nat → va_E) (cr dr : Nat → TR) (th kn rf : Int32) (pl : Nat → TR) (pz : Nat) (mc : Int32) (hN : 36 + pz ≤ N) (b0 : Nat) (hb0 : ad 24 = b0) (a1 : Int32) : KI l yX4_negated cX4_negated 2 (some .int) (rm 4 3 9) g [.ref b0, .int a1] N ad (mg g ad y cr dr th kn rf pl pz mc) N (fun r ad' f' => (∀ k, k < N → k < 28 ∨ 36 ≤ k → ad' k = ad k) ∧ (v_X4_negated cr rf a1).1 = r ∧ mg g ad' y (v_X4_negated cr rf a1).2.1 dr (v_X4_negated cr rf a1).2.2.1 kn (v_X4_negated cr rf a1).2.2.2 pl pz mc = f') := by
  intro sz
  refine mt_start (by decide) (Nat.le_of_ble_eq_true rfl) ?_
  intro p e s m args below meth c hsz X hr hnam hA hK hT H locs B ls hl
  obtain ⟨hx, hb, hml, hown, hts, hlocks⟩ := id X
  have hl : lv_has ls 2 [(0, .ref b0), (1, .int a1)] := hl
  refine lv_aload_n hx hb dX4_negated_0 rfl (lv_at hl 0 rfl) ?_
  refine lv_iload_n hx hb dX4_negated_1 rfl (lv_at hl 1 rfl) ?_
  refine k_i (k := 0) (n := 0) hA B (u_S (rest := [.ref b0]) X (c_X4_isNone l g N ad (mg g ad y cr dr th kn rf pl pz mc) a1 H.size) mw_X4_isNone md_X4_isNone rfl lk_X4_95 ⟨Nat.le_of_ble_eq_true rfl, Nat.le_of_ble_eq_true rfl⟩ hA hK hT B hl.1 rfl (Nat.le_of_ble_eq_true rfl) dX4_negated_2 ⟨Nat.le_of_ble_eq_true rfl, Nat.le_of_ble_eq_true rfl⟩) (Nat.le_of_ble_eq_true rfl) (Nat.le_of_ble_eq_true rfl) (fun r1 ad1 f' H locs hw B => ?_)
  obtain ⟨rfl, rfl, rfl⟩ := hw
  refine lv_iconst (v := 0) hx hb dX4_negated_5 (by decide) ?_
  by_cases s2 : v_X4_isNone a1 = 0
  · rw [s2]
    refine k_i (k := 0) (n := 0) hA B (b_V (q := 24) (rest := []) hb0 X (c_X4_stops l g N ad y cr dr th kn rf pl pz mc (by omega) b0 hb0 0 0 H.size) mw_X4_stops md_X4_stops rfl lk_X4_99 ⟨Nat.le_of_ble_eq_true rfl, Nat.le_of_ble_eq_true rfl⟩ hA hK hT B (by omega) mg_24 rfl rfl hl.1 rfl (Nat.le_of_ble_eq_true rfl) dX4_negated_6 ⟨Nat.le_of_ble_eq_true rfl, Nat.le_of_ble_eq_true rfl⟩) (Nat.le_of_ble_eq_true rfl) (Nat.le_of_ble_eq_true rfl) (fun r ad' f' H locs hw B => ?_)
    rw [st_00] at hw
    dsimp only at hw
    obtain ⟨rfl, rfl, rfl⟩ := hw
    have B : WB g (aw N ad sz) s.heap N ad (mg g ad y cr dr 0 kn rf pl pz mc) H locs := B
    refine lv_if_eq (tgt := 16) hx hb dX4_negated_9 (by decide) (fun _ => ?_) (fun z => absurd z (by decide))
    refine lv_aload_n hx hb dX4_negated_16 rfl (lv_at hl 0 rfl) ?_
    refine lv_iload_n hx hb dX4_negated_17 rfl (lv_at hl 1 rfl) ?_
    refine lv_aload_n hx hb dX4_negated_18 rfl (lv_at hl 0 rfl) ?_
    refine b_get (q := 24) (k := 1) hb0 X hK B rfl in_X4 (by omega) mg_24 (by decide) lk_X4_11 rfl rfl dX4_negated_19 ?_
    refine lv_iload_n hx hb dX4_negated_22 rfl (lv_at hl 1 rfl) ?_
    refine b_aald (q := 25) (t0 := 2) (v := ad (28 + a1.toNatClampNeg)) rfl X hK B (by omega) mg_25 rfl rfl (no_in s2) rfl dX4_negated_23 ?_
    have g3 : a1.toNatClampNeg < 4 := (no_lt s2)
    refine k_r (k := 2) (n := 6) hA B (u_S (rest := [.int a1, .ref b0]) X (c_X4_opposed l g N ad (mg g ad y cr dr 0 kn rf pl pz mc) (28 + a1.toNatClampNeg) (ad (28 + a1.toNatClampNeg)) (cr a1.toNatClampNeg) (pl_cr hN g3) rfl (mg_cr g3) H.size) mw_X4_opposed md_X4_opposed rfl lk_X4_121 ⟨Nat.le_of_ble_eq_true rfl, Nat.le_of_ble_eq_true rfl⟩ hA hK hT B hl.1 rfl (Nat.le_of_ble_eq_true rfl) dX4_negated_24 ⟨Nat.le_of_ble_eq_true rfl, Nat.le_of_ble_eq_true rfl⟩) (Nat.le_of_ble_eq_true rfl) (Nat.le_of_ble_eq_true rfl) (fun r4 ad4 f' H locs hw B => ?_)
    generalize o5 : (v_X4_opposed (cr a1.toNatClampNeg)) = v9 at hw B
    cases v9 with
    | none =>
      obtain ⟨rfl, rfl, rfl⟩ := pw_n hw
      refine k_i (k := 2) (n := 6) hA B (b_V (q := 24) (rest := []) hb0 X (c_X4_getN l g N ad y cr dr 0 kn rf pl pz mc (by omega) b0 hb0 a1 H.size) mw_X4_get md_X4_get rfl lk_X4_103 ⟨Nat.le_of_ble_eq_true rfl, Nat.le_of_ble_eq_true rfl⟩ hA hK hT B (by omega) mg_24 rfl rfl hl.1 rfl (Nat.le_of_ble_eq_true rfl) dX4_negated_27 ⟨Nat.le_of_ble_eq_true rfl, Nat.le_of_ble_eq_true rfl⟩) (Nat.le_of_ble_eq_true rfl) (Nat.le_of_ble_eq_true rfl) (fun r6 ad6 f' H locs hw B => ?_)
      obtain ⟨rfl, rfl, rfl⟩ := hw
      have ev := (show v_X4_negated cr rf a1 = ((v_X4_getN rf).1, cr, 0, (v_X4_getN rf).2) from by unfold v_X4_negated; rw [if_pos s2, om_none o5])
      exact rt_i X hr (ad, mg g ad y cr dr 0 kn (v_X4_getN rf).2 pl pz mc) B (PO_of B) ⟨(fun _ _ _ => rfl), by rw [ev], by rw [ev]⟩ rfl (Nat.le_of_ble_eq_true rfl) (Nat.le_of_ble_eq_true rfl) dX4_negated_30
    | some t5 =>
      obtain ⟨z5, rfl, rfl, rfl⟩ := pw_s hw
      have B : WB g (aw N ad sz) s.heap (N + 1) (va_up ad N z5) (mg g (va_up ad N z5) (va_up y N (c_row g t5)) cr dr 0 kn rf pl pz mc) H locs := WM_push (by omega) B
      refine k_i (k := 3) (n := 9) hA B (b_V (q := 24) (rest := []) ((up_lt (by omega)).trans hb0) X (c_X4_get l g (N + 1) (va_up ad N z5) (va_up y N (c_row g t5)) cr dr 0 kn rf pl pz mc (by omega) b0 ((up_lt (by omega)).trans hb0) a1 N z5 t5 (Nat.lt_succ_self _) up_eq ((mg_hi (by omega)).trans up_eq) s2 H.size) mw_X4_get md_X4_get rfl lk_X4_103 ⟨Nat.le_of_ble_eq_true rfl, Nat.le_of_ble_eq_true rfl⟩ hA hK hT B (by omega) mg_24 rfl rfl hl.1 rfl (Nat.le_of_ble_eq_true rfl) dX4_negated_27 ⟨Nat.le_of_ble_eq_true rfl, Nat.le_of_ble_eq_true rfl⟩) (Nat.le_of_ble_eq_true rfl) (Nat.le_of_ble_eq_true rfl) (fun r7 ad7 f' H locs hw B => ?_)
      dsimp only at hw
      obtain ⟨mv8, rfl, rfl⟩ := hw
      have B : WB g (aw N ad sz) s.heap N ad7 (mg g ad7 y (v_X4_get cr a1 t5).2 dr 0 kn rf pl pz mc) H locs := WM_drop B (by omega) (by omega) (fun _ _ => rfl) (fun _ hk => (up_lt hk))
      have kk9 : ∀ k, k < N → k < 28 ∨ 36 ≤ k → ad7 k = ad k := fun k hk hkq => (mv8 k (by omega) hkq).trans (((fun _ hk => (up_lt hk)) k hk).trans rfl)
      have nb10 : ad7 24 = b0 := (mv8 24 (by omega) (Or.inl (by decide))).trans ((up_lt (by omega)).trans hb0)
      have ev := (show v_X4_negated cr rf a1 = ((v_X4_get cr a1 t5).1, (v_X4_get cr a1 t5).2, 0, rf) from by unfold v_X4_negated; rw [if_pos s2, om_some o5])
      exact rt_i X hr (ad7, mg g ad7 y (v_X4_get cr a1 t5).2 dr 0 kn rf pl pz mc) B (PO_of B) ⟨kk9, by rw [ev], by rw [ev]⟩ rfl (Nat.le_of_ble_eq_true rfl) (Nat.le_of_ble_eq_true rfl) dX4_negated_30
  · have s2x : (v_X4_isNone a1) = 1 := (b01_X4_isNone).resolve_left s2
    rw [s2x]
    refine k_i (k := 0) (n := 0) hA B (b_V (q := 24) (rest := []) hb0 X (c_X4_stops l g N ad y cr dr th kn rf pl pz mc (by omega) b0 hb0 1 0 H.size) mw_X4_stops md_X4_stops rfl lk_X4_99 ⟨Nat.le_of_ble_eq_true rfl, Nat.le_of_ble_eq_true rfl⟩ hA hK hT B (by omega) mg_24 rfl rfl hl.1 rfl (Nat.le_of_ble_eq_true rfl) dX4_negated_6 ⟨Nat.le_of_ble_eq_true rfl, Nat.le_of_ble_eq_true rfl⟩) (Nat.le_of_ble_eq_true rfl) (Nat.le_of_ble_eq_true rfl) (fun r ad' f' H locs hw B => ?_)
    rw [st_10] at hw
    dsimp only at hw
    obtain ⟨rfl, rfl, rfl⟩ := hw
    have B : WB g (aw N ad sz) s.heap N ad (mg g ad y cr dr 1 kn rf pl pz mc) H locs := B
    refine lv_if_eq (tgt := 16) hx hb dX4_negated_9 (by decide) (fun z => absurd z (by decide)) (fun _ => ?_)
    refine lv_iconst (v := 0) hx hb dX4_negated_12 (by decide) ?_
    refine lv_goto (tgt := 30) hx hb dX4_negated_13 (by decide) ?_
    have ev := (show v_X4_negated cr rf a1 = (0, cr, 1, rf) from by unfold v_X4_negated; rw [if_neg s2])
    exact rt_i X hr (ad, mg g ad y cr dr 1 kn rf pl pz mc) B (PO_of B) ⟨(fun _ _ _ => rfl), by rw [ev], by rw [ev]⟩ rfl (Nat.le_of_ble_eq_true rfl) (Nat.le_of_ble_eq_true rfl) dX4_negated_30
def v_X4_normalized (cr : Nat → TR) (rf : Int32) (a1 : Int32) : Int32 × (Nat → TR) × Int32 × Int32 := if v_X4_isNone a1 = 0 then (om (v_X4_tidied (cr a1.toNatClampNeg)) ((v_X4_getN rf).1, cr, 0, (v_X4_getN rf).2) (fun t5 => ((v_X4_get cr a1 t5).1, (v_X4_get cr a1 t5).2, 0, rf))) else (0, cr, 1, rf)
set_option maxHeartbeats 4000000 in
set_option maxRecDepth 100000 in
theorem c_X4_normalized (l : Launch) (g : GG) (N : Nat) (ad : Nat → Nat) (y : Nat → va_E) (cr dr : Nat → TR) (th kn rf : Int32) (pl : Nat → TR) (pz : Nat) (mc : Int32) (hN : 36 + pz ≤ N) (b0 : Nat) (hb0 : ad 24 = b0) (a1 : Int32) : KI l yX4_normalized cX4_normalized 2 (some .int) (rm 3 2 6) g [.ref b0, .int a1] N ad (mg g ad y cr dr th kn rf pl pz mc) N (fun r ad' f' => (∀ k, k < N → k < 28 ∨ 36 ≤ k → ad' k = ad k) ∧ (v_X4_normalized cr rf a1).1 = r ∧ mg g ad' y (v_X4_normalized cr rf a1).2.1 dr (v_X4_normalized cr rf a1).2.2.1 kn (v_X4_normalized cr rf a1).2.2.2 pl pz mc = f') := by
  intro sz
  refine mt_start (by decide) (Nat.le_of_ble_eq_true rfl) ?_
  intro p e s m args below meth c hsz X hr hnam hA hK hT H locs B ls hl
  obtain ⟨hx, hb, hml, hown, hts, hlocks⟩ := id X
  have hl : lv_has ls 2 [(0, .ref b0), (1, .int a1)] := hl
  refine lv_aload_n hx hb dX4_normalized_0 rfl (lv_at hl 0 rfl) ?_
  refine lv_iload_n hx hb dX4_normalized_1 rfl (lv_at hl 1 rfl) ?_
  refine k_i (k := 0) (n := 0) hA B (u_S (rest := [.ref b0]) X (c_X4_isNone l g N ad (mg g ad y cr dr th kn rf pl pz mc) a1 H.size) mw_X4_isNone md_X4_isNone rfl lk_X4_95 ⟨Nat.le_of_ble_eq_true rfl, Nat.le_of_ble_eq_true rfl⟩ hA hK hT B hl.1 rfl (Nat.le_of_ble_eq_true rfl) dX4_normalized_2 ⟨Nat.le_of_ble_eq_true rfl, Nat.le_of_ble_eq_true rfl⟩) (Nat.le_of_ble_eq_true rfl) (Nat.le_of_ble_eq_true rfl) (fun r1 ad1 f' H locs hw B => ?_)
  obtain ⟨rfl, rfl, rfl⟩ := hw
  refine lv_iconst (v := 0) hx hb dX4_normalized_5 (by decide) ?_
  by_cases s2 : v_X4_isNone a1 = 0
  · rw [s2]
    refine k_i (k := 0) (n := 0) hA B (b_V (q := 24) (rest := []) hb0 X (c_X4_stops l g N ad y cr dr th kn rf pl pz mc (by omega) b0 hb0 0 0 H.size) mw_X4_stops md_X4_stops rfl lk_X4_99 ⟨Nat.le_of_ble_eq_true rfl, Nat.le_of_ble_eq_true rfl⟩ hA hK hT B (by omega) mg_24 rfl rfl hl.1 rfl (Nat.le_of_ble_eq_true rfl) dX4_normalized_6 ⟨Nat.le_of_ble_eq_true rfl, Nat.le_of_ble_eq_true rfl⟩) (Nat.le_of_ble_eq_true rfl) (Nat.le_of_ble_eq_true rfl) (fun r ad' f' H locs hw B => ?_)
    rw [st_00] at hw
    dsimp only at hw
    obtain ⟨rfl, rfl, rfl⟩ := hw
    have B : WB g (aw N ad sz) s.heap N ad (mg g ad y cr dr 0 kn rf pl pz mc) H locs := B
    refine lv_if_eq (tgt := 16) hx hb dX4_normalized_9 (by decide) (fun _ => ?_) (fun z => absurd z (by decide))
    refine lv_aload_n hx hb dX4_normalized_16 rfl (lv_at hl 0 rfl) ?_
    refine lv_iload_n hx hb dX4_normalized_17 rfl (lv_at hl 1 rfl) ?_
    refine lv_aload_n hx hb dX4_normalized_18 rfl (lv_at hl 0 rfl) ?_
    refine b_get (q := 24) (k := 1) hb0 X hK B rfl in_X4 (by omega) mg_24 (by decide) lk_X4_11 rfl rfl dX4_normalized_19 ?_
    refine lv_iload_n hx hb dX4_normalized_22 rfl (lv_at hl 1 rfl) ?_
    refine b_aald (q := 25) (t0 := 2) (v := ad (28 + a1.toNatClampNeg)) rfl X hK B (by omega) mg_25 rfl rfl (no_in s2) rfl dX4_normalized_23 ?_
    have g3 : a1.toNatClampNeg < 4 := (no_lt s2)
    refine k_r (k := 1) (n := 3) hA B (u_S (rest := [.int a1, .ref b0]) X (c_X4_tidied l g N ad (mg g ad y cr dr 0 kn rf pl pz mc) (28 + a1.toNatClampNeg) (ad (28 + a1.toNatClampNeg)) (cr a1.toNatClampNeg) (pl_cr hN g3) rfl (mg_cr g3) H.size) mw_X4_tidied md_X4_tidied rfl lk_X4_125 ⟨Nat.le_of_ble_eq_true rfl, Nat.le_of_ble_eq_true rfl⟩ hA hK hT B hl.1 rfl (Nat.le_of_ble_eq_true rfl) dX4_normalized_24 ⟨Nat.le_of_ble_eq_true rfl, Nat.le_of_ble_eq_true rfl⟩) (Nat.le_of_ble_eq_true rfl) (Nat.le_of_ble_eq_true rfl) (fun r4 ad4 f' H locs hw B => ?_)
    generalize o5 : (v_X4_tidied (cr a1.toNatClampNeg)) = v9 at hw B
    cases v9 with
    | none =>
      obtain ⟨rfl, rfl, rfl⟩ := pw_n hw
      refine k_i (k := 1) (n := 3) hA B (b_V (q := 24) (rest := []) hb0 X (c_X4_getN l g N ad y cr dr 0 kn rf pl pz mc (by omega) b0 hb0 a1 H.size) mw_X4_get md_X4_get rfl lk_X4_103 ⟨Nat.le_of_ble_eq_true rfl, Nat.le_of_ble_eq_true rfl⟩ hA hK hT B (by omega) mg_24 rfl rfl hl.1 rfl (Nat.le_of_ble_eq_true rfl) dX4_normalized_27 ⟨Nat.le_of_ble_eq_true rfl, Nat.le_of_ble_eq_true rfl⟩) (Nat.le_of_ble_eq_true rfl) (Nat.le_of_ble_eq_true rfl) (fun r6 ad6 f' H locs hw B => ?_)
      obtain ⟨rfl, rfl, rfl⟩ := hw
      have ev := (show v_X4_normalized cr rf a1 = ((v_X4_getN rf).1, cr, 0, (v_X4_getN rf).2) from by unfold v_X4_normalized; rw [if_pos s2, om_none o5])
      exact rt_i X hr (ad, mg g ad y cr dr 0 kn (v_X4_getN rf).2 pl pz mc) B (PO_of B) ⟨(fun _ _ _ => rfl), by rw [ev], by rw [ev]⟩ rfl (Nat.le_of_ble_eq_true rfl) (Nat.le_of_ble_eq_true rfl) dX4_normalized_30
    | some t5 =>
      obtain ⟨z5, rfl, rfl, rfl⟩ := pw_s hw
      have B : WB g (aw N ad sz) s.heap (N + 1) (va_up ad N z5) (mg g (va_up ad N z5) (va_up y N (c_row g t5)) cr dr 0 kn rf pl pz mc) H locs := WM_push (by omega) B
      refine k_i (k := 2) (n := 6) hA B (b_V (q := 24) (rest := []) ((up_lt (by omega)).trans hb0) X (c_X4_get l g (N + 1) (va_up ad N z5) (va_up y N (c_row g t5)) cr dr 0 kn rf pl pz mc (by omega) b0 ((up_lt (by omega)).trans hb0) a1 N z5 t5 (Nat.lt_succ_self _) up_eq ((mg_hi (by omega)).trans up_eq) s2 H.size) mw_X4_get md_X4_get rfl lk_X4_103 ⟨Nat.le_of_ble_eq_true rfl, Nat.le_of_ble_eq_true rfl⟩ hA hK hT B (by omega) mg_24 rfl rfl hl.1 rfl (Nat.le_of_ble_eq_true rfl) dX4_normalized_27 ⟨Nat.le_of_ble_eq_true rfl, Nat.le_of_ble_eq_true rfl⟩) (Nat.le_of_ble_eq_true rfl) (Nat.le_of_ble_eq_true rfl) (fun r7 ad7 f' H locs hw B => ?_)
      dsimp only at hw
      obtain ⟨mv8, rfl, rfl⟩ := hw
      have B : WB g (aw N ad sz) s.heap N ad7 (mg g ad7 y (v_X4_get cr a1 t5).2 dr 0 kn rf pl pz mc) H locs := WM_drop B (by omega) (by omega) (fun _ _ => rfl) (fun _ hk => (up_lt hk))
      have kk9 : ∀ k, k < N → k < 28 ∨ 36 ≤ k → ad7 k = ad k := fun k hk hkq => (mv8 k (by omega) hkq).trans (((fun _ hk => (up_lt hk)) k hk).trans rfl)
      have nb10 : ad7 24 = b0 := (mv8 24 (by omega) (Or.inl (by decide))).trans ((up_lt (by omega)).trans hb0)
      have ev := (show v_X4_normalized cr rf a1 = ((v_X4_get cr a1 t5).1, (v_X4_get cr a1 t5).2, 0, rf) from by unfold v_X4_normalized; rw [if_pos s2, om_some o5])
      exact rt_i X hr (ad7, mg g ad7 y (v_X4_get cr a1 t5).2 dr 0 kn rf pl pz mc) B (PO_of B) ⟨kk9, by rw [ev], by rw [ev]⟩ rfl (Nat.le_of_ble_eq_true rfl) (Nat.le_of_ble_eq_true rfl) dX4_normalized_30
  · have s2x : (v_X4_isNone a1) = 1 := (b01_X4_isNone).resolve_left s2
    rw [s2x]
    refine k_i (k := 0) (n := 0) hA B (b_V (q := 24) (rest := []) hb0 X (c_X4_stops l g N ad y cr dr th kn rf pl pz mc (by omega) b0 hb0 1 0 H.size) mw_X4_stops md_X4_stops rfl lk_X4_99 ⟨Nat.le_of_ble_eq_true rfl, Nat.le_of_ble_eq_true rfl⟩ hA hK hT B (by omega) mg_24 rfl rfl hl.1 rfl (Nat.le_of_ble_eq_true rfl) dX4_normalized_6 ⟨Nat.le_of_ble_eq_true rfl, Nat.le_of_ble_eq_true rfl⟩) (Nat.le_of_ble_eq_true rfl) (Nat.le_of_ble_eq_true rfl) (fun r ad' f' H locs hw B => ?_)
    rw [st_10] at hw
    dsimp only at hw
    obtain ⟨rfl, rfl, rfl⟩ := hw
    have B : WB g (aw N ad sz) s.heap N ad (mg g ad y cr dr 1 kn rf pl pz mc) H locs := B
    refine lv_if_eq (tgt := 16) hx hb dX4_normalized_9 (by decide) (fun z => absurd z (by decide)) (fun _ => ?_)
    refine lv_iconst (v := 0) hx hb dX4_normalized_12 (by decide) ?_
    refine lv_goto (tgt := 30) hx hb dX4_normalized_13 (by decide) ?_
    have ev := (show v_X4_normalized cr rf a1 = (0, cr, 1, rf) from by unfold v_X4_normalized; rw [if_neg s2])
    exact rt_i X hr (ad, mg g ad y cr dr 1 kn rf pl pz mc) B (PO_of B) ⟨(fun _ _ _ => rfl), by rw [ev], by rw [ev]⟩ rfl (Nat.le_of_ble_eq_true rfl) (Nat.le_of_ble_eq_true rfl) dX4_normalized_30
def v_X4_part (cr : Nat → TR) (a1 : Int32) (a2 : Int32) : Int32 × Int32 := if (v_X4_isIn a2.toInt64 0 2) = 0 then (if v_X4_isNone a1 = 0 then (0, 2) else (0, 1)) else (if v_X4_isNone a1 = 0 then (rw3 (cr a1.toNatClampNeg) a2.toNatClampNeg, 0) else (0, 1))
set_option maxHeartbeats 4000000 in
set_option maxRecDepth 100000 in
theorem c_X4_part (l : Launch) (g : GG) (N : Nat) (ad : Nat → Nat) (y : Nat → va_E) (cr dr : Nat → TR) (th kn rf : Int32) (pl : Nat → TR) (pz : Nat) (mc : Int32) (hN : 36 + pz ≤ N) (b0 : Nat) (hb0 : ad 24 = b0) (a1 : Int32) (a2 : Int32) : KI l yX4_part cX4_part 3 (some .int) (rm 1 0 0) g [.ref b0, .int a1, .int a2] N ad (mg g ad y cr dr th kn rf pl pz mc) N (fun r ad' f' => ad = ad' ∧ (v_X4_part cr a1 a2).1 = r ∧ mg g ad y cr dr (v_X4_part cr a1 a2).2 kn rf pl pz mc = f') := by
  intro sz
  refine mt_start (by decide) (Nat.le_of_ble_eq_true rfl) ?_
  intro p e s m args below meth c hsz X hr hnam hA hK hT H locs B ls hl
  obtain ⟨hx, hb, hml, hown, hts, hlocks⟩ := id X
  have hl : lv_has ls 3 [(0, .ref b0), (1, .int a1), (2, .int a2)] := hl
  refine lv_aload_n hx hb dX4_part_0 rfl (lv_at hl 0 rfl) ?_
  refine lv_iload_n hx hb dX4_part_1 rfl (lv_at hl 1 rfl) ?_
  refine k_i (k := 0) (n := 0) hA B (u_S (rest := [.ref b0]) X (c_X4_isNone l g N ad (mg g ad y cr dr th kn rf pl pz mc) a1 H.size) mw_X4_isNone md_X4_isNone rfl lk_X4_95 ⟨Nat.le_of_ble_eq_true rfl, Nat.le_of_ble_eq_true rfl⟩ hA hK hT B hl.1 rfl (Nat.le_of_ble_eq_true rfl) dX4_part_2 ⟨Nat.le_of_ble_eq_true rfl, Nat.le_of_ble_eq_true rfl⟩) (Nat.le_of_ble_eq_true rfl) (Nat.le_of_ble_eq_true rfl) (fun r1 ad1 f' H locs hw B => ?_)
  obtain ⟨rfl, rfl, rfl⟩ := hw
  refine lv_iload_n hx hb dX4_part_5 rfl (lv_at hl 2 rfl) ?_
  refine lv_i2l (v := a2.toInt64) hx hb dX4_part_6 rfl ?_
  refine lv_lconst (v := 0) hx hb dX4_part_7 (by decide) ?_
  refine lv_ldc2 hx hb hown (hts _ (List.mem_cons_of_mem _ lk_X4_113)) dX4_part_8 ?_
  refine k_i (k := 0) (n := 0) hA B (u_S (rest := [.int (v_X4_isNone a1), .ref b0]) X (c_X4_isIn l g N ad (mg g ad y cr dr th kn rf pl pz mc) a2.toInt64 0 2 H.size) mw_X4_isIn md_X4_isIn rfl lk_X4_37 ⟨Nat.le_of_ble_eq_true rfl, Nat.le_of_ble_eq_true rfl⟩ hA hK hT B hl.1 rfl (Nat.le_of_ble_eq_true rfl) dX4_part_11 ⟨Nat.le_of_ble_eq_true rfl, Nat.le_of_ble_eq_true rfl⟩) (Nat.le_of_ble_eq_true rfl) (Nat.le_of_ble_eq_true rfl) (fun r2 ad2 f' H locs hw B => ?_)
  obtain ⟨rfl, rfl, rfl⟩ := hw
  refine lv_if_ne (tgt := 21) hx hb dX4_part_14 (by decide) (fun c3 => ?_) (fun c3 => ?_)
  · refine lv_iconst (v := 0) hx hb dX4_part_21 (by decide) ?_
    by_cases s4 : v_X4_isNone a1 = 0
    · rw [s4]
      refine k_i (k := 0) (n := 0) hA B (b_V (q := 24) (rest := []) hb0 X (c_X4_stops l g N ad y cr dr th kn rf pl pz mc (by omega) b0 hb0 0 0 H.size) mw_X4_stops md_X4_stops rfl lk_X4_99 ⟨Nat.le_of_ble_eq_true rfl, Nat.le_of_ble_eq_true rfl⟩ hA hK hT B (by omega) mg_24 rfl rfl hl.1 rfl (Nat.le_of_ble_eq_true rfl) dX4_part_22 ⟨Nat.le_of_ble_eq_true rfl, Nat.le_of_ble_eq_true rfl⟩) (Nat.le_of_ble_eq_true rfl) (Nat.le_of_ble_eq_true rfl) (fun r ad' f' H locs hw B => ?_)
      rw [st_00] at hw
      dsimp only at hw
      obtain ⟨rfl, rfl, rfl⟩ := hw
      have B : WB g (aw N ad sz) s.heap N ad (mg g ad y cr dr 0 kn rf pl pz mc) H locs := B
      refine lv_if_eq (tgt := 32) hx hb dX4_part_25 (by decide) (fun _ => ?_) (fun z => absurd z (by decide))
      refine lv_aload_n hx hb dX4_part_32 rfl (lv_at hl 0 rfl) ?_
      refine b_get (q := 24) (k := 1) hb0 X hK B rfl in_X4 (by omega) mg_24 (by decide) lk_X4_11 rfl rfl dX4_part_33 ?_
      refine lv_iload_n hx hb dX4_part_36 rfl (lv_at hl 1 rfl) ?_
      refine b_aald (q := 25) (t0 := 2) (v := ad (28 + a1.toNatClampNeg)) rfl X hK B (by omega) mg_25 rfl rfl (no_in s4) rfl dX4_part_37 ?_
      have g5 : a1.toNatClampNeg < 4 := (no_lt s4)
      refine lv_iload_n hx hb dX4_part_38 rfl (lv_at hl 2 rfl) ?_
      refine h_ld X hK B (pl_cr hN g5) rfl (mg_cr g5) (isin_ix (n := 3) c3 rfl).1 dX4_part_39 ?_
      have ev := (show v_X4_part cr a1 a2 = (rw3 (cr a1.toNatClampNeg) a2.toNatClampNeg, 0) from by unfold v_X4_part; rw [if_neg c3, if_pos s4])
      exact rt_i X hr (ad, mg g ad y cr dr 0 kn rf pl pz mc) B (PO_of B) ⟨rfl, by rw [ev], by rw [ev]⟩ rfl (Nat.le_of_ble_eq_true rfl) (Nat.le_of_ble_eq_true rfl) dX4_part_40
    · have s4x : (v_X4_isNone a1) = 1 := (b01_X4_isNone).resolve_left s4
      rw [s4x]
      refine k_i (k := 0) (n := 0) hA B (b_V (q := 24) (rest := []) hb0 X (c_X4_stops l g N ad y cr dr th kn rf pl pz mc (by omega) b0 hb0 1 0 H.size) mw_X4_stops md_X4_stops rfl lk_X4_99 ⟨Nat.le_of_ble_eq_true rfl, Nat.le_of_ble_eq_true rfl⟩ hA hK hT B (by omega) mg_24 rfl rfl hl.1 rfl (Nat.le_of_ble_eq_true rfl) dX4_part_22 ⟨Nat.le_of_ble_eq_true rfl, Nat.le_of_ble_eq_true rfl⟩) (Nat.le_of_ble_eq_true rfl) (Nat.le_of_ble_eq_true rfl) (fun r ad' f' H locs hw B => ?_)
      rw [st_10] at hw
      dsimp only at hw
      obtain ⟨rfl, rfl, rfl⟩ := hw
      have B : WB g (aw N ad sz) s.heap N ad (mg g ad y cr dr 1 kn rf pl pz mc) H locs := B
      refine lv_if_eq (tgt := 32) hx hb dX4_part_25 (by decide) (fun z => absurd z (by decide)) (fun _ => ?_)
      refine lv_iconst (v := 0) hx hb dX4_part_28 (by decide) ?_
      refine lv_goto (tgt := 40) hx hb dX4_part_29 (by decide) ?_
      have ev := (show v_X4_part cr a1 a2 = (0, 1) from by unfold v_X4_part; rw [if_neg c3, if_neg s4])
      exact rt_i X hr (ad, mg g ad y cr dr 1 kn rf pl pz mc) B (PO_of B) ⟨rfl, by rw [ev], by rw [ev]⟩ rfl (Nat.le_of_ble_eq_true rfl) (Nat.le_of_ble_eq_true rfl) dX4_part_40
  · refine lv_iconst (v := 1) hx hb dX4_part_17 (by decide) ?_
    refine lv_goto (tgt := 22) hx hb dX4_part_18 (by decide) ?_
    by_cases s6 : v_X4_isNone a1 = 0
    · rw [s6]
      refine k_i (k := 0) (n := 0) hA B (b_V (q := 24) (rest := []) hb0 X (c_X4_stops l g N ad y cr dr th kn rf pl pz mc (by omega) b0 hb0 0 1 H.size) mw_X4_stops md_X4_stops rfl lk_X4_99 ⟨Nat.le_of_ble_eq_true rfl, Nat.le_of_ble_eq_true rfl⟩ hA hK hT B (by omega) mg_24 rfl rfl hl.1 rfl (Nat.le_of_ble_eq_true rfl) dX4_part_22 ⟨Nat.le_of_ble_eq_true rfl, Nat.le_of_ble_eq_true rfl⟩) (Nat.le_of_ble_eq_true rfl) (Nat.le_of_ble_eq_true rfl) (fun r ad' f' H locs hw B => ?_)
      rw [st_01] at hw
      dsimp only at hw
      obtain ⟨rfl, rfl, rfl⟩ := hw
      have B : WB g (aw N ad sz) s.heap N ad (mg g ad y cr dr 2 kn rf pl pz mc) H locs := B
      refine lv_if_eq (tgt := 32) hx hb dX4_part_25 (by decide) (fun z => absurd z (by decide)) (fun _ => ?_)
      refine lv_iconst (v := 0) hx hb dX4_part_28 (by decide) ?_
      refine lv_goto (tgt := 40) hx hb dX4_part_29 (by decide) ?_
      have ev := (show v_X4_part cr a1 a2 = (0, 2) from by unfold v_X4_part; rw [if_pos c3, if_pos s6])
      exact rt_i X hr (ad, mg g ad y cr dr 2 kn rf pl pz mc) B (PO_of B) ⟨rfl, by rw [ev], by rw [ev]⟩ rfl (Nat.le_of_ble_eq_true rfl) (Nat.le_of_ble_eq_true rfl) dX4_part_40
    · have s6x : (v_X4_isNone a1) = 1 := (b01_X4_isNone).resolve_left s6
      rw [s6x]
      refine k_i (k := 0) (n := 0) hA B (b_V (q := 24) (rest := []) hb0 X (c_X4_stops l g N ad y cr dr th kn rf pl pz mc (by omega) b0 hb0 1 1 H.size) mw_X4_stops md_X4_stops rfl lk_X4_99 ⟨Nat.le_of_ble_eq_true rfl, Nat.le_of_ble_eq_true rfl⟩ hA hK hT B (by omega) mg_24 rfl rfl hl.1 rfl (Nat.le_of_ble_eq_true rfl) dX4_part_22 ⟨Nat.le_of_ble_eq_true rfl, Nat.le_of_ble_eq_true rfl⟩) (Nat.le_of_ble_eq_true rfl) (Nat.le_of_ble_eq_true rfl) (fun r ad' f' H locs hw B => ?_)
      rw [st_11] at hw
      dsimp only at hw
      obtain ⟨rfl, rfl, rfl⟩ := hw
      have B : WB g (aw N ad sz) s.heap N ad (mg g ad y cr dr 1 kn rf pl pz mc) H locs := B
      refine lv_if_eq (tgt := 32) hx hb dX4_part_25 (by decide) (fun z => absurd z (by decide)) (fun _ => ?_)
      refine lv_iconst (v := 0) hx hb dX4_part_28 (by decide) ?_
      refine lv_goto (tgt := 40) hx hb dX4_part_29 (by decide) ?_
      have ev := (show v_X4_part cr a1 a2 = (0, 1) from by unfold v_X4_part; rw [if_pos c3, if_neg s6])
      exact rt_i X hr (ad, mg g ad y cr dr 1 kn rf pl pz mc) B (PO_of B) ⟨rfl, by rw [ev], by rw [ev]⟩ rfl (Nat.le_of_ble_eq_true rfl) (Nat.le_of_ble_eq_true rfl) dX4_part_40
def v_X4_isZeroNow (cr : Nat → TR) (a1 : Int32) : Int32 := (v_X4_isSame (cr a1.toNatClampNeg) (v_X4_nothing))
theorem b01_X4_isZeroNow {cr : Nat → TR} {a1 : Int32} : (v_X4_isZeroNow cr a1) = 0 ∨ (v_X4_isZeroNow cr a1) = 1 := by
  unfold v_X4_isZeroNow
  exact b01_X4_isSame
set_option maxHeartbeats 4000000 in
set_option maxRecDepth 100000 in
theorem c_X4_isZeroNow (l : Launch) (g : GG) (N : Nat) (ad : Nat → Nat) (y : Nat → va_E) (cr dr : Nat → TR) (th kn rf : Int32) (pl : Nat → TR) (pz : Nat) (mc : Int32) (hN : 36 + pz ≤ N) (b0 : Nat) (hb0 : ad 24 = b0) (a1 : Int32) (hza1 : v_X4_isNone a1 = 0) : KI l yX4_isZeroNow cX4_isZeroNow 2 (some .boolean) (rm 1 1 3) g [.ref b0, .int a1] N ad (mg g ad y cr dr th kn rf pl pz mc) N (fun r ad' f' => ad = ad' ∧ (v_X4_isZeroNow cr a1) = r ∧ mg g ad y cr dr th kn rf pl pz mc = f') := by
  intro sz
  refine mt_start (by decide) (Nat.le_of_ble_eq_true rfl) ?_
  intro p e s m args below meth c hsz X hr hnam hA hK hT H locs B ls hl
  obtain ⟨hx, hb, hml, hown, hts, hlocks⟩ := id X
  have hl : lv_has ls 2 [(0, .ref b0), (1, .int a1)] := hl
  refine lv_aload_n hx hb dX4_isZeroNow_0 rfl (lv_at hl 0 rfl) ?_
  refine b_get (q := 24) (k := 1) hb0 X hK B rfl in_X4 (by omega) mg_24 (by decide) lk_X4_11 rfl rfl dX4_isZeroNow_1 ?_
  refine lv_iload_n hx hb dX4_isZeroNow_4 rfl (lv_at hl 1 rfl) ?_
  refine b_aald (q := 25) (t0 := 2) (v := ad (28 + a1.toNatClampNeg)) rfl X hK B (by omega) mg_25 rfl rfl (no_in hza1) rfl dX4_isZeroNow_5 ?_
  have g1 : a1.toNatClampNeg < 4 := (no_lt hza1)
  refine k_r (k := 1) (n := 3) hA B (u_S (rest := [.ref (ad (28 + a1.toNatClampNeg))]) X (c_X4_nothing l g N ad (mg g ad y cr dr th kn rf pl pz mc) H.size) mw_X4_nothing md_X4_nothing rfl lk_X4_51 ⟨Nat.le_of_ble_eq_true rfl, Nat.le_of_ble_eq_true rfl⟩ hA hK hT B hl.1 rfl (Nat.le_of_ble_eq_true rfl) dX4_isZeroNow_6 ⟨Nat.le_of_ble_eq_true rfl, Nat.le_of_ble_eq_true rfl⟩) (Nat.le_of_ble_eq_true rfl) (Nat.le_of_ble_eq_true rfl) (fun r2 ad2 f' H locs hw B => ?_)
  obtain ⟨z3, rfl, rfl, rfl⟩ := hw
  have B : WB g (aw N ad sz) s.heap (N + 1) (va_up ad N z3) (mg g (va_up ad N z3) (va_up y N (c_row g (v_X4_nothing))) cr dr th kn rf pl pz mc) H locs := WM_push (by omega) B
  refine k_i (k := 1) (n := 3) hA B (u_S (rest := []) X (c_X4_isSame l g (N + 1) (va_up ad N z3) (mg g (va_up ad N z3) (va_up y N (c_row g (v_X4_nothing))) cr dr th kn rf pl pz mc) (28 + a1.toNatClampNeg) (ad (28 + a1.toNatClampNeg)) (cr a1.toNatClampNeg) (Nat.lt_succ_of_lt (pl_cr hN g1)) ((up_lt (pl_cr hN g1)).trans rfl) (mg_cr g1) N z3 (v_X4_nothing) (Nat.lt_succ_self _) up_eq ((mg_hi (by omega)).trans up_eq) H.size) mw_X4_isSame md_X4_isSame rfl lk_X4_87 ⟨Nat.le_of_ble_eq_true rfl, Nat.le_of_ble_eq_true rfl⟩ hA hK hT B hl.1 rfl (Nat.le_of_ble_eq_true rfl) dX4_isZeroNow_9 ⟨Nat.le_of_ble_eq_true rfl, Nat.le_of_ble_eq_true rfl⟩) (Nat.le_of_ble_eq_true rfl) (Nat.le_of_ble_eq_true rfl) (fun r4 ad4 f' H locs hw B => ?_)
  obtain ⟨rfl, rfl, rfl⟩ := hw
  have B : WB g (aw N ad sz) s.heap N ad (mg g ad y cr dr th kn rf pl pz mc) H locs := WM_drop B (by omega) (by omega) (fun _ hk => (up_lt hk)) (fun _ hk => (up_lt hk))
  have ev := (show v_X4_isZeroNow cr a1 = (v_X4_isSame (cr a1.toNatClampNeg) (v_X4_nothing)) from rfl)
  exact rt_i X hr (ad, mg g ad y cr dr th kn rf pl pz mc) B (PO_of B) ⟨rfl, by rw [ev], rfl⟩ (nb_of b01_X4_isSame) (Nat.le_of_ble_eq_true rfl) (Nat.le_of_ble_eq_true rfl) dX4_isZeroNow_12
def v_X4_isNegativeNow (cr : Nat → TR) (a1 : Int32) : Int32 := if (cr a1.toNatClampNeg).1 < 0 then 1 else (if (cr a1.toNatClampNeg).2.1 < 0 then 1 else (if 0 ≤ (cr a1.toNatClampNeg).2.2 then 0 else 1))
theorem b01_X4_isNegativeNow {cr : Nat → TR} {a1 : Int32} : (v_X4_isNegativeNow cr a1) = 0 ∨ (v_X4_isNegativeNow cr a1) = 1 := by
  unfold v_X4_isNegativeNow
  by_cases q1 : (cr a1.toNatClampNeg).1 < 0
  · rw [if_pos q1]
    exact Or.inr rfl
  · rw [if_neg q1]
    by_cases q2 : (cr a1.toNatClampNeg).2.1 < 0
    · rw [if_pos q2]
      exact Or.inr rfl
    · rw [if_neg q2]
      by_cases q3 : 0 ≤ (cr a1.toNatClampNeg).2.2
      · rw [if_pos q3]
        exact Or.inl rfl
      · rw [if_neg q3]
        exact Or.inr rfl
set_option maxHeartbeats 4000000 in
set_option maxRecDepth 100000 in
theorem c_X4_isNegativeNow (l : Launch) (g : GG) (N : Nat) (ad : Nat → Nat) (y : Nat → va_E) (cr dr : Nat → TR) (th kn rf : Int32) (pl : Nat → TR) (pz : Nat) (mc : Int32) (hN : 36 + pz ≤ N) (b0 : Nat) (hb0 : ad 24 = b0) (a1 : Int32) (hza1 : v_X4_isNone a1 = 0) : KI l yX4_isNegativeNow cX4_isNegativeNow 2 (some .boolean) (rm 0 0 0) g [.ref b0, .int a1] N ad (mg g ad y cr dr th kn rf pl pz mc) N (fun r ad' f' => ad = ad' ∧ (v_X4_isNegativeNow cr a1) = r ∧ mg g ad y cr dr th kn rf pl pz mc = f') := by
  intro sz
  refine mt_start (by decide) (Nat.le_of_ble_eq_true rfl) ?_
  intro p e s m args below meth c hsz X hr hnam hA hK hT H locs B ls hl
  obtain ⟨hx, hb, hml, hown, hts, hlocks⟩ := id X
  have hl : lv_has ls 2 [(0, .ref b0), (1, .int a1)] := hl
  refine lv_aload_n hx hb dX4_isNegativeNow_0 rfl (lv_at hl 0 rfl) ?_
  refine b_get (q := 24) (k := 1) hb0 X hK B rfl in_X4 (by omega) mg_24 (by decide) lk_X4_11 rfl rfl dX4_isNegativeNow_1 ?_
  refine lv_iload_n hx hb dX4_isNegativeNow_4 rfl (lv_at hl 1 rfl) ?_
  refine b_aald (q := 25) (t0 := 2) (v := ad (28 + a1.toNatClampNeg)) rfl X hK B (by omega) mg_25 rfl rfl (no_in hza1) rfl dX4_isNegativeNow_5 ?_
  have g1 : a1.toNatClampNeg < 4 := (no_lt hza1)
  refine lv_iconst (v := 0) hx hb dX4_isNegativeNow_6 (by decide) ?_
  refine h_ld0 X hK B (pl_cr hN g1) rfl (mg_cr g1) dX4_isNegativeNow_7 ?_
  refine lv_if_lt (tgt := 33) hx hb dX4_isNegativeNow_8 (by decide) (fun c2 => ?_) (fun c2 => ?_)
  · refine lv_iconst (v := 1) hx hb dX4_isNegativeNow_33 (by decide) ?_
    refine lv_goto (tgt := 38) hx hb dX4_isNegativeNow_34 (by decide) ?_
    have ev := (show v_X4_isNegativeNow cr a1 = 1 from by unfold v_X4_isNegativeNow; rw [if_pos c2])
    exact rt_i X hr (ad, mg g ad y cr dr th kn rf pl pz mc) B (PO_of B) ⟨rfl, by rw [ev], rfl⟩ rfl (Nat.le_of_ble_eq_true rfl) (Nat.le_of_ble_eq_true rfl) dX4_isNegativeNow_38
  · refine lv_aload_n hx hb dX4_isNegativeNow_11 rfl (lv_at hl 0 rfl) ?_
    refine b_get (q := 24) (k := 1) hb0 X hK B rfl in_X4 (by omega) mg_24 (by decide) lk_X4_11 rfl rfl dX4_isNegativeNow_12 ?_
    refine lv_iload_n hx hb dX4_isNegativeNow_15 rfl (lv_at hl 1 rfl) ?_
    refine b_aald (q := 25) (t0 := 2) (v := ad (28 + a1.toNatClampNeg)) rfl X hK B (by omega) mg_25 rfl rfl (no_in hza1) rfl dX4_isNegativeNow_16 ?_
    have g3 : a1.toNatClampNeg < 4 := (no_lt hza1)
    refine lv_iconst (v := 1) hx hb dX4_isNegativeNow_17 (by decide) ?_
    refine h_ld1 X hK B (pl_cr hN g3) rfl (mg_cr g3) dX4_isNegativeNow_18 ?_
    refine lv_if_lt (tgt := 33) hx hb dX4_isNegativeNow_19 (by decide) (fun c4 => ?_) (fun c4 => ?_)
    · refine lv_iconst (v := 1) hx hb dX4_isNegativeNow_33 (by decide) ?_
      refine lv_goto (tgt := 38) hx hb dX4_isNegativeNow_34 (by decide) ?_
      have ev := (show v_X4_isNegativeNow cr a1 = 1 from by unfold v_X4_isNegativeNow; rw [if_neg c2, if_pos c4])
      exact rt_i X hr (ad, mg g ad y cr dr th kn rf pl pz mc) B (PO_of B) ⟨rfl, by rw [ev], rfl⟩ rfl (Nat.le_of_ble_eq_true rfl) (Nat.le_of_ble_eq_true rfl) dX4_isNegativeNow_38
    · refine lv_aload_n hx hb dX4_isNegativeNow_22 rfl (lv_at hl 0 rfl) ?_
      refine b_get (q := 24) (k := 1) hb0 X hK B rfl in_X4 (by omega) mg_24 (by decide) lk_X4_11 rfl rfl dX4_isNegativeNow_23 ?_
      refine lv_iload_n hx hb dX4_isNegativeNow_26 rfl (lv_at hl 1 rfl) ?_
      refine b_aald (q := 25) (t0 := 2) (v := ad (28 + a1.toNatClampNeg)) rfl X hK B (by omega) mg_25 rfl rfl (no_in hza1) rfl dX4_isNegativeNow_27 ?_
      have g5 : a1.toNatClampNeg < 4 := (no_lt hza1)
      refine lv_iconst (v := 2) hx hb dX4_isNegativeNow_28 (by decide) ?_
      refine h_ld2 X hK B (pl_cr hN g5) rfl (mg_cr g5) dX4_isNegativeNow_29 ?_
      refine lv_if_ge (tgt := 37) hx hb dX4_isNegativeNow_30 (by decide) (fun c6 => ?_) (fun c6 => ?_)
      · refine lv_iconst (v := 0) hx hb dX4_isNegativeNow_37 (by decide) ?_
        have ev := (show v_X4_isNegativeNow cr a1 = 0 from by unfold v_X4_isNegativeNow; rw [if_neg c2, if_neg c4, if_pos c6])
        exact rt_i X hr (ad, mg g ad y cr dr th kn rf pl pz mc) B (PO_of B) ⟨rfl, by rw [ev], rfl⟩ rfl (Nat.le_of_ble_eq_true rfl) (Nat.le_of_ble_eq_true rfl) dX4_isNegativeNow_38
      · refine lv_iconst (v := 1) hx hb dX4_isNegativeNow_33 (by decide) ?_
        refine lv_goto (tgt := 38) hx hb dX4_isNegativeNow_34 (by decide) ?_
        have ev := (show v_X4_isNegativeNow cr a1 = 1 from by unfold v_X4_isNegativeNow; rw [if_neg c2, if_neg c4, if_neg c6])
        exact rt_i X hr (ad, mg g ad y cr dr th kn rf pl pz mc) B (PO_of B) ⟨rfl, by rw [ev], rfl⟩ rfl (Nat.le_of_ble_eq_true rfl) (Nat.le_of_ble_eq_true rfl) dX4_isNegativeNow_38
def v_X4_isZero (cr : Nat → TR) (a1 : Int32) : Int32 × Int32 := if v_X4_isNone a1 = 0 then (if (v_X4_isZeroNow cr a1) = 0 then (0, 0) else (1, 0)) else (0, 1)
theorem b01_X4_isZero {cr : Nat → TR} {a1 : Int32} : (v_X4_isZero cr a1).1 = 0 ∨ (v_X4_isZero cr a1).1 = 1 := by
  unfold v_X4_isZero
  by_cases q1 : v_X4_isNone a1 = 0
  · rw [if_pos q1]
    by_cases q2 : (v_X4_isZeroNow cr a1) = 0
    · rw [if_pos q2]
      exact Or.inl rfl
    · rw [if_neg q2]
      exact Or.inr rfl
  · rw [if_neg q1]
    exact Or.inl rfl
set_option maxHeartbeats 4000000 in
set_option maxRecDepth 100000 in
theorem c_X4_isZero (l : Launch) (g : GG) (N : Nat) (ad : Nat → Nat) (y : Nat → va_E) (cr dr : Nat → TR) (th kn rf : Int32) (pl : Nat → TR) (pz : Nat) (mc : Int32) (hN : 36 + pz ≤ N) (b0 : Nat) (hb0 : ad 24 = b0) (a1 : Int32) : KI l yX4_isZero cX4_isZero 2 (some .boolean) (rm 2 1 3) g [.ref b0, .int a1] N ad (mg g ad y cr dr th kn rf pl pz mc) N (fun r ad' f' => ad = ad' ∧ (v_X4_isZero cr a1).1 = r ∧ mg g ad y cr dr (v_X4_isZero cr a1).2 kn rf pl pz mc = f') := by
  intro sz
  refine mt_start (by decide) (Nat.le_of_ble_eq_true rfl) ?_
  intro p e s m args below meth c hsz X hr hnam hA hK hT H locs B ls hl
  obtain ⟨hx, hb, hml, hown, hts, hlocks⟩ := id X
  have hl : lv_has ls 2 [(0, .ref b0), (1, .int a1)] := hl
  refine lv_aload_n hx hb dX4_isZero_0 rfl (lv_at hl 0 rfl) ?_
  refine lv_iload_n hx hb dX4_isZero_1 rfl (lv_at hl 1 rfl) ?_
  refine k_i (k := 0) (n := 0) hA B (u_S (rest := [.ref b0]) X (c_X4_isNone l g N ad (mg g ad y cr dr th kn rf pl pz mc) a1 H.size) mw_X4_isNone md_X4_isNone rfl lk_X4_95 ⟨Nat.le_of_ble_eq_true rfl, Nat.le_of_ble_eq_true rfl⟩ hA hK hT B hl.1 rfl (Nat.le_of_ble_eq_true rfl) dX4_isZero_2 ⟨Nat.le_of_ble_eq_true rfl, Nat.le_of_ble_eq_true rfl⟩) (Nat.le_of_ble_eq_true rfl) (Nat.le_of_ble_eq_true rfl) (fun r1 ad1 f' H locs hw B => ?_)
  obtain ⟨rfl, rfl, rfl⟩ := hw
  refine lv_iconst (v := 0) hx hb dX4_isZero_5 (by decide) ?_
  by_cases s2 : v_X4_isNone a1 = 0
  · rw [s2]
    refine k_i (k := 0) (n := 0) hA B (b_V (q := 24) (rest := []) hb0 X (c_X4_stops l g N ad y cr dr th kn rf pl pz mc (by omega) b0 hb0 0 0 H.size) mw_X4_stops md_X4_stops rfl lk_X4_99 ⟨Nat.le_of_ble_eq_true rfl, Nat.le_of_ble_eq_true rfl⟩ hA hK hT B (by omega) mg_24 rfl rfl hl.1 rfl (Nat.le_of_ble_eq_true rfl) dX4_isZero_6 ⟨Nat.le_of_ble_eq_true rfl, Nat.le_of_ble_eq_true rfl⟩) (Nat.le_of_ble_eq_true rfl) (Nat.le_of_ble_eq_true rfl) (fun r ad' f' H locs hw B => ?_)
    rw [st_00] at hw
    dsimp only at hw
    obtain ⟨rfl, rfl, rfl⟩ := hw
    have B : WB g (aw N ad sz) s.heap N ad (mg g ad y cr dr 0 kn rf pl pz mc) H locs := B
    refine lv_if_ne (tgt := 24) hx hb dX4_isZero_9 (by decide) (fun z => absurd z (by decide)) (fun _ => ?_)
    refine lv_aload_n hx hb dX4_isZero_12 rfl (lv_at hl 0 rfl) ?_
    refine lv_iload_n hx hb dX4_isZero_13 rfl (lv_at hl 1 rfl) ?_
    refine k_i (k := 1) (n := 3) hA B (b_V (q := 24) (rest := []) hb0 X (c_X4_isZeroNow l g N ad y cr dr 0 kn rf pl pz mc (by omega) b0 hb0 a1 s2 H.size) mw_X4_isZeroNow md_X4_isZeroNow rfl lk_X4_156 ⟨Nat.le_of_ble_eq_true rfl, Nat.le_of_ble_eq_true rfl⟩ hA hK hT B (by omega) mg_24 rfl rfl hl.1 rfl (Nat.le_of_ble_eq_true rfl) dX4_isZero_14 ⟨Nat.le_of_ble_eq_true rfl, Nat.le_of_ble_eq_true rfl⟩) (Nat.le_of_ble_eq_true rfl) (Nat.le_of_ble_eq_true rfl) (fun r3 ad3 f' H locs hw B => ?_)
    obtain ⟨rfl, rfl, rfl⟩ := hw
    refine lv_if_eq (tgt := 24) hx hb dX4_isZero_17 (by decide) (fun c4 => ?_) (fun c4 => ?_)
    · refine lv_iconst (v := 0) hx hb dX4_isZero_24 (by decide) ?_
      have ev := (show v_X4_isZero cr a1 = (0, 0) from by unfold v_X4_isZero; rw [if_pos s2, if_pos c4])
      exact rt_i X hr (ad, mg g ad y cr dr 0 kn rf pl pz mc) B (PO_of B) ⟨rfl, by rw [ev], by rw [ev]⟩ rfl (Nat.le_of_ble_eq_true rfl) (Nat.le_of_ble_eq_true rfl) dX4_isZero_25
    · refine lv_iconst (v := 1) hx hb dX4_isZero_20 (by decide) ?_
      refine lv_goto (tgt := 25) hx hb dX4_isZero_21 (by decide) ?_
      have ev := (show v_X4_isZero cr a1 = (1, 0) from by unfold v_X4_isZero; rw [if_pos s2, if_neg c4])
      exact rt_i X hr (ad, mg g ad y cr dr 0 kn rf pl pz mc) B (PO_of B) ⟨rfl, by rw [ev], by rw [ev]⟩ rfl (Nat.le_of_ble_eq_true rfl) (Nat.le_of_ble_eq_true rfl) dX4_isZero_25
  · have s2x : (v_X4_isNone a1) = 1 := (b01_X4_isNone).resolve_left s2
    rw [s2x]
    refine k_i (k := 0) (n := 0) hA B (b_V (q := 24) (rest := []) hb0 X (c_X4_stops l g N ad y cr dr th kn rf pl pz mc (by omega) b0 hb0 1 0 H.size) mw_X4_stops md_X4_stops rfl lk_X4_99 ⟨Nat.le_of_ble_eq_true rfl, Nat.le_of_ble_eq_true rfl⟩ hA hK hT B (by omega) mg_24 rfl rfl hl.1 rfl (Nat.le_of_ble_eq_true rfl) dX4_isZero_6 ⟨Nat.le_of_ble_eq_true rfl, Nat.le_of_ble_eq_true rfl⟩) (Nat.le_of_ble_eq_true rfl) (Nat.le_of_ble_eq_true rfl) (fun r ad' f' H locs hw B => ?_)
    rw [st_10] at hw
    dsimp only at hw
    obtain ⟨rfl, rfl, rfl⟩ := hw
    have B : WB g (aw N ad sz) s.heap N ad (mg g ad y cr dr 1 kn rf pl pz mc) H locs := B
    refine lv_if_ne (tgt := 24) hx hb dX4_isZero_9 (by decide) (fun _ => ?_) (fun z => absurd z (by decide))
    refine lv_iconst (v := 0) hx hb dX4_isZero_24 (by decide) ?_
    have ev := (show v_X4_isZero cr a1 = (0, 1) from by unfold v_X4_isZero; rw [if_neg s2])
    exact rt_i X hr (ad, mg g ad y cr dr 1 kn rf pl pz mc) B (PO_of B) ⟨rfl, by rw [ev], by rw [ev]⟩ rfl (Nat.le_of_ble_eq_true rfl) (Nat.le_of_ble_eq_true rfl) dX4_isZero_25
def v_X4_isNegative (cr : Nat → TR) (a1 : Int32) : Int32 × Int32 := if v_X4_isNone a1 = 0 then (if (v_X4_isNegativeNow cr a1) = 0 then (0, 0) else (1, 0)) else (0, 1)
theorem b01_X4_isNegative {cr : Nat → TR} {a1 : Int32} : (v_X4_isNegative cr a1).1 = 0 ∨ (v_X4_isNegative cr a1).1 = 1 := by
  unfold v_X4_isNegative
  by_cases q1 : v_X4_isNone a1 = 0
  · rw [if_pos q1]
    by_cases q2 : (v_X4_isNegativeNow cr a1) = 0
    · rw [if_pos q2]
      exact Or.inl rfl
    · rw [if_neg q2]
      exact Or.inr rfl
  · rw [if_neg q1]
    exact Or.inl rfl
set_option maxHeartbeats 4000000 in
set_option maxRecDepth 100000 in
theorem c_X4_isNegative (l : Launch) (g : GG) (N : Nat) (ad : Nat → Nat) (y : Nat → va_E) (cr dr : Nat → TR) (th kn rf : Int32) (pl : Nat → TR) (pz : Nat) (mc : Int32) (hN : 36 + pz ≤ N) (b0 : Nat) (hb0 : ad 24 = b0) (a1 : Int32) : KI l yX4_isNegative cX4_isNegative 2 (some .boolean) (rm 1 0 0) g [.ref b0, .int a1] N ad (mg g ad y cr dr th kn rf pl pz mc) N (fun r ad' f' => ad = ad' ∧ (v_X4_isNegative cr a1).1 = r ∧ mg g ad y cr dr (v_X4_isNegative cr a1).2 kn rf pl pz mc = f') := by
  intro sz
  refine mt_start (by decide) (Nat.le_of_ble_eq_true rfl) ?_
  intro p e s m args below meth c hsz X hr hnam hA hK hT H locs B ls hl
  obtain ⟨hx, hb, hml, hown, hts, hlocks⟩ := id X
  have hl : lv_has ls 2 [(0, .ref b0), (1, .int a1)] := hl
  refine lv_aload_n hx hb dX4_isNegative_0 rfl (lv_at hl 0 rfl) ?_
  refine lv_iload_n hx hb dX4_isNegative_1 rfl (lv_at hl 1 rfl) ?_
  refine k_i (k := 0) (n := 0) hA B (u_S (rest := [.ref b0]) X (c_X4_isNone l g N ad (mg g ad y cr dr th kn rf pl pz mc) a1 H.size) mw_X4_isNone md_X4_isNone rfl lk_X4_95 ⟨Nat.le_of_ble_eq_true rfl, Nat.le_of_ble_eq_true rfl⟩ hA hK hT B hl.1 rfl (Nat.le_of_ble_eq_true rfl) dX4_isNegative_2 ⟨Nat.le_of_ble_eq_true rfl, Nat.le_of_ble_eq_true rfl⟩) (Nat.le_of_ble_eq_true rfl) (Nat.le_of_ble_eq_true rfl) (fun r1 ad1 f' H locs hw B => ?_)
  obtain ⟨rfl, rfl, rfl⟩ := hw
  refine lv_iconst (v := 0) hx hb dX4_isNegative_5 (by decide) ?_
  by_cases s2 : v_X4_isNone a1 = 0
  · rw [s2]
    refine k_i (k := 0) (n := 0) hA B (b_V (q := 24) (rest := []) hb0 X (c_X4_stops l g N ad y cr dr th kn rf pl pz mc (by omega) b0 hb0 0 0 H.size) mw_X4_stops md_X4_stops rfl lk_X4_99 ⟨Nat.le_of_ble_eq_true rfl, Nat.le_of_ble_eq_true rfl⟩ hA hK hT B (by omega) mg_24 rfl rfl hl.1 rfl (Nat.le_of_ble_eq_true rfl) dX4_isNegative_6 ⟨Nat.le_of_ble_eq_true rfl, Nat.le_of_ble_eq_true rfl⟩) (Nat.le_of_ble_eq_true rfl) (Nat.le_of_ble_eq_true rfl) (fun r ad' f' H locs hw B => ?_)
    rw [st_00] at hw
    dsimp only at hw
    obtain ⟨rfl, rfl, rfl⟩ := hw
    have B : WB g (aw N ad sz) s.heap N ad (mg g ad y cr dr 0 kn rf pl pz mc) H locs := B
    refine lv_if_ne (tgt := 24) hx hb dX4_isNegative_9 (by decide) (fun z => absurd z (by decide)) (fun _ => ?_)
    refine lv_aload_n hx hb dX4_isNegative_12 rfl (lv_at hl 0 rfl) ?_
    refine lv_iload_n hx hb dX4_isNegative_13 rfl (lv_at hl 1 rfl) ?_
    refine k_i (k := 0) (n := 0) hA B (b_V (q := 24) (rest := []) hb0 X (c_X4_isNegativeNow l g N ad y cr dr 0 kn rf pl pz mc (by omega) b0 hb0 a1 s2 H.size) mw_X4_isNegativeNow md_X4_isNegativeNow rfl lk_X4_159 ⟨Nat.le_of_ble_eq_true rfl, Nat.le_of_ble_eq_true rfl⟩ hA hK hT B (by omega) mg_24 rfl rfl hl.1 rfl (Nat.le_of_ble_eq_true rfl) dX4_isNegative_14 ⟨Nat.le_of_ble_eq_true rfl, Nat.le_of_ble_eq_true rfl⟩) (Nat.le_of_ble_eq_true rfl) (Nat.le_of_ble_eq_true rfl) (fun r3 ad3 f' H locs hw B => ?_)
    obtain ⟨rfl, rfl, rfl⟩ := hw
    refine lv_if_eq (tgt := 24) hx hb dX4_isNegative_17 (by decide) (fun c4 => ?_) (fun c4 => ?_)
    · refine lv_iconst (v := 0) hx hb dX4_isNegative_24 (by decide) ?_
      have ev := (show v_X4_isNegative cr a1 = (0, 0) from by unfold v_X4_isNegative; rw [if_pos s2, if_pos c4])
      exact rt_i X hr (ad, mg g ad y cr dr 0 kn rf pl pz mc) B (PO_of B) ⟨rfl, by rw [ev], by rw [ev]⟩ rfl (Nat.le_of_ble_eq_true rfl) (Nat.le_of_ble_eq_true rfl) dX4_isNegative_25
    · refine lv_iconst (v := 1) hx hb dX4_isNegative_20 (by decide) ?_
      refine lv_goto (tgt := 25) hx hb dX4_isNegative_21 (by decide) ?_
      have ev := (show v_X4_isNegative cr a1 = (1, 0) from by unfold v_X4_isNegative; rw [if_pos s2, if_neg c4])
      exact rt_i X hr (ad, mg g ad y cr dr 0 kn rf pl pz mc) B (PO_of B) ⟨rfl, by rw [ev], by rw [ev]⟩ rfl (Nat.le_of_ble_eq_true rfl) (Nat.le_of_ble_eq_true rfl) dX4_isNegative_25
  · have s2x : (v_X4_isNone a1) = 1 := (b01_X4_isNone).resolve_left s2
    rw [s2x]
    refine k_i (k := 0) (n := 0) hA B (b_V (q := 24) (rest := []) hb0 X (c_X4_stops l g N ad y cr dr th kn rf pl pz mc (by omega) b0 hb0 1 0 H.size) mw_X4_stops md_X4_stops rfl lk_X4_99 ⟨Nat.le_of_ble_eq_true rfl, Nat.le_of_ble_eq_true rfl⟩ hA hK hT B (by omega) mg_24 rfl rfl hl.1 rfl (Nat.le_of_ble_eq_true rfl) dX4_isNegative_6 ⟨Nat.le_of_ble_eq_true rfl, Nat.le_of_ble_eq_true rfl⟩) (Nat.le_of_ble_eq_true rfl) (Nat.le_of_ble_eq_true rfl) (fun r ad' f' H locs hw B => ?_)
    rw [st_10] at hw
    dsimp only at hw
    obtain ⟨rfl, rfl, rfl⟩ := hw
    have B : WB g (aw N ad sz) s.heap N ad (mg g ad y cr dr 1 kn rf pl pz mc) H locs := B
    refine lv_if_ne (tgt := 24) hx hb dX4_isNegative_9 (by decide) (fun _ => ?_) (fun z => absurd z (by decide))
    refine lv_iconst (v := 0) hx hb dX4_isNegative_24 (by decide) ?_
    have ev := (show v_X4_isNegative cr a1 = (0, 1) from by unfold v_X4_isNegative; rw [if_neg s2])
    exact rt_i X hr (ad, mg g ad y cr dr 1 kn rf pl pz mc) B (PO_of B) ⟨rfl, by rw [ev], by rw [ev]⟩ rfl (Nat.le_of_ble_eq_true rfl) (Nat.le_of_ble_eq_true rfl) dX4_isNegative_25
def v_X4_areSame (cr : Nat → TR) (a1 : Int32) (a2 : Int32) : Int32 × Int32 := if (v_X4_isNone a1) = 0 then (if (v_X4_isNone a2) = 0 then (if (v_X4_isSame (cr a1.toNatClampNeg) (cr a2.toNatClampNeg)) = 0 then (0, 0) else (1, 0)) else (0, 1)) else (0, 1)
theorem b01_X4_areSame {cr : Nat → TR} {a1 : Int32} {a2 : Int32} : (v_X4_areSame cr a1 a2).1 = 0 ∨ (v_X4_areSame cr a1 a2).1 = 1 := by
  unfold v_X4_areSame
  by_cases q1 : (v_X4_isNone a1) = 0
  · rw [if_pos q1]
    by_cases q2 : (v_X4_isNone a2) = 0
    · rw [if_pos q2]
      by_cases q3 : (v_X4_isSame (cr a1.toNatClampNeg) (cr a2.toNatClampNeg)) = 0
      · rw [if_pos q3]
        exact Or.inl rfl
      · rw [if_neg q3]
        exact Or.inr rfl
    · rw [if_neg q2]
      exact Or.inl rfl
  · rw [if_neg q1]
    exact Or.inl rfl
set_option maxHeartbeats 4000000 in
set_option maxRecDepth 100000 in
theorem c_X4_areSame (l : Launch) (g : GG) (N : Nat) (ad : Nat → Nat) (y : Nat → va_E) (cr dr : Nat → TR) (th kn rf : Int32) (pl : Nat → TR) (pz : Nat) (mc : Int32) (hN : 36 + pz ≤ N) (b0 : Nat) (hb0 : ad 24 = b0) (a1 : Int32) (a2 : Int32) : KI l yX4_areSame cX4_areSame 3 (some .boolean) (rm 1 0 0) g [.ref b0, .int a1, .int a2] N ad (mg g ad y cr dr th kn rf pl pz mc) N (fun r ad' f' => ad = ad' ∧ (v_X4_areSame cr a1 a2).1 = r ∧ mg g ad y cr dr (v_X4_areSame cr a1 a2).2 kn rf pl pz mc = f') := by
  intro sz
  refine mt_start (by decide) (Nat.le_of_ble_eq_true rfl) ?_
  intro p e s m args below meth c hsz X hr hnam hA hK hT H locs B ls hl
  obtain ⟨hx, hb, hml, hown, hts, hlocks⟩ := id X
  have hl : lv_has ls 3 [(0, .ref b0), (1, .int a1), (2, .int a2)] := hl
  refine lv_aload_n hx hb dX4_areSame_0 rfl (lv_at hl 0 rfl) ?_
  refine lv_iload_n hx hb dX4_areSame_1 rfl (lv_at hl 1 rfl) ?_
  refine k_i (k := 0) (n := 0) hA B (u_S (rest := [.ref b0]) X (c_X4_isNone l g N ad (mg g ad y cr dr th kn rf pl pz mc) a1 H.size) mw_X4_isNone md_X4_isNone rfl lk_X4_95 ⟨Nat.le_of_ble_eq_true rfl, Nat.le_of_ble_eq_true rfl⟩ hA hK hT B hl.1 rfl (Nat.le_of_ble_eq_true rfl) dX4_areSame_2 ⟨Nat.le_of_ble_eq_true rfl, Nat.le_of_ble_eq_true rfl⟩) (Nat.le_of_ble_eq_true rfl) (Nat.le_of_ble_eq_true rfl) (fun r1 ad1 f' H locs hw B => ?_)
  obtain ⟨rfl, rfl, rfl⟩ := hw
  refine lv_if_ne (tgt := 15) hx hb dX4_areSame_5 (by decide) (fun c2 => ?_) (fun c2 => ?_)
  · refine lv_iconst (v := 1) hx hb dX4_areSame_15 (by decide) ?_
    refine lv_goto (tgt := 20) hx hb dX4_areSame_16 (by decide) ?_
    refine lv_iconst (v := 0) hx hb dX4_areSame_20 (by decide) ?_
    refine k_i (k := 0) (n := 0) hA B (b_V (q := 24) (rest := []) hb0 X (c_X4_stops l g N ad y cr dr th kn rf pl pz mc (by omega) b0 hb0 1 0 H.size) mw_X4_stops md_X4_stops rfl lk_X4_99 ⟨Nat.le_of_ble_eq_true rfl, Nat.le_of_ble_eq_true rfl⟩ hA hK hT B (by omega) mg_24 rfl rfl hl.1 rfl (Nat.le_of_ble_eq_true rfl) dX4_areSame_21 ⟨Nat.le_of_ble_eq_true rfl, Nat.le_of_ble_eq_true rfl⟩) (Nat.le_of_ble_eq_true rfl) (Nat.le_of_ble_eq_true rfl) (fun r ad' f' H locs hw B => ?_)
    rw [st_10] at hw
    dsimp only at hw
    obtain ⟨rfl, rfl, rfl⟩ := hw
    have B : WB g (aw N ad sz) s.heap N ad (mg g ad y cr dr 1 kn rf pl pz mc) H locs := B
    refine lv_if_ne (tgt := 49) hx hb dX4_areSame_24 (by decide) (fun _ => ?_) (fun z => absurd z (by decide))
    refine lv_iconst (v := 0) hx hb dX4_areSame_49 (by decide) ?_
    have ev := (show v_X4_areSame cr a1 a2 = (0, 1) from by unfold v_X4_areSame; rw [if_neg c2])
    exact rt_i X hr (ad, mg g ad y cr dr 1 kn rf pl pz mc) B (PO_of B) ⟨rfl, by rw [ev], by rw [ev]⟩ rfl (Nat.le_of_ble_eq_true rfl) (Nat.le_of_ble_eq_true rfl) dX4_areSame_50
  · refine lv_iload_n hx hb dX4_areSame_8 rfl (lv_at hl 2 rfl) ?_
    refine k_i (k := 0) (n := 0) hA B (u_S (rest := [.ref b0]) X (c_X4_isNone l g N ad (mg g ad y cr dr th kn rf pl pz mc) a2 H.size) mw_X4_isNone md_X4_isNone rfl lk_X4_95 ⟨Nat.le_of_ble_eq_true rfl, Nat.le_of_ble_eq_true rfl⟩ hA hK hT B hl.1 rfl (Nat.le_of_ble_eq_true rfl) dX4_areSame_9 ⟨Nat.le_of_ble_eq_true rfl, Nat.le_of_ble_eq_true rfl⟩) (Nat.le_of_ble_eq_true rfl) (Nat.le_of_ble_eq_true rfl) (fun r3 ad3 f' H locs hw B => ?_)
    obtain ⟨rfl, rfl, rfl⟩ := hw
    refine lv_if_eq (tgt := 19) hx hb dX4_areSame_12 (by decide) (fun c4 => ?_) (fun c4 => ?_)
    · refine lv_iconst (v := 0) hx hb dX4_areSame_19 (by decide) ?_
      refine lv_iconst (v := 0) hx hb dX4_areSame_20 (by decide) ?_
      refine k_i (k := 0) (n := 0) hA B (b_V (q := 24) (rest := []) hb0 X (c_X4_stops l g N ad y cr dr th kn rf pl pz mc (by omega) b0 hb0 0 0 H.size) mw_X4_stops md_X4_stops rfl lk_X4_99 ⟨Nat.le_of_ble_eq_true rfl, Nat.le_of_ble_eq_true rfl⟩ hA hK hT B (by omega) mg_24 rfl rfl hl.1 rfl (Nat.le_of_ble_eq_true rfl) dX4_areSame_21 ⟨Nat.le_of_ble_eq_true rfl, Nat.le_of_ble_eq_true rfl⟩) (Nat.le_of_ble_eq_true rfl) (Nat.le_of_ble_eq_true rfl) (fun r ad' f' H locs hw B => ?_)
      rw [st_00] at hw
      dsimp only at hw
      obtain ⟨rfl, rfl, rfl⟩ := hw
      have B : WB g (aw N ad sz) s.heap N ad (mg g ad y cr dr 0 kn rf pl pz mc) H locs := B
      refine lv_if_ne (tgt := 49) hx hb dX4_areSame_24 (by decide) (fun z => absurd z (by decide)) (fun _ => ?_)
      refine lv_aload_n hx hb dX4_areSame_27 rfl (lv_at hl 0 rfl) ?_
      refine b_get (q := 24) (k := 1) hb0 X hK B rfl in_X4 (by omega) mg_24 (by decide) lk_X4_11 rfl rfl dX4_areSame_28 ?_
      refine lv_iload_n hx hb dX4_areSame_31 rfl (lv_at hl 1 rfl) ?_
      refine b_aald (q := 25) (t0 := 2) (v := ad (28 + a1.toNatClampNeg)) rfl X hK B (by omega) mg_25 rfl rfl (no_in c2) rfl dX4_areSame_32 ?_
      have g5 : a1.toNatClampNeg < 4 := (no_lt c2)
      refine lv_aload_n hx hb dX4_areSame_33 rfl (lv_at hl 0 rfl) ?_
      refine b_get (q := 24) (k := 1) hb0 X hK B rfl in_X4 (by omega) mg_24 (by decide) lk_X4_11 rfl rfl dX4_areSame_34 ?_
      refine lv_iload_n hx hb dX4_areSame_37 rfl (lv_at hl 2 rfl) ?_
      refine b_aald (q := 25) (t0 := 2) (v := ad (28 + a2.toNatClampNeg)) rfl X hK B (by omega) mg_25 rfl rfl (no_in c4) rfl dX4_areSame_38 ?_
      have g6 : a2.toNatClampNeg < 4 := (no_lt c4)
      refine k_i (k := 0) (n := 0) hA B (u_S (rest := []) X (c_X4_isSame l g N ad (mg g ad y cr dr 0 kn rf pl pz mc) (28 + a1.toNatClampNeg) (ad (28 + a1.toNatClampNeg)) (cr a1.toNatClampNeg) (pl_cr hN g5) rfl (mg_cr g5) (28 + a2.toNatClampNeg) (ad (28 + a2.toNatClampNeg)) (cr a2.toNatClampNeg) (pl_cr hN g6) rfl (mg_cr g6) H.size) mw_X4_isSame md_X4_isSame rfl lk_X4_87 ⟨Nat.le_of_ble_eq_true rfl, Nat.le_of_ble_eq_true rfl⟩ hA hK hT B hl.1 rfl (Nat.le_of_ble_eq_true rfl) dX4_areSame_39 ⟨Nat.le_of_ble_eq_true rfl, Nat.le_of_ble_eq_true rfl⟩) (Nat.le_of_ble_eq_true rfl) (Nat.le_of_ble_eq_true rfl) (fun r7 ad7 f' H locs hw B => ?_)
      obtain ⟨rfl, rfl, rfl⟩ := hw
      refine lv_if_eq (tgt := 49) hx hb dX4_areSame_42 (by decide) (fun c8 => ?_) (fun c8 => ?_)
      · refine lv_iconst (v := 0) hx hb dX4_areSame_49 (by decide) ?_
        have ev := (show v_X4_areSame cr a1 a2 = (0, 0) from by unfold v_X4_areSame; rw [if_pos c2, if_pos c4, if_pos c8])
        exact rt_i X hr (ad, mg g ad y cr dr 0 kn rf pl pz mc) B (PO_of B) ⟨rfl, by rw [ev], by rw [ev]⟩ rfl (Nat.le_of_ble_eq_true rfl) (Nat.le_of_ble_eq_true rfl) dX4_areSame_50
      · refine lv_iconst (v := 1) hx hb dX4_areSame_45 (by decide) ?_
        refine lv_goto (tgt := 50) hx hb dX4_areSame_46 (by decide) ?_
        have ev := (show v_X4_areSame cr a1 a2 = (1, 0) from by unfold v_X4_areSame; rw [if_pos c2, if_pos c4, if_neg c8])
        exact rt_i X hr (ad, mg g ad y cr dr 0 kn rf pl pz mc) B (PO_of B) ⟨rfl, by rw [ev], by rw [ev]⟩ rfl (Nat.le_of_ble_eq_true rfl) (Nat.le_of_ble_eq_true rfl) dX4_areSame_50
    · refine lv_iconst (v := 1) hx hb dX4_areSame_15 (by decide) ?_
      refine lv_goto (tgt := 20) hx hb dX4_areSame_16 (by decide) ?_
      refine lv_iconst (v := 0) hx hb dX4_areSame_20 (by decide) ?_
      refine k_i (k := 0) (n := 0) hA B (b_V (q := 24) (rest := []) hb0 X (c_X4_stops l g N ad y cr dr th kn rf pl pz mc (by omega) b0 hb0 1 0 H.size) mw_X4_stops md_X4_stops rfl lk_X4_99 ⟨Nat.le_of_ble_eq_true rfl, Nat.le_of_ble_eq_true rfl⟩ hA hK hT B (by omega) mg_24 rfl rfl hl.1 rfl (Nat.le_of_ble_eq_true rfl) dX4_areSame_21 ⟨Nat.le_of_ble_eq_true rfl, Nat.le_of_ble_eq_true rfl⟩) (Nat.le_of_ble_eq_true rfl) (Nat.le_of_ble_eq_true rfl) (fun r ad' f' H locs hw B => ?_)
      rw [st_10] at hw
      dsimp only at hw
      obtain ⟨rfl, rfl, rfl⟩ := hw
      have B : WB g (aw N ad sz) s.heap N ad (mg g ad y cr dr 1 kn rf pl pz mc) H locs := B
      refine lv_if_ne (tgt := 49) hx hb dX4_areSame_24 (by decide) (fun _ => ?_) (fun z => absurd z (by decide))
      refine lv_iconst (v := 0) hx hb dX4_areSame_49 (by decide) ?_
      have ev := (show v_X4_areSame cr a1 a2 = (0, 1) from by unfold v_X4_areSame; rw [if_pos c2, if_neg c4])
      exact rt_i X hr (ad, mg g ad y cr dr 1 kn rf pl pz mc) B (PO_of B) ⟨rfl, by rw [ev], by rw [ev]⟩ rfl (Nat.le_of_ble_eq_true rfl) (Nat.le_of_ble_eq_true rfl) dX4_areSame_50
def v_X4_areAlike (cr : Nat → TR) (a1 : Int32) (a2 : Int32) : Int32 × Int32 := if (v_X4_isNone a1) = 0 then (if (v_X4_isNone a2) = 0 then (if (v_X4_isAlike (cr a1.toNatClampNeg) (cr a2.toNatClampNeg)) = 0 then (0, 0) else (1, 0)) else (0, 1)) else (0, 1)
theorem b01_X4_areAlike {cr : Nat → TR} {a1 : Int32} {a2 : Int32} : (v_X4_areAlike cr a1 a2).1 = 0 ∨ (v_X4_areAlike cr a1 a2).1 = 1 := by
  unfold v_X4_areAlike
  by_cases q1 : (v_X4_isNone a1) = 0
  · rw [if_pos q1]
    by_cases q2 : (v_X4_isNone a2) = 0
    · rw [if_pos q2]
      by_cases q3 : (v_X4_isAlike (cr a1.toNatClampNeg) (cr a2.toNatClampNeg)) = 0
      · rw [if_pos q3]
        exact Or.inl rfl
      · rw [if_neg q3]
        exact Or.inr rfl
    · rw [if_neg q2]
      exact Or.inl rfl
  · rw [if_neg q1]
    exact Or.inl rfl
set_option maxHeartbeats 4000000 in
set_option maxRecDepth 100000 in
theorem c_X4_areAlike (l : Launch) (g : GG) (N : Nat) (ad : Nat → Nat) (y : Nat → va_E) (cr dr : Nat → TR) (th kn rf : Int32) (pl : Nat → TR) (pz : Nat) (mc : Int32) (hN : 36 + pz ≤ N) (b0 : Nat) (hb0 : ad 24 = b0) (a1 : Int32) (a2 : Int32) : KI l yX4_areAlike cX4_areAlike 3 (some .boolean) (rm 2 0 0) g [.ref b0, .int a1, .int a2] N ad (mg g ad y cr dr th kn rf pl pz mc) N (fun r ad' f' => ad = ad' ∧ (v_X4_areAlike cr a1 a2).1 = r ∧ mg g ad y cr dr (v_X4_areAlike cr a1 a2).2 kn rf pl pz mc = f') := by
  intro sz
  refine mt_start (by decide) (Nat.le_of_ble_eq_true rfl) ?_
  intro p e s m args below meth c hsz X hr hnam hA hK hT H locs B ls hl
  obtain ⟨hx, hb, hml, hown, hts, hlocks⟩ := id X
  have hl : lv_has ls 3 [(0, .ref b0), (1, .int a1), (2, .int a2)] := hl
  refine lv_aload_n hx hb dX4_areAlike_0 rfl (lv_at hl 0 rfl) ?_
  refine lv_iload_n hx hb dX4_areAlike_1 rfl (lv_at hl 1 rfl) ?_
  refine k_i (k := 0) (n := 0) hA B (u_S (rest := [.ref b0]) X (c_X4_isNone l g N ad (mg g ad y cr dr th kn rf pl pz mc) a1 H.size) mw_X4_isNone md_X4_isNone rfl lk_X4_95 ⟨Nat.le_of_ble_eq_true rfl, Nat.le_of_ble_eq_true rfl⟩ hA hK hT B hl.1 rfl (Nat.le_of_ble_eq_true rfl) dX4_areAlike_2 ⟨Nat.le_of_ble_eq_true rfl, Nat.le_of_ble_eq_true rfl⟩) (Nat.le_of_ble_eq_true rfl) (Nat.le_of_ble_eq_true rfl) (fun r1 ad1 f' H locs hw B => ?_)
  obtain ⟨rfl, rfl, rfl⟩ := hw
  refine lv_if_ne (tgt := 15) hx hb dX4_areAlike_5 (by decide) (fun c2 => ?_) (fun c2 => ?_)
  · refine lv_iconst (v := 1) hx hb dX4_areAlike_15 (by decide) ?_
    refine lv_goto (tgt := 20) hx hb dX4_areAlike_16 (by decide) ?_
    refine lv_iconst (v := 0) hx hb dX4_areAlike_20 (by decide) ?_
    refine k_i (k := 0) (n := 0) hA B (b_V (q := 24) (rest := []) hb0 X (c_X4_stops l g N ad y cr dr th kn rf pl pz mc (by omega) b0 hb0 1 0 H.size) mw_X4_stops md_X4_stops rfl lk_X4_99 ⟨Nat.le_of_ble_eq_true rfl, Nat.le_of_ble_eq_true rfl⟩ hA hK hT B (by omega) mg_24 rfl rfl hl.1 rfl (Nat.le_of_ble_eq_true rfl) dX4_areAlike_21 ⟨Nat.le_of_ble_eq_true rfl, Nat.le_of_ble_eq_true rfl⟩) (Nat.le_of_ble_eq_true rfl) (Nat.le_of_ble_eq_true rfl) (fun r ad' f' H locs hw B => ?_)
    rw [st_10] at hw
    dsimp only at hw
    obtain ⟨rfl, rfl, rfl⟩ := hw
    have B : WB g (aw N ad sz) s.heap N ad (mg g ad y cr dr 1 kn rf pl pz mc) H locs := B
    refine lv_if_ne (tgt := 49) hx hb dX4_areAlike_24 (by decide) (fun _ => ?_) (fun z => absurd z (by decide))
    refine lv_iconst (v := 0) hx hb dX4_areAlike_49 (by decide) ?_
    have ev := (show v_X4_areAlike cr a1 a2 = (0, 1) from by unfold v_X4_areAlike; rw [if_neg c2])
    exact rt_i X hr (ad, mg g ad y cr dr 1 kn rf pl pz mc) B (PO_of B) ⟨rfl, by rw [ev], by rw [ev]⟩ rfl (Nat.le_of_ble_eq_true rfl) (Nat.le_of_ble_eq_true rfl) dX4_areAlike_50
  · refine lv_iload_n hx hb dX4_areAlike_8 rfl (lv_at hl 2 rfl) ?_
    refine k_i (k := 0) (n := 0) hA B (u_S (rest := [.ref b0]) X (c_X4_isNone l g N ad (mg g ad y cr dr th kn rf pl pz mc) a2 H.size) mw_X4_isNone md_X4_isNone rfl lk_X4_95 ⟨Nat.le_of_ble_eq_true rfl, Nat.le_of_ble_eq_true rfl⟩ hA hK hT B hl.1 rfl (Nat.le_of_ble_eq_true rfl) dX4_areAlike_9 ⟨Nat.le_of_ble_eq_true rfl, Nat.le_of_ble_eq_true rfl⟩) (Nat.le_of_ble_eq_true rfl) (Nat.le_of_ble_eq_true rfl) (fun r3 ad3 f' H locs hw B => ?_)
    obtain ⟨rfl, rfl, rfl⟩ := hw
    refine lv_if_eq (tgt := 19) hx hb dX4_areAlike_12 (by decide) (fun c4 => ?_) (fun c4 => ?_)
    · refine lv_iconst (v := 0) hx hb dX4_areAlike_19 (by decide) ?_
      refine lv_iconst (v := 0) hx hb dX4_areAlike_20 (by decide) ?_
      refine k_i (k := 0) (n := 0) hA B (b_V (q := 24) (rest := []) hb0 X (c_X4_stops l g N ad y cr dr th kn rf pl pz mc (by omega) b0 hb0 0 0 H.size) mw_X4_stops md_X4_stops rfl lk_X4_99 ⟨Nat.le_of_ble_eq_true rfl, Nat.le_of_ble_eq_true rfl⟩ hA hK hT B (by omega) mg_24 rfl rfl hl.1 rfl (Nat.le_of_ble_eq_true rfl) dX4_areAlike_21 ⟨Nat.le_of_ble_eq_true rfl, Nat.le_of_ble_eq_true rfl⟩) (Nat.le_of_ble_eq_true rfl) (Nat.le_of_ble_eq_true rfl) (fun r ad' f' H locs hw B => ?_)
      rw [st_00] at hw
      dsimp only at hw
      obtain ⟨rfl, rfl, rfl⟩ := hw
      have B : WB g (aw N ad sz) s.heap N ad (mg g ad y cr dr 0 kn rf pl pz mc) H locs := B
      refine lv_if_ne (tgt := 49) hx hb dX4_areAlike_24 (by decide) (fun z => absurd z (by decide)) (fun _ => ?_)
      refine lv_aload_n hx hb dX4_areAlike_27 rfl (lv_at hl 0 rfl) ?_
      refine b_get (q := 24) (k := 1) hb0 X hK B rfl in_X4 (by omega) mg_24 (by decide) lk_X4_11 rfl rfl dX4_areAlike_28 ?_
      refine lv_iload_n hx hb dX4_areAlike_31 rfl (lv_at hl 1 rfl) ?_
      refine b_aald (q := 25) (t0 := 2) (v := ad (28 + a1.toNatClampNeg)) rfl X hK B (by omega) mg_25 rfl rfl (no_in c2) rfl dX4_areAlike_32 ?_
      have g5 : a1.toNatClampNeg < 4 := (no_lt c2)
      refine lv_aload_n hx hb dX4_areAlike_33 rfl (lv_at hl 0 rfl) ?_
      refine b_get (q := 24) (k := 1) hb0 X hK B rfl in_X4 (by omega) mg_24 (by decide) lk_X4_11 rfl rfl dX4_areAlike_34 ?_
      refine lv_iload_n hx hb dX4_areAlike_37 rfl (lv_at hl 2 rfl) ?_
      refine b_aald (q := 25) (t0 := 2) (v := ad (28 + a2.toNatClampNeg)) rfl X hK B (by omega) mg_25 rfl rfl (no_in c4) rfl dX4_areAlike_38 ?_
      have g6 : a2.toNatClampNeg < 4 := (no_lt c4)
      refine k_i (k := 0) (n := 0) hA B (u_S (rest := []) X (c_X4_isAlike l g N ad (mg g ad y cr dr 0 kn rf pl pz mc) (28 + a1.toNatClampNeg) (ad (28 + a1.toNatClampNeg)) (cr a1.toNatClampNeg) (pl_cr hN g5) rfl (mg_cr g5) (28 + a2.toNatClampNeg) (ad (28 + a2.toNatClampNeg)) (cr a2.toNatClampNeg) (pl_cr hN g6) rfl (mg_cr g6) H.size) mw_X4_isAlike md_X4_isAlike rfl lk_X4_162 ⟨Nat.le_of_ble_eq_true rfl, Nat.le_of_ble_eq_true rfl⟩ hA hK hT B hl.1 rfl (Nat.le_of_ble_eq_true rfl) dX4_areAlike_39 ⟨Nat.le_of_ble_eq_true rfl, Nat.le_of_ble_eq_true rfl⟩) (Nat.le_of_ble_eq_true rfl) (Nat.le_of_ble_eq_true rfl) (fun r7 ad7 f' H locs hw B => ?_)
      obtain ⟨rfl, rfl, rfl⟩ := hw
      refine lv_if_eq (tgt := 49) hx hb dX4_areAlike_42 (by decide) (fun c8 => ?_) (fun c8 => ?_)
      · refine lv_iconst (v := 0) hx hb dX4_areAlike_49 (by decide) ?_
        have ev := (show v_X4_areAlike cr a1 a2 = (0, 0) from by unfold v_X4_areAlike; rw [if_pos c2, if_pos c4, if_pos c8])
        exact rt_i X hr (ad, mg g ad y cr dr 0 kn rf pl pz mc) B (PO_of B) ⟨rfl, by rw [ev], by rw [ev]⟩ rfl (Nat.le_of_ble_eq_true rfl) (Nat.le_of_ble_eq_true rfl) dX4_areAlike_50
      · refine lv_iconst (v := 1) hx hb dX4_areAlike_45 (by decide) ?_
        refine lv_goto (tgt := 50) hx hb dX4_areAlike_46 (by decide) ?_
        have ev := (show v_X4_areAlike cr a1 a2 = (1, 0) from by unfold v_X4_areAlike; rw [if_pos c2, if_pos c4, if_neg c8])
        exact rt_i X hr (ad, mg g ad y cr dr 0 kn rf pl pz mc) B (PO_of B) ⟨rfl, by rw [ev], by rw [ev]⟩ rfl (Nat.le_of_ble_eq_true rfl) (Nat.le_of_ble_eq_true rfl) dX4_areAlike_50
    · refine lv_iconst (v := 1) hx hb dX4_areAlike_15 (by decide) ?_
      refine lv_goto (tgt := 20) hx hb dX4_areAlike_16 (by decide) ?_
      refine lv_iconst (v := 0) hx hb dX4_areAlike_20 (by decide) ?_
      refine k_i (k := 0) (n := 0) hA B (b_V (q := 24) (rest := []) hb0 X (c_X4_stops l g N ad y cr dr th kn rf pl pz mc (by omega) b0 hb0 1 0 H.size) mw_X4_stops md_X4_stops rfl lk_X4_99 ⟨Nat.le_of_ble_eq_true rfl, Nat.le_of_ble_eq_true rfl⟩ hA hK hT B (by omega) mg_24 rfl rfl hl.1 rfl (Nat.le_of_ble_eq_true rfl) dX4_areAlike_21 ⟨Nat.le_of_ble_eq_true rfl, Nat.le_of_ble_eq_true rfl⟩) (Nat.le_of_ble_eq_true rfl) (Nat.le_of_ble_eq_true rfl) (fun r ad' f' H locs hw B => ?_)
      rw [st_10] at hw
      dsimp only at hw
      obtain ⟨rfl, rfl, rfl⟩ := hw
      have B : WB g (aw N ad sz) s.heap N ad (mg g ad y cr dr 1 kn rf pl pz mc) H locs := B
      refine lv_if_ne (tgt := 49) hx hb dX4_areAlike_24 (by decide) (fun _ => ?_) (fun z => absurd z (by decide))
      refine lv_iconst (v := 0) hx hb dX4_areAlike_49 (by decide) ?_
      have ev := (show v_X4_areAlike cr a1 a2 = (0, 1) from by unfold v_X4_areAlike; rw [if_pos c2, if_neg c4])
      exact rt_i X hr (ad, mg g ad y cr dr 1 kn rf pl pz mc) B (PO_of B) ⟨rfl, by rw [ev], by rw [ev]⟩ rfl (Nat.le_of_ble_eq_true rfl) (Nat.le_of_ble_eq_true rfl) dX4_areAlike_50
def v_X4_knock (kn : Int32) : Int32 × Int32 × Int32 := (kn + 1, 0, kn + 1)
set_option maxHeartbeats 4000000 in
set_option maxRecDepth 100000 in
theorem c_X4_knock (l : Launch) (g : GG) (N : Nat) (ad : Nat → Nat) (y : Nat → va_E) (cr dr : Nat → TR) (th kn rf : Int32) (pl : Nat → TR) (pz : Nat) (mc : Int32) (hN : 36 + pz ≤ N) (b0 : Nat) (hb0 : ad 24 = b0) : KI l yX4_knock cX4_knock 1 (some .int) (rm 0 0 0) g [.ref b0] N ad (mg g ad y cr dr th kn rf pl pz mc) N (fun r ad' f' => ad = ad' ∧ (v_X4_knock kn).1 = r ∧ mg g ad y cr dr (v_X4_knock kn).2.1 (v_X4_knock kn).2.2 rf pl pz mc = f') := by
  intro sz
  refine mt_start (by decide) (Nat.le_of_ble_eq_true rfl) ?_
  intro p e s m args below meth c hsz X hr hnam hA hK hT H locs B ls hl
  obtain ⟨hx, hb, hml, hown, hts, hlocks⟩ := id X
  have hl : lv_has ls 1 [(0, .ref b0)] := hl
  refine lv_aload_n hx hb dX4_knock_0 rfl (lv_at hl 0 rfl) ?_
  refine lv_iconst (v := 0) hx hb dX4_knock_1 (by decide) ?_
  refine b_put (q := 24) (k := 0) hb0 X hK B rfl in_X4 tyX4_ok nmX4 (by omega) mg_24 (by decide) lk_X4_26 rfl rfl rfl rfl rfl (Nat.le_of_ble_eq_true rfl) dX4_knock_2 (fun H locs B => ?_)
  have B : WB g (aw N ad sz) s.heap N ad (mg g ad y cr dr 0 kn rf pl pz mc) H locs := by rw [← mg_up_md]; exact B
  refine lv_aload_n hx hb dX4_knock_5 rfl (lv_at hl 0 rfl) ?_
  refine lv_dup hx hb dX4_knock_6 rfl ?_
  refine b_get (q := 24) (k := 4) hb0 X hK B rfl in_X4 (by omega) mg_24 (by decide) lk_X4_246 rfl rfl dX4_knock_7 ?_
  refine lv_iconst (v := 1) hx hb dX4_knock_10 (by decide) ?_
  refine lv_iadd hx hb dX4_knock_11 ?_
  refine b_put (q := 24) (k := 4) hb0 X hK B rfl in_X4 tyX4_ok nmX4 (by omega) mg_24 (by decide) lk_X4_246 rfl rfl rfl rfl rfl (Nat.le_of_ble_eq_true rfl) dX4_knock_12 (fun H locs B => ?_)
  have B : WB g (aw N ad sz) s.heap N ad (mg g ad y cr dr 0 (kn + 1) rf pl pz mc) H locs := by rw [← mg_up_md]; exact B
  refine lv_aload_n hx hb dX4_knock_15 rfl (lv_at hl 0 rfl) ?_
  refine b_get (q := 24) (k := 4) hb0 X hK B rfl in_X4 (by omega) mg_24 (by decide) lk_X4_246 rfl rfl dX4_knock_16 ?_
  have ev := (show v_X4_knock kn = (kn + 1, 0, kn + 1) from rfl)
  exact rt_i X hr (ad, mg g ad y cr dr 0 (kn + 1) rf pl pz mc) B (PO_of B) ⟨rfl, by rw [ev], by rw [ev]⟩ rfl (Nat.le_of_ble_eq_true rfl) (Nat.le_of_ble_eq_true rfl) dX4_knock_19
end
