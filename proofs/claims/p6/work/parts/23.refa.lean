/-! dates that are in the calendar, and that apart's month is there -/
def okd (t : TR) : Prop := 1600 ≤ t.1.toInt ∧ t.1.toInt ≤ 2400 ∧ 1 ≤ t.2.1.toInt ∧ t.2.1.toInt ≤ 12 ∧ 1 ≤ t.2.2.toInt ∧ t.2.2.toInt ≤ 31
theorem okd_mo {t : TR} (h : okd t) : ¬ 12 < t.2.1 := by
  rw [Int32.lt_iff_toInt_lt]
  have := h.2.2.2.1
  have e12 : (12 : Int32).toInt = 12 := rfl
  omega
theorem add_i {x y : Int32} (h1 : -2147483648 ≤ x.toInt + y.toInt) (h2 : x.toInt + y.toInt ≤ 2147483647) : (x + y).toInt = x.toInt + y.toInt := by
  rw [Int32.toInt_add, Int.bmod_eq_of_le (by omega) (by omega)]
theorem sub_i {x y : Int32} (h1 : -2147483648 ≤ x.toInt - y.toInt) (h2 : x.toInt - y.toInt ≤ 2147483647) : (x - y).toInt = x.toInt - y.toInt := by
  rw [Int32.toInt_sub, Int.bmod_eq_of_le (by omega) (by omega)]
theorem add_l {x y : Int64} (h1 : -9223372036854775808 ≤ x.toInt + y.toInt) (h2 : x.toInt + y.toInt ≤ 9223372036854775807) : (x + y).toInt = x.toInt + y.toInt := by
  rw [Int64.toInt_add, Int.bmod_eq_of_le (by omega) (by omega)]
theorem sub_l {x y : Int64} (h1 : -9223372036854775808 ≤ x.toInt - y.toInt) (h2 : x.toInt - y.toInt ≤ 9223372036854775807) : (x - y).toInt = x.toInt - y.toInt := by
  rw [Int64.toInt_sub, Int.bmod_eq_of_le (by omega) (by omega)]
theorem ylen1 (y : Int32) : (365 + v_X4_one (v_X4_isLong y)).toInt = 365 ∨ (365 + v_X4_one (v_X4_isLong y)).toInt = 366 := by
  unfold v_X4_one
  by_cases h : v_X4_isLong y = 0
  · rw [if_pos h]; exact Or.inl rfl
  · rw [if_neg h]; exact Or.inr rfl
theorem dT_w {a0 : Int32} (ha : a0.toInt ≤ 2401) : ∀ (n j : Nat) (yy ds : Int32), (a0.toInt - yy.toInt).toNat < n → yy.toInt = 1600 + j → 0 ≤ ds.toInt → ds.toInt ≤ 366 * j → j ≤ 801 → 0 ≤ (wX4_daysTo_6 a0 n yy ds).toInt ∧ (wX4_daysTo_6 a0 n yy ds).toInt ≤ 300000 := by
  intro n
  induction n with
  | zero => intro j yy ds h; omega
  | succ n ih =>
    intro j yy ds hn hy h0 h1 hj
    rw [wX4_daysTo_6]
    by_cases c : a0 ≤ yy
    · rw [if_pos c]; omega
    · rw [if_neg c]
      rw [Int32.le_iff_toInt_le] at c
      have e1 : (1 : Int32).toInt = 1 := rfl
      have ey : (yy + 1).toInt = yy.toInt + 1 := add_i (by omega) (by omega)
      have hl := ylen1 yy
      have ed := add_i (x := ds) (y := 365 + v_X4_one (v_X4_isLong yy)) (by omega) (by omega)
      exact ih (j + 1) _ _ (by omega) (by omega) (by omega) (by omega) (by omega)
theorem dT_b {a : Int32} (h0 : 1600 ≤ a.toInt) (h1 : a.toInt ≤ 2401) : 0 ≤ (v_X4_daysTo a).toInt ∧ (v_X4_daysTo a).toInt ≤ 300000 := by
  unfold v_X4_daysTo
  have e : (1600 : Int32).toInt = 1600 := rfl
  have e0 : (0 : Int32).toInt = 0 := rfl
  exact dT_w h1 _ 0 1600 0 (by omega) (by omega) (by omega) (by omega) (by omega)
theorem nb_w {t : TR} (ht : t.2.1.toInt ≤ 12) : ∀ (n j : Nat) (mm ds : Int32), (t.2.1.toInt - mm.toInt).toNat < n → mm.toInt = j + 1 → j ≤ 12 → -1000000 ≤ ds.toInt → ds.toInt ≤ 1000000 + 31 * j → ds.toInt ≤ (wX4_number_22 t n mm ds).toInt ∧ (mm.toInt < t.2.1.toInt → ds.toInt + 28 ≤ (wX4_number_22 t n mm ds).toInt) ∧ (wX4_number_22 t n mm ds).toInt ≤ 1000400 := by
  intro n
  induction n with
  | zero => intro j mm ds h; omega
  | succ n ih =>
    intro j mm ds hn hm hj h0 h1
    rw [wX4_number_22]
    by_cases c : t.2.1 ≤ mm
    · rw [if_pos c]
      rw [Int32.le_iff_toInt_le] at c
      omega
    · rw [if_neg c]
      rw [Int32.le_iff_toInt_le] at c
      have e1 : (1 : Int32).toInt = 1 := rfl
      have em : (mm + 1).toInt = mm.toInt + 1 := add_i (by omega) (by omega)
      have hj2 : j < 12 := by omega
      have emm : mm = nI (j + 1) := Int32.toInt_inj.mp (by rw [nI_toInt (by omega)]; omega)
      have hl := len_at t.1 j hj2
      rw [← emm] at hl
      obtain ⟨-, l1, l2⟩ := yrest_s (decide (v_X4_isLong t.1 = 0)) j hj2
      have el : (v_X4_length t.1 mm).toInt = (ylen (decide (v_X4_isLong t.1 = 0)) j : Int) := by rw [hl, nI_toInt (by omega)]
      have ed := add_i (x := ds) (y := v_X4_length t.1 mm) (by omega) (by omega)
      have := ih (j + 1) (mm + 1) (ds + v_X4_length t.1 mm) (by omega) (by omega) (by omega) (by omega) (by omega)
      omega
/-- a date's number -/
theorem num_f {t : TR} (h : okd t) {D T : Int32} (hD : v_X4_daysTo 1970 = D) (hT : v_X4_daysTo t.1 = T) : 0 ≤ T.toInt ∧ T.toInt - D.toInt + t.2.2.toInt - 1 ≤ (v_X4_number t).toInt ∧ (1 < t.2.1.toInt → T.toInt - D.toInt + t.2.2.toInt - 1 + 28 ≤ (v_X4_number t).toInt) ∧ (t.2.1.toInt = 1 → (v_X4_number t).toInt = T.toInt - D.toInt + t.2.2.toInt - 1) := by
  obtain ⟨h1, h2, h3, h4, h5, h6⟩ := h
  have a1 := dT_b h1 (by omega)
  rw [hT] at a1
  have e70 : (1970 : Int32).toInt = 1970 := rfl
  have a2 := dT_b (a := 1970) (by omega) (by omega)
  rw [hD] at a2
  have e1 : (1 : Int32).toInt = 1 := rfl
  have b1 := sub_i (x := T) (y := D) (by omega) (by omega)
  have b2 := add_i (x := T - D) (y := t.2.2) (by omega) (by omega)
  have b3 := sub_i (x := T - D + t.2.2) (y := 1) (by omega) (by omega)
  unfold v_X4_number
  rw [hT, hD]
  have k := nb_w h4 ((t.2.1.toInt - (1 : Int32).toInt).toNat + 1) 0 1 (T - D + t.2.2 - 1) (by omega) (by omega) (by omega) (by omega) (by omega)
  refine ⟨a1.1, by omega, by omega, fun hm => ?_⟩
  rw [wX4_number_22, if_pos (by rw [Int32.le_iff_toInt_le, hm]; exact Int.le_refl _)]
  omega
theorem dT_0 {a : Int32} (h : a.toInt = 1600) : v_X4_daysTo a = 0 := by
  have e : a = 1600 := Int32.toInt_inj.mp (h.trans rfl)
  unfold v_X4_daysTo
  rw [wX4_daysTo_6, if_pos (by rw [e]; decide)]
theorem mul12 {x : Int64} (h0 : 0 ≤ x.toInt) (h1 : x.toInt ≤ 100000) : (12 * x).toInt = 12 * x.toInt := by
  have e12 : (12 : Int64).toInt = 12 := rfl
  rw [Int64.toInt_mul, e12, Int.bmod_eq_of_le (by omega) (by omega)]
theorem mul12i {x : Int32} (h0 : -100000 ≤ x.toInt) (h1 : x.toInt ≤ 100000) : (12 * x).toInt = 12 * x.toInt := by
  have e12 : (12 : Int32).toInt = 12 := rfl
  rw [Int32.toInt_mul, e12, Int.bmod_eq_of_le (by omega) (by omega)]
theorem onb_ne {t : TR} {w : Int64} (ht : okd t) (h1 : 19200 ≤ 12 * t.1.toInt + t.2.1.toInt - 1 + w.toInt) (h2 : 12 * t.1.toInt + t.2.1.toInt - 1 + w.toInt ≤ 28811) : v_X4_onByMonths t w ≠ none := by
  obtain ⟨g1, g2, g3, g4, g5, g6⟩ := ht
  unfold v_X4_onByMonths
  have e12 : (12 : Int64).toInt = 12 := rfl
  have e1 : (1 : Int64).toInt = 1 := rfl
  have ea : t.1.toInt64.toInt = t.1.toInt := Int32.toInt_toInt64 _
  have eb : t.2.1.toInt64.toInt = t.2.1.toInt := Int32.toInt_toInt64 _
  have m1 := mul12 (x := t.1.toInt64) (by omega) (by omega)
  have m2 := add_l (x := 12 * t.1.toInt64) (y := t.2.1.toInt64) (by omega) (by omega)
  have m3 := sub_l (x := 12 * t.1.toInt64 + t.2.1.toInt64) (y := 1) (by omega) (by omega)
  have m4 := add_l (x := 12 * t.1.toInt64 + t.2.1.toInt64 - 1) (y := w) (by omega) (by omega)
  have hin : ¬ v_X4_isIn (12 * t.1.toInt64 + t.2.1.toInt64 - 1 + w) 19200 28811 = 0 := in_iff.mpr (by
    rw [Int64.le_iff_toInt_le, Int64.le_iff_toInt_le]
    have z1 : (19200 : Int64).toInt = 19200 := rfl
    have z2 : (28811 : Int64).toInt = 28811 := rfl
    omega)
  rw [if_neg hin]
  exact fun q => (nomatch q)
theorem ap_w {a b : TR} (ha : okd a) (hb : okd b) : (12 * (b.1 - a.1) + b.2.1 - a.2.1).toInt = 12 * (b.1.toInt - a.1.toInt) + b.2.1.toInt - a.2.1.toInt := by
  obtain ⟨g1, g2, g3, g4, g5, g6⟩ := ha
  obtain ⟨k1, k2, k3, k4, k5, k6⟩ := hb
  have e12 : (12 : Int32).toInt = 12 := rfl
  have m0 := sub_i (x := b.1) (y := a.1) (by omega) (by omega)
  have m1 := mul12i (x := b.1 - a.1) (by omega) (by omega)
  have m2 := add_i (x := 12 * (b.1 - a.1)) (y := b.2.1) (by omega) (by omega)
  have m3 := sub_i (x := 12 * (b.1 - a.1) + b.2.1) (y := a.2.1) (by omega) (by omega)
  omega
theorem ap_0 {a b : TR} (ha : okd a) (hb : okd b) : v_X4_onByMonths a (12 * (b.1 - a.1) + b.2.1 - a.2.1).toInt64 ≠ none := by
  have e := ap_w ha hb
  refine onb_ne ha ?_ ?_ <;> rw [Int32.toInt_toInt64, e] <;> (obtain ⟨k1, k2, k3, k4, k5, k6⟩ := hb; omega)
theorem ap_p {a b : TR} (ha : okd a) (hb : okd b) (hw : ¬ 0 ≤ 12 * (b.1 - a.1) + b.2.1 - a.2.1) : v_X4_onByMonths a (12 * (b.1 - a.1) + b.2.1 - a.2.1 + 1).toInt64 ≠ none := by
  have e := ap_w ha hb
  rw [Int32.le_iff_toInt_le, e] at hw
  have e0 : (0 : Int32).toInt = 0 := rfl
  have e1 : (1 : Int32).toInt = 1 := rfl
  obtain ⟨g1, g2, g3, g4, g5, g6⟩ := id ha
  obtain ⟨k1, k2, k3, k4, k5, k6⟩ := id hb
  have m := add_i (x := 12 * (b.1 - a.1) + b.2.1 - a.2.1) (y := 1) (by omega) (by omega)
  refine onb_ne ha ?_ ?_ <;> rw [Int32.toInt_toInt64, m, e] <;> omega
theorem ap_ar {ya ma yb mb w : Int} (h1 : 1600 ≤ yb) (h2 : yb ≤ 2400) (h3 : 1 ≤ mb) (h4 : mb ≤ 12) (hn : ¬ (yb = 1600 ∧ mb = 1)) (hw : w = 12 * (yb - ya) + mb - ma + -1) : 19200 ≤ 12 * ya + ma - 1 + w ∧ 12 * ya + ma - 1 + w ≤ 28811 := by omega
theorem ap_m {a b : TR} (ha : okd a) (hb : okd b) (hn : v_X4_number a ≤ v_X4_number b) (hd : ¬ a.2.2 ≤ b.2.2) : v_X4_onByMonths a (12 * (b.1 - a.1) + b.2.1 - a.2.1 + (-1)).toInt64 ≠ none := by
  have e := ap_w ha hb
  have e1 : (-1 : Int32).toInt = -1 := rfl
  obtain ⟨D, hD⟩ : ∃ D, v_X4_daysTo 1970 = D := ⟨_, rfl⟩
  obtain ⟨Ta, hTa⟩ : ∃ D, v_X4_daysTo a.1 = D := ⟨_, rfl⟩
  obtain ⟨Tb, hTb⟩ : ∃ D, v_X4_daysTo b.1 = D := ⟨_, rfl⟩
  have na := num_f ha hD hTa
  have nb := num_f hb hD hTb
  rw [Int32.le_iff_toInt_le] at hn hd
  obtain ⟨g1, g2, g3, g4, g5, g6⟩ := id ha
  obtain ⟨k1, k2, k3, k4, k5, k6⟩ := id hb
  have hnot : ¬ (b.1.toInt = 1600 ∧ b.2.1.toInt = 1) := by
    rintro ⟨q1, q2⟩
    have hb1 := nb.2.2.2 q2
    rw [dT_0 q1] at hTb
    subst hTb
    have e0 : (0 : Int32).toInt = 0 := rfl
    omega
  clear hn hd na nb hD hTa hTb
  generalize hw : 12 * (b.1 - a.1) + b.2.1 - a.2.1 = w at e
  have m := add_i (x := w) (y := -1) (by omega) (by omega)
  rw [e, e1] at m
  have z := ap_ar k1 k2 k3 k4 hnot ((Int32.toInt_toInt64 _).trans m)
  exact onb_ne ha z.1 z.2
theorem au_le {a : Int32} (h : ¬ 9 < a) : (a.toInt - (0 : Int32).toInt).toNat + 1 ≤ 10 := by
  rw [Int32.lt_iff_toInt_lt] at h
  have h9 : (9 : Int32).toInt = 9 := rfl
  have h0 : (0 : Int32).toInt = 0 := rfl
  omega
