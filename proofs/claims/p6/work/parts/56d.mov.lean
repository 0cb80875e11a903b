/-! by months on, moved, between: the class's side as the reference's -/
theorem mul12r {x : Int32} (h0 : -100000 ≤ x.toInt) (h1 : x.toInt ≤ 100000) : (x * 12).toInt = 12 * x.toInt := by
  have e12 : (12 : Int32).toInt = 12 := rfl
  rw [Int32.toInt_mul, e12, Int.bmod_eq_of_le (by omega) (by omega)]
  omega
theorem mp_Z {t : TR} (h : okd t) : (t.1 * 12 + t.2.1 - 1).toInt = 12 * t.1.toInt + t.2.1.toInt - 1 := by
  obtain ⟨g1, g2, g3, g4, g5, g6⟩ := h
  have e1 : (1 : Int32).toInt = 1 := rfl
  have m1 := mul12r (x := t.1) (by omega) (by omega)
  have m2 := add_i (x := t.1 * 12) (y := t.2.1) (by omega) (by omega)
  have m3 := sub_i (x := t.1 * 12 + t.2.1) (y := 1) (by omega) (by omega)
  omega
theorem mP_Z {t : TR} (h : okd t) {b : Int64} (b1 : -100000000000 ≤ b.toInt) (b2 : b.toInt ≤ 100000000000) : (12 * t.1.toInt64 + t.2.1.toInt64 - 1 + b).toInt = 12 * t.1.toInt + t.2.1.toInt - 1 + b.toInt := by
  obtain ⟨g1, g2, g3, g4, g5, g6⟩ := h
  have e1 : (1 : Int64).toInt = 1 := rfl
  have ea : t.1.toInt64.toInt = t.1.toInt := Int32.toInt_toInt64 _
  have eb : t.2.1.toInt64.toInt = t.2.1.toInt := Int32.toInt_toInt64 _
  have m1 := mul12 (x := t.1.toInt64) (by omega) (by omega)
  have m2 := add_l (x := 12 * t.1.toInt64) (y := t.2.1.toInt64) (by omega) (by omega)
  have m3 := sub_l (x := 12 * t.1.toInt64 + t.2.1.toInt64) (y := 1) (by omega) (by omega)
  have m4 := add_l (x := 12 * t.1.toInt64 + t.2.1.toInt64 - 1) (y := b) (by omega) (by omega)
  omega
theorem mo_some {dy : Nat → TR} {j : Nat} {t t1 : TR} {b : Int64} (hj : dy j = t) (h : okd t) (b1 : -100000000000 ≤ b.toInt) (b2 : b.toInt ≤ 100000000000) (hs : v_X4_onByMonths t b = some t1) : okv t1 ∧ v_X0_dayNumberMonthsOn dy j b.toInt32 = v_X4_number t1 := by
  have hP := mP_Z h b1 b2
  have hM := mp_Z h
  obtain ⟨g1, g2, g3, g4, g5, g6⟩ := id h
  unfold v_X4_onByMonths at hs
  generalize 12 * t.1.toInt64 + t.2.1.toInt64 - 1 + b = P at hP hs
  by_cases c : v_X4_isIn P 19200 28811 = 0
  · rw [if_pos c] at hs; exact (nomatch hs)
  · rw [if_neg c] at hs
    have hs := Option.some.inj hs
    have c2 := in_iff.mp c
    rw [Int64.le_iff_toInt_le, Int64.le_iff_toInt_le] at c2
    have z1 : (19200 : Int64).toInt = 19200 := rfl
    have z2 : (28811 : Int64).toInt = 28811 := rfl
    obtain ⟨n, hn⟩ : ∃ n : Nat, P.toInt = n := ⟨P.toInt.toNat, by omega⟩
    have eP : P = lN n := Int64.toInt_inj.mp (by rw [pk_lT (by omega)]; exact hn)
    have ed : P / 12 = lN (n / 12) := by rw [eP]; exact pk_lDiv (b := 12) (by omega) (by omega) (by omega)
    have er : P - P / 12 * 12 = lN (n % 12) := by rw [eP]; exact pk_lRem (b := 12) (by omega) (by omega) (by omega)
    rw [ed] at er
    rw [ed, er, lN_i, lN_i, nI_1] at hs
    have eb : b.toInt32.toInt = b.toInt := by rw [Int64.toInt_toInt32, Int.bmod_eq_of_le (by omega) (by omega)]
    have ep : t.1 * 12 + t.2.1 - 1 + b.toInt32 = nI n := Int32.toInt_inj.mp (by
      rw [add_i (by omega) (by omega), nI_toInt (by omega)]
      omega)
    have fd : nI n / 12 = nI (n / 12) := pk_div (d := 12) (by omega) (by omega) (by omega)
    have fr : nI n - nI n / 12 * 12 = nI (n % 12) := pk_rem (d := 12) (by omega) (by omega) (by omega)
    rw [fd] at fr
    obtain ⟨y, hy⟩ : ∃ y : Nat, n / 12 = 1600 + y := ⟨n / 12 - 1600, by omega⟩
    have hk : n % 12 < 12 := Nat.mod_lt _ (by decide)
    have bl := dms_l (dbt (nI (1600 + y))) (n % 12) hk
    have el := len_Z (nI (1600 + y)) hk
    rw [hy] at hs fd fr
    have ho : okv t1 := by
      rw [← hs]
      refine okv_mk (by omega) hk ?_ ?_
      · by_cases q : v_X4_length (nI (1600 + y)) (nI (n % 12 + 1)) < t.2.2
        · rw [if_pos q]; omega
        · rw [if_neg q]; exact g5
      · by_cases q : v_X4_length (nI (1600 + y)) (nI (n % 12 + 1)) < t.2.2
        · rw [if_pos q]; omega
        · rw [if_neg q]
          rw [Int32.lt_iff_toInt_lt] at q
          omega
    refine ⟨ho, ?_⟩
    unfold v_X0_dayNumberMonthsOn v_X0_monthPlace
    rw [hj, ep, fd, fr, nI_1]
    unfold v_X2_dayKept
    rw [dom_len _ _ hk]
    have hm := num_t ho.1
    rw [← hs] at hm ⊢
    exact hm
theorem mo_none {t : TR} {b : Int64} (h : okd t) (b1 : -100000000000 ≤ b.toInt) (b2 : b.toInt ≤ 100000000000) : v_X4_onByMonths t b = none ↔ ¬ (19200 ≤ 12 * t.1.toInt + t.2.1.toInt - 1 + b.toInt ∧ 12 * t.1.toInt + t.2.1.toInt - 1 + b.toInt ≤ 28811) := by
  constructor
  · intro hs q
    exact onb_ne h q.1 q.2 hs
  · intro q
    have hP := mP_Z h b1 b2
    unfold v_X4_onByMonths
    generalize 12 * t.1.toInt64 + t.2.1.toInt64 - 1 + b = P at hP
    by_cases c : v_X4_isIn P 19200 28811 = 0
    · rw [if_pos c]
    · refine absurd ?_ q
      have c2 := in_iff.mp c
      rw [Int64.le_iff_toInt_le, Int64.le_iff_toInt_le] at c2
      have z1 : (19200 : Int64).toInt = 19200 := rfl
      have z2 : (28811 : Int64).toInt = 28811 := rfl
      omega
theorem om_s {α : Type} (t : TR) (a : α) (k : TR → α) : om (some t) a k = k t := rfl
/-- moved by so many months, then so many days -/
def mv2 (t : TR) (b2 b3 : Int64) : Option TR := om (v_X4_onByMonths t b2) none (fun t1 => om (v_X4_dateOf ((v_X4_number t1).toInt64 + b3)) none (fun t2 => some t2))
theorem num_bd {t : TR} (h : okv t) : -135140 ≤ (v_X4_number t).toInt ∧ (v_X4_number t).toInt ≤ 157419 := by
  obtain ⟨j, k, hj, hk, e1, e2, d1, d2⟩ := okv_of h
  obtain ⟨t1, t2, t3⟩ := t
  have e1 : t1 = nI (1600 + j) := e1
  have e2 : t2 = nI (k + 1) := e2
  have d1 : 1 ≤ t3.toInt := d1
  have d2 : t3.toInt ≤ ylen (dbt (nI (1600 + j))) k := d2
  subst e1 e2
  have b := dms_l (dbt (nI (1600 + j))) k hk
  have n := num_Z (d := t3) hj hk d1 (by omega)
  have s := yl_dbt j
  have q : yS (j + 1) = yS j + yl j := rfl
  have m : dms (dbt (nI (1600 + j))) (k + 1) = dms (dbt (nI (1600 + j))) k + ylen (dbt (nI (1600 + j))) k := rfl
  have r := dms_m (b := dbt (nI (1600 + j))) (i := k + 1) (k := 12) (by omega)
  rw [dms_12] at r
  have s8 := yS_801
  have a1 := yS_m (i := j + 1) (j := 801) (by omega)
  have a2 := (yS_b j).1
  omega
theorem mv2_okv {t u : TR} {b2 b3 : Int64} (h : mv2 t b2 b3 = some u) (h1 : okd t) (m1 : -100000000000 ≤ b2.toInt) (m2 : b2.toInt ≤ 100000000000) (n1 : -100000000000 ≤ b3.toInt) (n2 : b3.toInt ≤ 100000000000) : okv u := by
  unfold mv2 at h
  cases e : v_X4_onByMonths t b2 with
  | none => rw [e] at h; exact (nomatch h)
  | some t1 =>
    rw [e, om_some rfl, om_id] at h
    have ho := (mo_some (dy := fun _ => t) (j := 0) rfl h1 m1 m2 e).1
    have hb := num_bd ho
    have e6 : (v_X4_number t1).toInt64.toInt = (v_X4_number t1).toInt := Int32.toInt_toInt64 _
    have ea := add_l (x := (v_X4_number t1).toInt64) (y := b3) (by omega) (by omega)
    generalize (v_X4_number t1).toInt64 + b3 = x at h ea
    by_cases c : -135140 ≤ x.toInt ∧ x.toInt ≤ 157419
    · obtain ⟨v, hv, hd, -, -⟩ := day_of c.1 c.2
      rw [hd] at h
      rw [← Option.some.inj h]
      exact hv
    · rw [day_no (by omega) (by omega)] at h
      exact (nomatch h)
theorem pm_eq {dy : Nat → TR} {j0 j1 : Nat} {b2 b3 : Int64} (h1 : okd (dy j1)) (m1 : -100000000000 ≤ b2.toInt) (m2 : b2.toInt ≤ 100000000000) (n1 : -100000000000 ≤ b3.toInt) (n2 : b3.toInt ≤ 100000000000) : v_X0_putMoved dy j0 j1 b2 b3 = om (mv2 (dy j1) b2 b3) (0, dy) (fun t => (1, va_up dy j0 t)) := by
  have hM := mp_Z h1
  have hn := mo_none h1 m1 m2
  obtain ⟨g1, g2, g3, g4, g5, g6⟩ := id h1
  unfold v_X0_putMoved mv2
  have eM : ((v_X0_monthPlace dy j1).toInt64 + b2).toInt = 12 * (dy j1).1.toInt + (dy j1).2.1.toInt - 1 + b2.toInt := by
    have e0 : (v_X0_monthPlace dy j1).toInt64.toInt = 12 * (dy j1).1.toInt + (dy j1).2.1.toInt - 1 := by rw [Int32.toInt_toInt64]; exact hM
    rw [add_l (by omega) (by omega), e0]
  have z1 : (19200 : Int64).toInt = 19200 := rfl
  have z2 : (28812 : Int64).toInt = 28812 := rfl
  have c1 := lg_cmp_lt ((v_X0_monthPlace dy j1).toInt64 + b2) 19200
  have c2 := lg_cmp_lt ((v_X0_monthPlace dy j1).toInt64 + b2) 28812
  rw [Int64.lt_iff_toInt_lt, eM] at c1 c2
  by_cases q1 : lg_cmp ((v_X0_monthPlace dy j1).toInt64 + b2) 19200 < 0
  · rw [if_pos q1, hn.mpr (by have := c1.mp q1; omega)]
    rfl
  · rw [if_neg q1]
    by_cases q2 : lg_cmp ((v_X0_monthPlace dy j1).toInt64 + b2) 28812 < 0
    · rw [if_pos q2]
      cases e : v_X4_onByMonths (dy j1) b2 with
      | none =>
        have h2 := hn.mp e
        have h3 := c2.mp q2
        have h4 : ¬ _ := fun z => q1 (c1.mpr z)
        exact absurd ⟨by omega, by omega⟩ h2
      | some t1 =>
        obtain ⟨ho, he⟩ := mo_some (j := j1) rfl h1 m1 m2 e
        have hb := num_bd ho
        rw [he]
        have e6 : (v_X4_number t1).toInt64.toInt = (v_X4_number t1).toInt := Int32.toInt_toInt64 _
        have ea := add_l (x := (v_X4_number t1).toInt64) (y := b3) (by omega) (by omega)
        rw [om_s, om_id]
        generalize (v_X4_number t1).toInt64 + b3 = x at ea ⊢
        have y1 : (-135140 : Int64).toInt = -135140 := by decide
        have y2 : (157419 : Int64).toInt = 157419 := rfl
        have k1 := lg_cmp_lt x (-135140)
        have k2 := lg_cmp_le x 157419
        rw [Int64.lt_iff_toInt_lt] at k1
        rw [Int64.le_iff_toInt_le] at k2
        by_cases p1 : lg_cmp x (-135140) < 0
        · have := k1.mp p1
          rw [if_pos p1, day_no (by omega) (by omega)]
          rfl
        · rw [if_neg p1]
          have w1 : ¬ _ := fun z => p1 (k1.mpr z)
          by_cases p2 : lg_cmp x 157419 ≤ 0
          · have w2 := k2.mp p2
            obtain ⟨v, hv, hd, hp, -⟩ := day_of (x := x) (by omega) (by omega)
            rw [if_pos p2, hd, hp]
            rfl
          · have w2 : ¬ _ := fun z => p2 (k2.mpr z)
            rw [if_neg p2, day_no (by omega) (by omega)]
            rfl
    · have h4 : ¬ _ := fun z => q2 (c2.mpr z)
      rw [if_neg q2, hn.mpr (by omega)]
      rfl
theorem tot_bd (t : TR) : -100000000000 ≤ (v_X4_total t).toInt ∧ (v_X4_total t).toInt ≤ 100000000000 ∧ (v_X4_total t).toInt = 12 * t.1.toInt + t.2.1.toInt := by
  unfold v_X4_total
  have a1 := Int32.toInt_lt t.1
  have a2 := Int32.le_toInt t.1
  have a3 := Int32.toInt_lt t.2.1
  have a4 := Int32.le_toInt t.2.1
  have ea : t.1.toInt64.toInt = t.1.toInt := Int32.toInt_toInt64 _
  have eb : t.2.1.toInt64.toInt = t.2.1.toInt := Int32.toInt_toInt64 _
  have e12 : (12 : Int64).toInt = 12 := rfl
  have m1 : (12 * t.1.toInt64).toInt = 12 * t.1.toInt := by
    rw [Int64.toInt_mul, e12, ea, Int.bmod_eq_of_le (by omega) (by omega)]
  have m2 := add_l (x := 12 * t.1.toInt64) (y := t.2.1.toInt64) (by omega) (by omega)
  omega
theorem all_tot (sp : Nat → TR) (i : Nat) : v_X1_allMonths sp i = v_X4_total (sp i) := by
  unfold v_X1_allMonths v_X4_total
  rw [Int64.mul_comm]
theorem neg_bd {x : Int64} (h1 : -100000000000 ≤ x.toInt) (h2 : x.toInt ≤ 100000000000) : -100000000000 ≤ (-1 * x).toInt ∧ (-1 * x).toInt ≤ 100000000000 := by
  have e : (-1 : Int64).toInt = -1 := by decide
  rw [Int64.toInt_mul, e, Int.bmod_eq_of_le (by omega) (by omega)]
  omega
theorem d64_bd (x : Int32) : -100000000000 ≤ x.toInt64.toInt ∧ x.toInt64.toInt ≤ 100000000000 := by
  have a1 := Int32.toInt_lt x
  have a2 := Int32.le_toInt x
  rw [Int32.toInt_toInt64]
  omega
/-- the sign of a move -/
abbrev sgn (a : Int32) : Int32 := if a = 0 then 1 else -1
theorem onBy_1 (t s : TR) : v_X4_onBy t s 1 = mv2 t (v_X4_total s) s.2.2.toInt64 := by
  unfold v_X4_onBy mv2
  have e : (1 : Int32).toInt64 = 1 := by decide
  rw [e, Int64.one_mul, Int64.one_mul]
theorem onBy_m (t s : TR) : v_X4_onBy t s (-1) = mv2 t (-1 * v_X4_total s) (-1 * s.2.2.toInt64) := by
  unfold v_X4_onBy mv2
  have e : (-1 : Int32).toInt64 = -1 := by decide
  rw [e]
theorem onBy_okv {t s u : TR} {a : Int32} (h : v_X4_onBy t s a = some u) (ht : okd t) (ha : a = 1 ∨ a = -1) : okv u := by
  have b1 := tot_bd s
  have b2 := d64_bd s.2.2
  rcases ha with rfl | rfl
  · rw [onBy_1] at h
    exact mv2_okv h ht b1.1 b1.2.1 b2.1 b2.2
  · rw [onBy_m] at h
    exact mv2_okv h ht (neg_bd b1.1 b1.2.1).1 (neg_bd b1.1 b1.2.1).2 (neg_bd b2.1 b2.2).1 (neg_bd b2.1 b2.2).2
theorem rch_eq {sp dy : Nat → TR} {j i : Nat} {a : Int32} (h : okd (dy j)) : v_X2_reach sp dy j i a = om (v_X4_onBy (dy j) (sp i) (sgn a)) (0, dy) (fun t => (1, va_up dy 4 t)) := by
  have b1 := tot_bd (sp i)
  have b2 := d64_bd (sp i).2.2
  unfold v_X2_reach sgn
  by_cases c : a = 0
  · rw [if_pos c, if_pos c, all_tot, Int64.one_mul, Int64.one_mul, onBy_1, ← pm_eq h b1.1 b1.2.1 b2.1 b2.2]
  · rw [if_neg c, if_neg c, all_tot, onBy_m, ← pm_eq h (neg_bd b1.1 b1.2.1).1 (neg_bd b1.1 b1.2.1).2 (neg_bd b2.1 b2.2).1 (neg_bd b2.1 b2.2).2]
