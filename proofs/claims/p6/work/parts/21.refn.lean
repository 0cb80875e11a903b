/-! more numbers of the reference: spans that are there -/
theorem om_id (v : Option TR) : om v none (fun t => some t) = v := by cases v <;> rfl
def inr (x : Int64) : Prop := -2147483648 ≤ x.toInt ∧ x.toInt ≤ 2147483647
theorem inr_iff {x : Int64} : ¬ v_X4_isIn x (-2147483648) 2147483647 = 0 ↔ inr x := by
  rw [in_iff, Int64.le_iff_toInt_le, Int64.le_iff_toInt_le]
  exact Iff.rfl
theorem span_some {a b c : Int64} {t : TR} : v_X4_span a b c = some t ↔ (inr a ∧ inr b ∧ inr c) ∧ t = (a.toInt32, b.toInt32, c.toInt32) := by
  unfold v_X4_span
  by_cases h1 : v_X4_isIn a (-2147483648) 2147483647 = 0
  · rw [if_pos h1]
    exact ⟨fun h => (nomatch h), fun h => absurd h1 (inr_iff.mpr h.1.1)⟩
  · rw [if_neg h1]
    by_cases h2 : v_X4_isIn b (-2147483648) 2147483647 = 0
    · rw [if_pos h2]
      exact ⟨fun h => (nomatch h), fun h => absurd h2 (inr_iff.mpr h.1.2.1)⟩
    · rw [if_neg h2]
      by_cases h3 : v_X4_isIn c (-2147483648) 2147483647 = 0
      · rw [if_pos h3]
        exact ⟨fun h => (nomatch h), fun h => absurd h3 (inr_iff.mpr h.1.2.2)⟩
      · rw [if_neg h3]
        constructor
        · intro h
          exact ⟨⟨inr_iff.mp h1, inr_iff.mp h2, inr_iff.mp h3⟩, (Option.some.inj h).symm⟩
        · intro h
          rw [h.2]
theorem inr_32 {x : Int64} (h : inr x) : x.toInt32.toInt64 = x := by
  apply Int64.toInt_inj.mp
  rw [Int32.toInt_toInt64, Int64.toInt_toInt32]
  unfold inr at h
  rw [Int.bmod_eq_of_le (by omega) (by omega)]
theorem inr_of (x : Int32) : inr x.toInt64 := by
  unfold inr
  rw [Int32.toInt_toInt64]
  have := Int32.toInt_lt x
  have := Int32.le_toInt x
  omega
theorem i32_64 (x : Int32) : x.toInt64.toInt32 = x := by
  apply Int32.toInt_inj.mp
  rw [Int64.toInt_toInt32, Int32.toInt_toInt64]
  have := Int32.toInt_lt x
  have := Int32.le_toInt x
  rw [Int.bmod_eq_of_le (by omega) (by omega)]
theorem opp_i {x : Int32} (h : inr (0 + -1 * x.toInt64)) : 0 + -1 * (0 + -1 * x.toInt64).toInt32.toInt64 = x.toInt64 := by
  rw [inr_32 h]
  apply Int64.toBitVec_inj.mp
  simp only [Int64.toBitVec_add, Int64.toBitVec_mul, Int64.toBitVec_neg]
  generalize x.toInt64.toBitVec = v
  show 0#64 + -(1#64) * (0#64 + -(1#64) * v) = v
  rw [BitVec.zero_add, BitVec.zero_add, BitVec.neg_mul, BitVec.one_mul, BitVec.neg_mul, BitVec.one_mul, BitVec.neg_neg]
theorem opp_opp {t t' : TR} (h : v_X4_opposed t = some t') : v_X4_opposed t' = some t := by
  unfold v_X4_opposed v_X4_sum v_X4_nothing at h ⊢
  rw [om_id, om_id] at h ⊢
  obtain ⟨⟨h1, h2, h3⟩, rfl⟩ := span_some.mp h
  have z : (0 : Int32).toInt64 = 0 := rfl
  refine span_some.mpr ?_
  rw [z] at h1 h2 h3 ⊢
  rw [opp_i h1, opp_i h2, opp_i h3]
  refine ⟨⟨inr_of _, inr_of _, inr_of _⟩, ?_⟩
  rw [i32_64, i32_64, i32_64]
theorem sum_i {x y : Int32} (h : inr (x.toInt64 + 1 * y.toInt64)) : (x.toInt64 + 1 * y.toInt64).toInt32.toInt64 + -1 * y.toInt64 = x.toInt64 := by
  rw [inr_32 h]
  apply Int64.toBitVec_inj.mp
  simp only [Int64.toBitVec_add, Int64.toBitVec_mul, Int64.toBitVec_neg]
  generalize x.toInt64.toBitVec = v
  generalize y.toInt64.toBitVec = w
  show v + 1#64 * w + -(1#64) * w = v
  rw [BitVec.one_mul, BitVec.neg_mul, BitVec.one_mul, BitVec.add_assoc, BitVec.add_right_neg, BitVec.add_zero]
theorem sum_back {t u t' : TR} (h : v_X4_sum t 1 u = some t') : v_X4_sum t' (-1) u = some t := by
  unfold v_X4_sum at h ⊢
  rw [om_id] at h ⊢
  obtain ⟨⟨h1, h2, h3⟩, rfl⟩ := span_some.mp h
  refine span_some.mpr ?_
  rw [sum_i h1, sum_i h2, sum_i h3]
  refine ⟨⟨inr_of _, inr_of _, inr_of _⟩, ?_⟩
  rw [i32_64, i32_64, i32_64]
theorem tot_i (x : Int64) : 12 * (x / 12) + (x - x / 12 * 12) = x := by
  apply Int64.toBitVec_inj.mp
  simp only [Int64.toBitVec_add, Int64.toBitVec_mul, Int64.toBitVec_sub]
  generalize (x / 12).toBitVec = v
  generalize x.toBitVec = w
  generalize (12 : Int64).toBitVec = k
  rw [BitVec.mul_comm v k, BitVec.sub_eq_add_neg, BitVec.add_comm w, ← BitVec.add_assoc, BitVec.add_right_neg, BitVec.zero_add]
theorem tidy_tidy {t t' : TR} (h : v_X4_tidied t = some t') : v_X4_tidied t' = some t' := by
  unfold v_X4_tidied at h ⊢
  rw [om_id] at h ⊢
  obtain ⟨⟨h1, h2, h3⟩, rfl⟩ := span_some.mp h
  have e : v_X4_total ((v_X4_total t / 12).toInt32, (v_X4_total t - v_X4_total t / 12 * 12).toInt32, t.2.2.toInt64.toInt32) = v_X4_total t := by
    show 12 * (v_X4_total t / 12).toInt32.toInt64 + (v_X4_total t - v_X4_total t / 12 * 12).toInt32.toInt64 = v_X4_total t
    rw [inr_32 h1, inr_32 h2]
    exact tot_i _
  rw [e]
  refine span_some.mpr ⟨⟨h1, h2, inr_of _⟩, ?_⟩
  rw [i32_64, i32_64]
/-! the loops of dateOf -/
def ylen (b : Bool) (m : Nat) : Nat := [31, if b then 28 else 29, 31, 30, 31, 30, 31, 31, 30, 31, 30, 31].getD m 0
def yrest (b : Bool) (m : Nat) : Nat := (if b then [365, 334, 306, 275, 245, 214, 184, 153, 122, 92, 61, 31] else [366, 335, 306, 275, 245, 214, 184, 153, 122, 92, 61, 31]).getD m 0
theorem yrest_s : ∀ b m, m < 12 → yrest b m = ylen b m + yrest b (m + 1) ∧ ylen b m ≤ 31 ∧ 28 ≤ ylen b m := by decide
theorem len_at (y : Int32) (m : Nat) (hm : m < 12) : v_X4_length y (nI (m + 1)) = nI (ylen (decide (v_X4_isLong y = 0)) m) := by
  unfold v_X4_length
  generalize v_X4_isLong y = z
  by_cases hz : z = 0
  · subst hz
    revert m
    decide +kernel
  · have e : decide (z = 0) = false := decide_eq_false hz
    rw [e, if_neg hz]
    revert m
    decide +kernel
def dv_J (yy fm : Int32) (lg : Int64) : Prop := vp_in (fm - 1) 12 ∧ ∃ m : Nat, m < 12 ∧ fm = nI (m + 1) ∧ 0 ≤ lg.toInt ∧ lg.toInt < (yrest (decide (v_X4_isLong yy = 0)) m : Int)
theorem dv_J0 {yy : Int32} {lf : Int64} (h0 : 0 ≤ lf) (h : lg_cmp lf (365 + v_X4_one (v_X4_isLong yy)).toInt64 < 0) : dv_J yy 1 lf := by
  have h1 := (lg_cmp_lt _ _).mp h
  rw [Int64.lt_iff_toInt_lt] at h1
  rw [Int64.le_iff_toInt_le] at h0
  refine ⟨by unfold vp_in; decide, 0, by decide, rfl, h0, ?_⟩
  unfold v_X4_one at h1
  by_cases hz : v_X4_isLong yy = 0
  · rw [if_pos hz] at h1
    rw [decide_eq_true hz]
    exact h1
  · rw [if_neg hz] at h1
    rw [decide_eq_false hz]
    exact h1
theorem dv_Js {yy fm : Int32} {lg : Int64} {n : Nat} (hj : dv_J yy fm lg) (h : ¬ lg_cmp lg (v_X4_length yy fm).toInt64 < 0) (hn : lg.toInt.toNat < n + 1) : dv_J yy (fm + 1) (lg - (v_X4_length yy fm).toInt64) ∧ (lg - (v_X4_length yy fm).toInt64).toInt.toNat < n := by
  obtain ⟨-, m, hm, rfl, h0, h1⟩ := hj
  have h2 : ¬ lg < (v_X4_length yy (nI (m + 1))).toInt64 := fun q => h ((lg_cmp_lt _ _).mpr q)
  rw [len_at yy m hm] at h2 ⊢
  unfold dv_J
  obtain ⟨e1, e2, e3⟩ := yrest_s (decide (v_X4_isLong yy = 0)) m hm
  generalize decide (v_X4_isLong yy = 0) = b at *
  have eL : (nI (ylen b m)).toInt64.toInt = (ylen b m : Int) := by rw [Int32.toInt_toInt64, nI_toInt (by omega)]
  rw [Int64.lt_iff_toInt_lt, eL] at h2
  have hx := Int64.toInt_lt lg
  have e : (lg - (nI (ylen b m)).toInt64).toInt = lg.toInt - (ylen b m : Int) := by
    rw [Int64.toInt_sub, eL, Int.bmod_eq_of_le (by omega) (by omega)]
  have hm2 : m + 1 < 12 := by
    rcases Nat.lt_or_ge (m + 1) 12 with q | q
    · exact q
    · have : m = 11 := by omega
      subst this
      have : yrest b (11 + 1) = 0 := by cases b <;> rfl
      omega
  refine ⟨⟨?_, m + 1, hm2, nI_1 _, by rw [e]; omega, by rw [e]; omega⟩, by rw [e]; omega⟩
  rw [nI_1]
  have := pk_sub (a := m + 1 + 1) (b := 1) (by omega)
  rw [show (1 : Int32) = nI 1 from rfl, this, Nat.add_sub_cancel]
  exact vp_in_nI hm2 (by decide)
theorem onb_mo {t t' : TR} {w : Int64} (h : v_X4_onByMonths t w = some t') : ¬ 12 < t'.2.1 := by
  unfold v_X4_onByMonths at h
  generalize 12 * t.1.toInt64 + t.2.1.toInt64 - 1 + w = x at h
  by_cases c : v_X4_isIn x 19200 28811 = 0
  · rw [if_pos c] at h; exact (nomatch h)
  · rw [if_neg c] at h
    have e := Option.some.inj h
    rw [← e]
    exact (om_mo c (by decide)).2
