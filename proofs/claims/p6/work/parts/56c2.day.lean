theorem d34_at {X : Int} {j k x : Nat} (hj : j ≤ 800) (h1 : yS j ≤ X) (h2 : X < yS (j + 1)) (hx : X - yS j = x) (hk : k < 12) (g1 : dms (dbt (nI (1600 + j))) k ≤ x) (g2 : x < dms (dbt (nI (1600 + j))) (k + 1)) : ∀ (n i : Nat) (lf : Int64), i ≤ j → lf.toInt = X - yS i → lf.toInt.toNat < n → wX4_dateOf_34 n (nI (1600 + i)) lf = some (nI (1600 + j), nI (k + 1), nI (x - dms (dbt (nI (1600 + j))) k + 1)) := by
  intro n
  induction n with
  | zero => intro i lf _ _ h; omega
  | succ n ih =>
    intro i lf hi hl hn
    rw [wX4_dateOf_34]
    have el : (365 + v_X4_one (v_X4_isLong (nI (1600 + i)))).toInt64.toInt = yl i := by rw [Int32.toInt_toInt64]; rfl
    have b := yl_b i
    have bb := yS_b i
    have bj := yS_b (j + 1)
    have es : yS (i + 1) = yS i + yl i := rfl
    by_cases c : lg_cmp lf (365 + v_X4_one (v_X4_isLong (nI (1600 + i)))).toInt64 < 0
    · rw [if_pos c]
      have c1 := (lg_cmp_lt _ _).mp c
      rw [Int64.lt_iff_toInt_lt, el] at c1
      have e : i = j := by
        rcases Nat.lt_or_ge i j with q | q
        · have := yS_m (i := i + 1) (j := j) q
          omega
        · omega
      subst e
      have hz : lf.toInt = (x : Int) - dms (dbt (nI (1600 + i))) 0 := by
        have z : dms (dbt (nI (1600 + i))) 0 = 0 := rfl
        omega
      have hm := dms_m (b := dbt (nI (1600 + i))) (i := k) (k := k) (by omega)
      rw [i32_1]
      refine d77_at hk g1 g2 _ 0 lf (by omega) hz ?_
      have := dms_ge (dbt (nI (1600 + i))) k hk
      omega
    · rw [if_neg c]
      have c1 : ¬ lf < _ := fun q => c ((lg_cmp_lt _ _).mpr q)
      rw [Int64.lt_iff_toInt_lt, el] at c1
      have e : i ≠ j := by
        intro q
        subst q
        omega
      have e2 := sub_l (x := lf) (y := (365 + v_X4_one (v_X4_isLong (nI (1600 + i)))).toInt64) (by omega) (by omega)
      rw [nI_1]
      exact ih (i + 1) _ (by omega) (by omega) (by omega)
