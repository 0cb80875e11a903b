/-! a date's number as a sum; the date of a number -/
def dms (b : Bool) : Nat → Nat
  | 0 => 0
  | k + 1 => dms b k + ylen b k
abbrev dbt (y : Int32) : Bool := decide (v_X4_isLong y = 0)
theorem dms_r : ∀ (b : Bool) (k : Nat), k ≤ 12 → dms b k + yrest b k = (if b then 365 else 366) := by decide
theorem dms_l : ∀ (b : Bool) (k : Nat), k < 12 → dms b k ≤ 366 ∧ 28 ≤ ylen b k ∧ ylen b k ≤ 31 := by decide
theorem dms_m {b : Bool} {i k : Nat} (h : i ≤ k) : dms b i ≤ dms b k := by
  induction k with
  | zero => have : i = 0 := by omega
            subst this; exact Nat.le_refl _
  | succ k ih =>
    by_cases h2 : i = k + 1
    · subst h2; exact Nat.le_refl _
    · have := ih (by omega)
      show dms b i ≤ dms b k + ylen b k
      omega
theorem yl_dbt (j : Nat) : yl j = ((if dbt (nI (1600 + j)) then 365 else 366 : Nat) : Int) := by
  unfold yl v_X4_one dbt
  by_cases h : v_X4_isLong (nI (1600 + j)) = 0
  · rw [if_pos h, decide_eq_true h]; rfl
  · rw [if_neg h, decide_eq_false h]; rfl
theorem len_Z (y : Int32) {m : Nat} (hm : m < 12) : (v_X4_length y (nI (m + 1))).toInt = (ylen (dbt y) m : Int) := by
  have h := (dms_l (dbt y) m hm).2
  rw [len_at y m hm]
  show (nI (ylen (dbt y) m)).toInt = _
  generalize ylen (dbt y) m = z at h
  exact nI_toInt (by omega)
theorem nw_Z {y d : Int32} {k : Nat} (hk : k < 12) : ∀ (n m : Nat) (ds : Int32), m ≤ k → k - m < n → -1000000 ≤ ds.toInt → ds.toInt ≤ 1000000 + dms (dbt y) m → (wX4_number_22 (y, nI (k + 1), d) n (nI (m + 1)) ds).toInt = ds.toInt + (dms (dbt y) k : Int) - dms (dbt y) m := by
  intro n
  induction n with
  | zero => intro m ds _ h; omega
  | succ n ih =>
    intro m ds hm hn h0 h1
    rw [wX4_number_22]
    show (if nI (k + 1) ≤ nI (m + 1) then ds else wX4_number_22 (y, nI (k + 1), d) n (nI (m + 1) + 1) (ds + v_X4_length y (nI (m + 1)))).toInt = _
    by_cases c : nI (k + 1) ≤ nI (m + 1)
    · rw [if_pos c]
      have := (nI_leI (a := k + 1) (b := m + 1) (by omega) (by omega)).mp c
      have e : k = m := by omega
      subst e
      omega
    · rw [if_neg c]
      have c2 : ¬ k + 1 ≤ m + 1 := fun q => c ((nI_leI (a := k + 1) (b := m + 1) (by omega) (by omega)).mpr q)
      have hl := len_Z y (m := m) (by omega)
      have hb := dms_l (dbt y) m (by omega)
      have e := add_i (x := ds) (y := v_X4_length y (nI (m + 1))) (by omega) (by omega)
      have es : dms (dbt y) (m + 1) = dms (dbt y) m + ylen (dbt y) m := rfl
      rw [nI_1, ih (m + 1) _ (by omega) (by omega) (by omega) (by omega)]
      omega
theorem num_Z {j k : Nat} {d : Int32} (hj : j ≤ 800) (hk : k < 12) (h1 : 1 ≤ d.toInt) (h2 : d.toInt ≤ 31) : (v_X4_number (nI (1600 + j), nI (k + 1), d)).toInt = yS j - 135140 + dms (dbt (nI (1600 + j))) k + d.toInt - 1 := by
  unfold v_X4_number
  rw [dT_1970]
  show (wX4_number_22 (nI (1600 + j), nI (k + 1), d) (((nI (k + 1)).toInt - (1 : Int32).toInt).toNat + 1) (nI (0 + 1)) (v_X4_daysTo (nI (1600 + j)) - 135140 + d - 1)).toInt = _
  have b := yS_b j
  have hT := dT_S (a := nI (1600 + j)) (k := j) (by rw [nI_toInt (by omega)]; omega) (by omega)
  have e0 : (135140 : Int32).toInt = 135140 := rfl
  have e1 : (1 : Int32).toInt = 1 := rfl
  have b1 := sub_i (x := v_X4_daysTo (nI (1600 + j))) (y := 135140) (by omega) (by omega)
  have b2 := add_i (x := v_X4_daysTo (nI (1600 + j)) - 135140) (y := d) (by omega) (by omega)
  have b3 := sub_i (x := v_X4_daysTo (nI (1600 + j)) - 135140 + d) (y := 1) (by omega) (by omega)
  have hk1 : (nI (k + 1)).toInt = ((k + 1 : Nat) : Int) := nI_toInt (by omega)
  have z : dms (dbt (nI (1600 + j))) 0 = 0 := rfl
  rw [nw_Z hk _ 0 _ (by omega) (by omega) (by omega) (by omega), z]
  omega
/-- a day of the calendar -/
def okv (t : TR) : Prop := okd t ∧ t.2.2.toInt ≤ (v_X4_length t.1 t.2.1).toInt
theorem okv_of {t : TR} (h : okv t) : ∃ j k : Nat, j ≤ 800 ∧ k < 12 ∧ t.1 = nI (1600 + j) ∧ t.2.1 = nI (k + 1) ∧ 1 ≤ t.2.2.toInt ∧ t.2.2.toInt ≤ ylen (dbt (nI (1600 + j))) k := by
  obtain ⟨⟨h1, h2, h3, h4, h5, h6⟩, h7⟩ := h
  obtain ⟨j, hj, ej⟩ := i32_yr h1 (by omega)
  obtain ⟨k, hk, ek⟩ := i32_mo h3 h4
  rw [ej, nI_toInt (by omega)] at h2
  rw [ek, len_Z _ hk, ej] at h7
  exact ⟨j, k, by omega, hk, ej, ek, h5, h7⟩
theorem okv_mk {j k : Nat} {d : Int32} (hj : j ≤ 800) (hk : k < 12) (h1 : 1 ≤ d.toInt) (h2 : d.toInt ≤ ylen (dbt (nI (1600 + j))) k) : okv (nI (1600 + j), nI (k + 1), d) := by
  have b := dms_l (dbt (nI (1600 + j))) k hk
  have e1 : (nI (1600 + j)).toInt = ((1600 + j : Nat) : Int) := nI_toInt (by omega)
  have e2 : (nI (k + 1)).toInt = ((k + 1 : Nat) : Int) := nI_toInt (by omega)
  refine ⟨⟨?_, ?_, ?_, ?_, h1, ?_⟩, ?_⟩
  · show _ ≤ (nI (1600 + j)).toInt; omega
  · show (nI (1600 + j)).toInt ≤ _; omega
  · show _ ≤ (nI (k + 1)).toInt; omega
  · show (nI (k + 1)).toInt ≤ _; omega
  · show d.toInt ≤ 31; omega
  · show d.toInt ≤ (v_X4_length (nI (1600 + j)) (nI (k + 1))).toInt
    rw [len_Z _ hk]; exact h2
theorem okv_d {t : TR} (h : okv t) : okd t := h.1
/-- where a count of days lies -/
theorem yr_at : ∀ (n : Nat) (x : Int), 0 ≤ x → x < yS n → ∃ j, j < n ∧ yS j ≤ x ∧ x < yS (j + 1) := by
  intro n
  induction n with
  | zero => intro x h0 h; have e : yS 0 = 0 := rfl
            omega
  | succ n ih =>
    intro x h0 h
    by_cases c : x < yS n
    · obtain ⟨j, hj, q⟩ := ih x h0 c
      exact ⟨j, by omega, q⟩
    · exact ⟨n, by omega, by omega, h⟩
theorem mo_at (b : Bool) : ∀ (n x : Nat), x < dms b n → ∃ k, k < n ∧ dms b k ≤ x ∧ x < dms b (k + 1) := by
  intro n
  induction n with
  | zero => intro x h; exact absurd h (Nat.not_lt_zero _)
  | succ n ih =>
    intro x h
    by_cases c : x < dms b n
    · obtain ⟨j, hj, q⟩ := ih x c
      exact ⟨j, by omega, q⟩
    · exact ⟨n, by omega, by omega, h⟩
theorem yS_lt {i j : Nat} {x : Int} (h1 : yS i ≤ x) (h2 : x < yS (j + 1)) : i ≤ j := by
  rcases Nat.lt_or_ge j i with q | q
  · have := yS_m (i := j + 1) (j := i) q
    omega
  · exact q
theorem dms_lt {b : Bool} {i j x : Nat} (h1 : dms b i ≤ x) (h2 : x < dms b (j + 1)) : i ≤ j := by
  rcases Nat.lt_or_ge j i with q | q
  · have := dms_m (b := b) (i := j + 1) (k := i) q
    omega
  · exact q
theorem dms_12 (b : Bool) : dms b 12 = (if b then 365 else 366) := by cases b <;> rfl
/-- one number, one day -/
theorem num_inj {t u : TR} (ht : okv t) (hu : okv u) (h : v_X4_number t = v_X4_number u) : t = u := by
  obtain ⟨j, k, hj, hk, e1, e2, d1, d2⟩ := okv_of ht
  obtain ⟨j', k', hj', hk', e1', e2', d1', d2'⟩ := okv_of hu
  obtain ⟨t1, t2, t3⟩ := t
  obtain ⟨u1, u2, u3⟩ := u
  subst e1 e2 e1' e2'
  have d1 : 1 ≤ t3.toInt := d1
  have d1' : 1 ≤ u3.toInt := d1'
  have d2 : t3.toInt ≤ ylen (dbt (nI (1600 + j))) k := d2
  have d2' : u3.toInt ≤ ylen (dbt (nI (1600 + j'))) k' := d2'
  have b := dms_l (dbt (nI (1600 + j))) k hk
  have b' := dms_l (dbt (nI (1600 + j'))) k' hk'
  have n := num_Z (d := t3) hj hk d1 (by omega)
  have n' := num_Z (d := u3) hj' hk' d1' (by omega)
  rw [h] at n
  have s := yl_dbt j
  have s' := yl_dbt j'
  have q : yS (j + 1) = yS j + yl j := rfl
  have q' : yS (j' + 1) = yS j' + yl j' := rfl
  have m : dms (dbt (nI (1600 + j))) (k + 1) = dms (dbt (nI (1600 + j))) k + ylen (dbt (nI (1600 + j))) k := rfl
  have m' : dms (dbt (nI (1600 + j'))) (k' + 1) = dms (dbt (nI (1600 + j'))) k' + ylen (dbt (nI (1600 + j'))) k' := rfl
  have r := dms_m (b := dbt (nI (1600 + j))) (i := k + 1) (k := 12) (by omega)
  have r' := dms_m (b := dbt (nI (1600 + j'))) (i := k' + 1) (k := 12) (by omega)
  rw [dms_12] at r r'
  have ej : j = j' := by
    have a1 := yS_lt (i := j) (j := j') (x := yS j + dms (dbt (nI (1600 + j))) k + t3.toInt - 1) (by omega) (by omega)
    have a2 := yS_lt (i := j') (j := j) (x := yS j + dms (dbt (nI (1600 + j))) k + t3.toInt - 1) (by omega) (by omega)
    omega
  subst ej
  have ek : k = k' := by
    obtain ⟨x, hx⟩ : ∃ x : Nat, (x : Int) = dms (dbt (nI (1600 + j))) k + t3.toInt - 1 := ⟨(dms (dbt (nI (1600 + j))) k + t3.toInt - 1).toNat, by omega⟩
    have a1 := dms_lt (b := dbt (nI (1600 + j))) (i := k) (j := k') (x := x) (by omega) (by omega)
    have a2 := dms_lt (b := dbt (nI (1600 + j))) (i := k') (j := k) (x := x) (by omega) (by omega)
    omega
  subst ek
  have e3 : t3 = u3 := Int32.toInt_inj.mp (by omega)
  rw [e3]
