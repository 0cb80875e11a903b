/-! what dateOf gives is in the calendar -/
def yl (j : Nat) : Int := (365 + v_X4_one (v_X4_isLong (nI (1600 + j)))).toInt
def yS : Nat → Int
  | 0 => 0
  | j + 1 => yS j + yl j
theorem yl_b (j : Nat) : yl j = 365 ∨ yl j = 366 := ylen1 _
theorem yS_b : ∀ j : Nat, 365 * (j : Int) ≤ yS j ∧ yS j ≤ 366 * (j : Int) := by
  intro j
  induction j with
  | zero => exact ⟨Int.le_refl _, Int.le_refl _⟩
  | succ j ih =>
    have := yl_b j
    have e : yS (j + 1) = yS j + yl j := rfl
    omega
theorem yS_m {i j : Nat} (h : i ≤ j) : yS i ≤ yS j := by
  induction j with
  | zero => have : i = 0 := by omega
            subst this; exact Int.le_refl _
  | succ j ih =>
    by_cases h2 : i = j + 1
    · subst h2; exact Int.le_refl _
    · have h1 := ih (by omega)
      have := yl_b j
      have e : yS (j + 1) = yS j + yl j := rfl
      omega
theorem dT_s {a0 : Int32} {k : Nat} (ha : a0.toInt = 1600 + k) (hk : k ≤ 801) : ∀ (n j : Nat) (yy ds : Int32), (a0.toInt - yy.toInt).toNat < n → yy = nI (1600 + j) → j ≤ k → ds.toInt = yS j → (wX4_daysTo_6 a0 n yy ds).toInt = yS k := by
  intro n
  induction n with
  | zero => intro j yy ds h; omega
  | succ n ih =>
    intro j yy ds hn hy hj hd
    have hyi : yy.toInt = 1600 + j := by rw [hy, nI_toInt (by omega)]; omega
    rw [wX4_daysTo_6]
    by_cases c : a0 ≤ yy
    · rw [if_pos c]
      rw [Int32.le_iff_toInt_le] at c
      have : j = k := by omega
      rw [hd, this]
    · rw [if_neg c]
      rw [Int32.le_iff_toInt_le] at c
      have b := yl_b j
      have hl : (365 + v_X4_one (v_X4_isLong yy)).toInt = yl j := by rw [hy]; rfl
      have bb := yS_b j
      have ed := add_i (x := ds) (y := 365 + v_X4_one (v_X4_isLong yy)) (by omega) (by omega)
      refine ih (j + 1) _ _ ?_ (by rw [hy, nI_1]; rfl) (by omega) ?_
      · have e1 : (1 : Int32).toInt = 1 := rfl
        have ey : (yy + 1).toInt = yy.toInt + 1 := add_i (by omega) (by omega)
        omega
      · rw [ed, hl, hd]; rfl
theorem dT_S {a : Int32} {k : Nat} (ha : a.toInt = 1600 + k) (hk : k ≤ 801) : (v_X4_daysTo a).toInt = yS k := by
  unfold v_X4_daysTo
  have e : (1600 : Int32).toInt = 1600 := rfl
  exact dT_s ha hk _ 0 1600 0 (by omega) rfl (by omega) rfl
theorem len_b (y : Int32) (m : Nat) (hm : m < 12) : (v_X4_length y (nI (m + 1))).toInt64.toInt ≤ 31 := by
  rw [len_at y m hm, Int32.toInt_toInt64]
  have := (yrest_s (decide (v_X4_isLong y = 0)) m hm).2.1
  rw [nI_toInt (by omega)]
  omega
theorem dO_77 {yy : Int32} {t : TR} : ∀ (n : Nat) (fm : Int32) (lg : Int64), dv_J yy fm lg → lg.toInt.toNat < n → wX4_dateOf_77 yy n fm lg = some t → t.1 = yy ∧ 1 ≤ t.2.1.toInt ∧ t.2.1.toInt ≤ 12 ∧ 1 ≤ t.2.2.toInt ∧ t.2.2.toInt ≤ 31 := by
  intro n
  induction n with
  | zero => intro fm lg _ h; omega
  | succ n ih =>
    intro fm lg hj hn h
    rw [wX4_dateOf_77] at h
    by_cases c : lg_cmp lg (v_X4_length yy fm).toInt64 < 0
    · rw [if_pos c] at h
      obtain ⟨-, m, hm, rfl, h0, h1⟩ := hj
      have c1 := (lg_cmp_lt _ _).mp c
      rw [Int64.lt_iff_toInt_lt] at c1
      have c2 := len_b yy m hm
      have e := Option.some.inj h
      have e1 : (1 : Int32).toInt = 1 := rfl
      have e32 : lg.toInt32.toInt = lg.toInt := by rw [Int64.toInt_toInt32, Int.bmod_eq_of_le (by omega) (by omega)]
      have ea := add_i (x := lg.toInt32) (y := 1) (by omega) (by omega)
      rw [← e]
      refine ⟨rfl, ?_, ?_, ?_, ?_⟩
      · show 1 ≤ (nI (m + 1)).toInt
        rw [nI_toInt (by omega)]; omega
      · show (nI (m + 1)).toInt ≤ 12
        rw [nI_toInt (by omega)]; omega
      · show 1 ≤ (lg.toInt32 + 1).toInt
        omega
      · show (lg.toInt32 + 1).toInt ≤ 31
        omega
    · rw [if_neg c] at h
      have k := dv_Js hj c hn
      exact ih _ _ k.1 k.2 h
theorem dO_34 {t : TR} {X : Int} (hX : X < yS 801) : ∀ (n j : Nat) (yy : Int32) (lf : Int64), yy = nI (1600 + j) → lf.toInt + yS j = X → 0 ≤ lf → lf.toInt.toNat < n → wX4_dateOf_34 n yy lf = some t → okd t := by
  intro n
  induction n with
  | zero => intro j yy lf _ _ _ h; omega
  | succ n ih =>
    intro j yy lf hy he h0 hn h
    have hj : j ≤ 800 := by
      rcases Nat.lt_or_ge 800 j with q | q
      · have := yS_m (i := 801) (j := j) q
        rw [Int64.le_iff_toInt_le] at h0
        have e0 : (0 : Int64).toInt = 0 := rfl
        omega
      · exact q
    rw [wX4_dateOf_34] at h
    by_cases c : lg_cmp lf (365 + v_X4_one (v_X4_isLong yy)).toInt64 < 0
    · rw [if_pos c] at h
      obtain ⟨k1, k2, k3, k4, k5⟩ := dO_77 _ _ _ (dv_J0 h0 c) (Nat.lt_succ_self _) h
      refine ⟨?_, ?_, k2, k3, k4, k5⟩
      · rw [k1, hy, nI_toInt (by omega)]; omega
      · rw [k1, hy, nI_toInt (by omega)]; omega
    · rw [if_neg c] at h
      have k := dl_dec (one_01 yy) c hn
      have c1 : ¬ lf < _ := fun q => c ((lg_cmp_lt _ _).mpr q)
      rw [Int64.lt_iff_toInt_lt] at c1
      have el : (365 + v_X4_one (v_X4_isLong yy)).toInt64.toInt = yl j := by rw [Int32.toInt_toInt64, hy]; rfl
      have b := yl_b j
      have hx := Int64.toInt_lt lf
      have es := sub_l (x := lf) (y := (365 + v_X4_one (v_X4_isLong yy)).toInt64) (by omega) (by omega)
      refine ih (j + 1) _ _ (by rw [hy, nI_1]; rfl) ?_ k.2 k.1 h
      have e : yS (j + 1) = yS j + yl j := rfl
      omega
theorem dateOf_okd {b : Int64} {t : TR} (h : v_X4_dateOf b = some t) : okd t := by
  unfold v_X4_dateOf at h
  obtain ⟨D, hD⟩ : ∃ D, v_X4_daysTo 1970 = D := ⟨_, rfl⟩
  obtain ⟨L, hL⟩ : ∃ D, v_X4_daysTo 2401 = D := ⟨_, rfl⟩
  rw [hD, hL] at h
  have hl : L.toInt = yS 801 := by rw [← hL]; exact dT_S rfl (Nat.le_refl _)
  have bb := yS_b 801
  by_cases c : v_X4_isIn (b + D.toInt64) 0 ((L - 1).toInt64) = 0
  · rw [if_pos c] at h; exact (nomatch h)
  · rw [if_neg c] at h
    have c2 := in_iff.mp c
    have e1 : (1 : Int32).toInt = 1 := rfl
    have es := sub_i (x := L) (y := 1) (by omega) (by omega)
    have c3 := c2.2
    rw [Int64.le_iff_toInt_le, Int32.toInt_toInt64, es] at c3
    refine dO_34 (X := (b + D.toInt64).toInt) (by omega) _ 0 1600 _ rfl ?_ c2.1 (Nat.lt_succ_self _) h
    show _ + 0 = _
    omega
theorem onBy_okd {a b : TR} {s : Int32} {t : TR} (h : v_X4_onBy a b s = some t) : okd t := by
  unfold v_X4_onBy at h
  cases e : v_X4_onByMonths a (s.toInt64 * v_X4_total b) with
  | none => rw [e] at h; exact (nomatch h)
  | some t1 =>
    rw [e, om_some rfl, om_id] at h
    exact dateOf_okd h
/-! more of numbers in a range -/
theorem isin_ix {k : Int32} {c : Int64} {n : Nat} (h : ¬ v_X4_isIn k.toInt64 0 c = 0) (hc : c.toInt + 1 = n) : vp_in k n ∧ k.toNatClampNeg < n := by
  have h2 := in_iff.mp h
  rw [Int64.le_iff_toInt_le, Int64.le_iff_toInt_le, Int32.toInt_toInt64] at h2
  have e0 : (0 : Int64).toInt = 0 := rfl
  have hk : k.toNatClampNeg < n := by
    show k.toInt.toNat < n
    omega
  refine ⟨fun q => ?_, hk⟩
  rcases q with q | q
  · rw [Int32.lt_iff_toInt_lt] at q
    have e : (0 : Int32).toInt = 0 := rfl
    omega
  · omega
theorem isin_mo {k : Int32} (h : ¬ v_X4_isIn k.toInt64 1 12 = 0) : 1 ≤ k.toInt ∧ k.toInt ≤ 12 := by
  have h2 := in_iff.mp h
  rw [Int64.le_iff_toInt_le, Int64.le_iff_toInt_le, Int32.toInt_toInt64] at h2
  exact h2
theorem isin_mp {k : Int32} (h : ¬ v_X4_isIn k.toInt64 1 12 = 0) : vp_in (k - 1) 12 := by
  have h2 := isin_mo h
  refine mo_pred ?_ ?_
  · rw [Int32.le_iff_toInt_le]; exact h2.1
  · rw [Int32.lt_iff_toInt_lt]
    have e : (12 : Int32).toInt = 12 := rfl
    omega
theorem isin_yr {k : Int32} (h : ¬ v_X4_isIn k.toInt64 1600 2400 = 0) : 1600 ≤ k.toInt ∧ k.toInt ≤ 2400 := by
  have h2 := in_iff.mp h
  rw [Int64.le_iff_toInt_le, Int64.le_iff_toInt_le, Int32.toInt_toInt64] at h2
  exact h2
theorem isin_dy {y m k : Int32} (hm : ¬ v_X4_isIn m.toInt64 1 12 = 0) (h : ¬ v_X4_isIn k.toInt64 1 (v_X4_length y m).toInt64 = 0) : 1 ≤ k.toInt ∧ k.toInt ≤ 31 := by
  have h2 := in_iff.mp h
  rw [Int64.le_iff_toInt_le, Int64.le_iff_toInt_le, Int32.toInt_toInt64] at h2
  have h3 := isin_mo hm
  obtain ⟨j, hj⟩ : ∃ j : Nat, m.toInt = j + 1 := ⟨(m.toInt - 1).toNat, by omega⟩
  have e : m = nI (j + 1) := Int32.toInt_inj.mp (by rw [nI_toInt (by omega), hj]; omega)
  have b := len_b y j (by omega)
  rw [e] at h2
  exact ⟨h2.1, Int.le_trans h2.2 b⟩
theorem isin_okd {y m k : Int32} (hy : ¬ v_X4_isIn y.toInt64 1600 2400 = 0) (hm : ¬ v_X4_isIn m.toInt64 1 12 = 0) (h : ¬ v_X4_isIn k.toInt64 1 (v_X4_length y m).toInt64 = 0) : okd (y, m, k) :=
  ⟨(isin_yr hy).1, (isin_yr hy).2, (isin_mo hm).1, (isin_mo hm).2, (isin_dy hm h).1, (isin_dy hm h).2⟩
def rwu (t : TR) (k : Nat) (x : Int32) : TR := if k = 0 then (x, t.2.1, t.2.2) else if k = 1 then (t.1, x, t.2.2) else (t.1, t.2.1, x)
theorem rwu_ok {t : TR} {k : Nat} {x : Int32} (h : k < 3) : upd (rw3 t) k x = rw3 (rwu t k x) := by
  unfold rwu
  by_cases h0 : k = 0
  · subst h0; exact rw3_s0 _ _
  · rw [if_neg h0]
    by_cases h1 : k = 1
    · subst h1; exact rw3_s1 _ _
    · have h2 : k = 2 := by omega
      subst h2
      exact rw3_s2 _ _
/-- a place's address by its name -/
theorem WM_re {g : GG} {A : Nat → Prop} {H0 H : Heap} {N b : Nat} {ad : Nat → Nat} {y : Nat → va_E} {cr dr : Nat → TR} {th kn rf : Int32} {pl : Nat → TR} {pz : Nat} {mc : Int32} {locs : List Loc} (B : WB g A H0 (N + 1) ad (mg g ad y cr dr th kn rf pl pz mc) H locs) (h : ad N = b) : WB g A H0 (N + 1) (va_up ad N b) (mg g (va_up ad N b) y cr dr th kn rf pl pz mc) H locs := by
  have e : va_up ad N b = ad := by
    funext k
    by_cases hk : k = N
    · rw [hk, va_up_self, h]
    · rw [va_up_ne _ _ hk]
  rw [e]
  exact B
theorem pl_pl {N pz i : Nat} (hN : 36 + pz ≤ N) (hi : i + 1 < pz) : 37 + i < N := by omega
theorem isin_3 {k : Int32} (h : ¬ v_X4_isIn k.toInt64 0 3 = 0) (h3 : ¬ k = 3) : vp_in k 3 ∧ k.toNatClampNeg < 3 := by
  have h2 := in_iff.mp h
  rw [Int64.le_iff_toInt_le, Int64.le_iff_toInt_le, Int32.toInt_toInt64] at h2
  have e0 : (0 : Int64).toInt = 0 := rfl
  have e3 : (3 : Int64).toInt = 3 := rfl
  have hn : k.toInt ≠ 3 := fun q => h3 (Int32.toInt_inj.mp (q.trans rfl))
  have hk : k.toNatClampNeg < 3 := by
    show k.toInt.toNat < 3
    omega
  refine ⟨fun q => ?_, hk⟩
  rcases q with q | q
  · rw [Int32.lt_iff_toInt_lt] at q
    have e : (0 : Int32).toInt = 0 := rfl
    omega
  · omega
theorem isin_of {k : Int32} (h1 : ¬ k < 0) (h2 : ¬ 4 ≤ k) : ¬ v_X4_isIn k.toInt64 0 3 = 0 := by
  rw [Int32.lt_iff_toInt_lt] at h1
  rw [Int32.le_iff_toInt_le] at h2
  refine in_iff.mpr ?_
  rw [Int64.le_iff_toInt_le, Int64.le_iff_toInt_le, Int32.toInt_toInt64]
  have e0 : (0 : Int64).toInt = 0 := rfl
  have e3 : (3 : Int64).toInt = 3 := rfl
  have f0 : (0 : Int32).toInt = 0 := rfl
  have f4 : (4 : Int32).toInt = 4 := rfl
  omega
