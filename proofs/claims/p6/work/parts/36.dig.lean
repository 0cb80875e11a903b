/-! how many digits -/
def dgs (w : Nat) : Nat := if w < 10 then 1 else dgs (w / 10) + 1
  decreasing_by omega
theorem dgs_lt {w : Nat} (h : w < 10) : dgs w = 1 := by
  rw [dgs, if_pos h]
theorem dgs_ge {w : Nat} (h : 10 ≤ w) : dgs w = dgs (w / 10) + 1 := by
  rw [dgs, if_neg (by omega)]
theorem dgs_100 {w : Nat} (h : 100 ≤ w) : dgs w = dgs (w / 100) + 2 := by
  rw [dgs_ge (by omega), dgs_ge (w := w / 10) (by omega), Nat.div_div_eq_div_mul]
theorem dgs_pos (w : Nat) : 1 ≤ dgs w := by
  by_cases h : w < 10
  · rw [dgs_lt h]; omega
  · rw [dgs_ge (by omega)]; omega
theorem dgs_2 {w : Nat} (h : 10 ≤ w) : 2 ≤ dgs w := by
  have := dgs_pos (w / 10)
  rw [dgs_ge h]; omega
theorem dgs_eq : ∀ (k w : Nat), w < 10 ^ (k + 1) → (k = 0 ∨ 10 ^ k ≤ w) → dgs w = k + 1 := by
  intro k
  induction k with
  | zero => intro w h _; exact dgs_lt h
  | succ k ih =>
    intro w h h2
    have h2 : 10 ^ (k + 1) ≤ w := h2.resolve_left (by omega)
    rw [Nat.pow_succ] at h h2
    have hp : 0 < 10 ^ k := Nat.pow_pos (by decide)
    rw [dgs_ge (by omega), ih (w / 10) (by omega) ?_]
    exact Or.inr (by omega)
theorem dgs_le : ∀ (k w : Nat), w < 10 ^ (k + 1) → dgs w ≤ k + 1 := by
  intro k
  induction k with
  | zero => intro w h; rw [dgs_lt h]; omega
  | succ k ih =>
    intro w h
    by_cases h1 : w < 10
    · rw [dgs_lt h1]; omega
    · rw [Nat.pow_succ] at h
      have := ih (w / 10) (by omega)
      rw [dgs_ge (by omega)]
      omega
theorem neg_i {x : Int32} (h : 0 ≤ x) : (-x).toInt = -x.toInt := by
  rw [Int32.le_iff_toInt_le] at h
  have e0 : (0 : Int32).toInt = 0 := rfl
  have := Int32.toInt_lt x
  rw [Int32.toInt_neg, Int.bmod_eq_of_le (by omega) (by omega)]
theorem neg_n {x : Int32} (h : x.toInt ≤ 0) (h1 : -2147483647 ≤ x.toInt) : (-x).toInt = -x.toInt := by
  rw [Int32.toInt_neg, Int.bmod_eq_of_le (by omega) (by omega)]
theorem neg_l {x : Int64} (h : 0 ≤ x) : (-x).toInt = -x.toInt := by
  rw [Int64.le_iff_toInt_le] at h
  have e0 : (0 : Int64).toInt = 0 := rfl
  have := Int64.toInt_lt x
  rw [Int64.toInt_neg, Int.bmod_eq_of_le (by omega) (by omega)]
theorem ss_s {xx dd : Int32} {w : Nat} (hx : xx.toInt = -(w : Int)) (hw : w < 10 ^ 10) : ∀ (n k : Nat) (pp ii : Int32), k < 10 → ii = nI (k + 1) → (k ≤ 8 → pp.toInt = -((10 ^ (k + 1) : Nat) : Int)) → (k = 0 ∨ 10 ^ k ≤ w) → 9 - k < n → wJ6_stringSize_0f7a4_16 n xx dd pp ii = nI (dgs w) + dd := by
  intro n
  induction n with
  | zero => intro k pp ii _ _ _ _ h; omega
  | succ n ih =>
    intro k pp ii hk hi hp h0 hn
    rw [wJ6_stringSize_0f7a4_16]
    have e10 : (10 : Int32).toInt = 10 := rfl
    have ei : ii.toInt = (k + 1 : Nat) := by rw [hi, nI_toInt (by omega)]
    by_cases c : 10 ≤ ii
    · rw [if_pos c]
      rw [Int32.le_iff_toInt_le, ei, e10] at c
      have k9 : k = 9 := by omega
      subst k9
      rw [dgs_eq 9 w hw h0]
      rfl
    · rw [if_neg c]
      rw [Int32.le_iff_toInt_le, ei, e10] at c
      have k8 : k ≤ 8 := by omega
      have hp8 := hp k8
      by_cases c2 : xx ≤ pp
      · rw [if_pos c2]
        rw [Int32.le_iff_toInt_le, hx, hp8] at c2
        refine ih (k + 1) _ _ (by omega) (by rw [hi, nI_1]) (fun h7 => ?_) (Or.inr (by omega)) (by omega)
        have hb : 10 ^ (k + 1) ≤ 10 ^ 8 := Nat.pow_le_pow_right (by decide) (by omega)
        have e8 : (10 : Nat) ^ 8 = 100000000 := by decide
        rw [e8] at hb
        rw [Nat.pow_succ 10 (k + 1)]
        generalize 10 ^ (k + 1) = P at hb hp8 ⊢
        rw [Int32.toInt_mul, e10, hp8, Int.bmod_eq_of_le (by omega) (by omega)]
        omega
      · rw [if_neg c2, hi]
        rw [Int32.le_iff_toInt_le, hx, hp8] at c2
        rw [dgs_eq k w (by omega) h0]
/-- how many letters a number has -/
def ssz (a : Int32) : Nat := dgs a.toInt.natAbs + (if a < 0 then 1 else 0)
theorem ssz_ok (a : Int32) : v_J6_stringSize_0f7a4 a = nI (ssz a) := by
  have hl := Int32.le_toInt a
  have hr := Int32.toInt_lt a
  have e10 : (10 : Nat) ^ 10 = 10000000000 := by decide
  unfold v_J6_stringSize_0f7a4 ssz
  by_cases c : a < 0
  · rw [if_pos c, if_pos c]
    rw [Int32.lt_iff_toInt_lt] at c
    have e0 : (0 : Int32).toInt = 0 := rfl
    rw [ss_s (w := a.toInt.natAbs) (by omega) (by omega) _ 0 (-10) 1 (by omega) rfl (fun _ => by decide) (Or.inl rfl) (by omega), nI_1]
  · rw [if_neg c, if_neg c]
    have hn := neg_i (Int32.not_lt.mp c)
    rw [Int32.lt_iff_toInt_lt] at c
    have e0 : (0 : Int32).toInt = 0 := rfl
    rw [ss_s (w := a.toInt.natAbs) (by omega) (by omega) _ 0 (-10) 1 (by omega) rfl (fun _ => by decide) (Or.inl rfl) (by omega)]
    exact Int32.add_zero _
theorem ssz_b (a : Int32) : 1 ≤ ssz a ∧ ssz a ≤ 11 := by
  have hl := Int32.le_toInt a
  have hr := Int32.toInt_lt a
  have e10 : (10 : Nat) ^ (9 + 1) = 10000000000 := by decide
  have h1 := dgs_pos a.toInt.natAbs
  have h2 := dgs_le 9 a.toInt.natAbs (by omega)
  unfold ssz
  split <;> omega
theorem sl_s {xx : Int64} {dd : Int32} {w : Nat} (hx : xx.toInt = -(w : Int)) (hw : w < 10 ^ 19) : ∀ (n k : Nat) (pp : Int64) (ii : Int32), k < 19 → ii = nI (k + 1) → (k ≤ 17 → pp.toInt = -((10 ^ (k + 1) : Nat) : Int)) → (k = 0 ∨ 10 ^ k ≤ w) → 18 - k < n → wJ13_stringSize_95d88_20 n xx dd pp ii = nI (dgs w) + dd := by
  intro n
  induction n with
  | zero => intro k pp ii _ _ _ _ h; omega
  | succ n ih =>
    intro k pp ii hk hi hp h0 hn
    rw [wJ13_stringSize_95d88_20]
    have e19 : (19 : Int32).toInt = 19 := rfl
    have e10 : (10 : Int64).toInt = 10 := rfl
    have ei : ii.toInt = (k + 1 : Nat) := by rw [hi, nI_toInt (by omega)]
    by_cases c : 19 ≤ ii
    · rw [if_pos c]
      rw [Int32.le_iff_toInt_le, ei, e19] at c
      have k9 : k = 18 := by omega
      subst k9
      rw [dgs_eq 18 w hw h0]
      rfl
    · rw [if_neg c]
      rw [Int32.le_iff_toInt_le, ei, e19] at c
      have k8 : k ≤ 17 := by omega
      have hp8 := hp k8
      by_cases c2 : lg_cmp xx pp ≤ 0
      · rw [if_pos c2]
        have c2 := (lg_cmp_le xx pp).mp c2
        rw [Int64.le_iff_toInt_le, hx, hp8] at c2
        refine ih (k + 1) _ _ (by omega) (by rw [hi, nI_1]) (fun h7 => ?_) (Or.inr (by omega)) (by omega)
        have hb : 10 ^ (k + 1) ≤ 10 ^ 17 := Nat.pow_le_pow_right (by decide) (by omega)
        have e8 : (10 : Nat) ^ 17 = 100000000000000000 := by decide
        rw [e8] at hb
        rw [Nat.pow_succ 10 (k + 1)]
        generalize 10 ^ (k + 1) = P at hb hp8 ⊢
        rw [Int64.toInt_mul, e10, hp8, Int.bmod_eq_of_le (by omega) (by omega)]
        omega
      · rw [if_neg c2, hi]
        have c2 : ¬ xx ≤ pp := fun q => c2 ((lg_cmp_le xx pp).mpr q)
        rw [Int64.le_iff_toInt_le, hx, hp8] at c2
        rw [dgs_eq k w (by omega) h0]
def ssl (a : Int64) : Nat := dgs a.toInt.natAbs + (if a < 0 then 1 else 0)
theorem ssl_ok (a : Int64) : v_J13_stringSize_95d88 a = nI (ssl a) := by
  have hl := Int64.le_toInt a
  have hr := Int64.toInt_lt a
  have e10 : (10 : Nat) ^ 19 = 10000000000000000000 := by decide
  unfold v_J13_stringSize_95d88 ssl
  by_cases c : a < 0
  · rw [if_pos ((lg_cmp_lt a 0).mpr c), if_pos c]
    rw [Int64.lt_iff_toInt_lt] at c
    have e0 : (0 : Int64).toInt = 0 := rfl
    rw [sl_s (w := a.toInt.natAbs) (by omega) (by omega) _ 0 (-10) 1 (by omega) rfl (fun _ => by decide) (Or.inl rfl) (by omega), nI_1]
  · rw [if_neg (fun q => c ((lg_cmp_lt a 0).mp q)), if_neg c]
    have hn := neg_l (Int64.not_lt.mp c)
    rw [Int64.lt_iff_toInt_lt] at c
    have e0 : (0 : Int64).toInt = 0 := rfl
    rw [sl_s (w := a.toInt.natAbs) (by omega) (by omega) _ 0 (-10) 1 (by omega) rfl (fun _ => by decide) (Or.inl rfl) (by omega)]
    exact Int32.add_zero _
theorem ssl_b (a : Int64) : 1 ≤ ssl a ∧ ssl a ≤ 20 := by
  have hl := Int64.le_toInt a
  have hr := Int64.toInt_lt a
  have e10 : (10 : Nat) ^ (18 + 1) = 10000000000000000000 := by decide
  have h1 := dgs_pos a.toInt.natAbs
  have h2 := dgs_le 18 a.toInt.natAbs (by omega)
  unfold ssl
  split <;> omega
/-! getChars: it stays within the array -/
def gcs (a0 a1 : Int32) (n : Nat) : Prop := (ssz a0 : Int) ≤ a1.toInt ∧ a1.toInt ≤ (n : Int)
def gci (x p s : Int32) (n : Nat) : Prop := x.toInt ≤ 0 ∧ (dgs x.toInt.natAbs : Int) + s.toInt ≤ p.toInt ∧ p.toInt ≤ (n : Int) ∧ (s = 0 ∨ s = 1)
theorem gi_pos {a0 a1 : Int32} {n : Nat} (h : gcs a0 a1 n) (h0 : 0 ≤ a0) : gci (-a0) a1 0 n := by
  have hn := neg_i h0
  have e0 : (0 : Int32).toInt = 0 := rfl
  have hz : ssz a0 = dgs a0.toInt.natAbs := by
    unfold ssz
    rw [if_neg (Int32.not_lt.mpr h0)]
    rfl
  have h1 := h.1
  have h2 := h.2
  rw [Int32.le_iff_toInt_le] at h0
  refine ⟨by omega, ?_, h2, Or.inl rfl⟩
  rw [hn, Int.natAbs_neg]
  omega
theorem gi_neg {a0 a1 : Int32} {n : Nat} (h : gcs a0 a1 n) (h0 : ¬ 0 ≤ a0) : gci a0 a1 1 n := by
  have e0 : (0 : Int32).toInt = 0 := rfl
  have e1 : (1 : Int32).toInt = 1 := rfl
  have hz : ssz a0 = dgs a0.toInt.natAbs + 1 := by
    unfold ssz
    rw [if_pos (Int32.not_le.mp h0)]
  have h1 := h.1
  have h2 := h.2
  rw [Int32.le_iff_toInt_le] at h0
  exact ⟨by omega, by omega, h2, Or.inr rfl⟩
theorem div_n {x : Int32} {w : Nat} (h : x.toInt = -(w : Int)) : (x / 100).toInt = -((w / 100 : Nat) : Int) := by
  have hl := Int32.le_toInt x
  have e : (w : Int).tdiv 100 = ((w / 100 : Nat) : Int) := by
    rw [Int.tdiv_eq_ediv_of_nonneg (by omega)]
    omega
  rw [Int32.toInt_div, h, show (100 : Int32).toInt = 100 from rfl, Int.neg_tdiv, e, Int.bmod_eq_of_le (by omega) (by omega)]
theorem big_n {x : Int32} {w : Nat} (h : x.toInt = -(w : Int)) (hb : ¬ (-100) < x) : 100 ≤ w := by
  rw [Int32.lt_iff_toInt_lt, h] at hb
  have e : (-100 : Int32).toInt = -100 := rfl
  omega
theorem gci_w {x p s : Int32} {n : Nat} (h : gci x p s n) : x.toInt = -(x.toInt.natAbs : Int) := by
  have := h.1
  omega
theorem s01 {s : Int32} (h : s = 0 ∨ s = 1) : 0 ≤ s.toInt ∧ s.toInt ≤ 1 := by
  rcases h with rfl | rfl <;> decide
theorem pm1 {p : Int32} (h : 1 ≤ p.toInt) : (p + (-1)).toInt = p.toInt - 1 := by
  have e : (-1 : Int32).toInt = -1 := rfl
  have := Int32.toInt_lt p
  rw [add_i (by omega) (by omega), e]
  omega
theorem nab {a : Int} {w : Nat} (h : a = -(w : Int)) : a.natAbs = w := by omega
theorem gi_next {x p s : Int32} {n : Nat} (h : gci x p s n) (hb : ¬ (-100) < x) : gci (x / 100) ((p + (-1)) + (-1)) s n := by
  have hw := gci_w h
  have hd := div_n hw
  have ea := nab hd
  have h100 := big_n hw hb
  have e100 : dgs x.toInt.natAbs = dgs (x / 100).toInt.natAbs + 2 := by
    rw [ea]
    exact dgs_100 h100
  have e1 := dgs_pos (x / 100).toInt.natAbs
  have hs := s01 h.2.2.2
  have h2 := h.2.1
  have h3 := h.2.2.1
  have hx : (x / 100).toInt ≤ 0 := by
    rw [hd]
    exact Int.neg_nonpos_of_nonneg (Int.natCast_nonneg _)
  unfold gci
  clear hw hd h100 ea
  generalize dgs x.toInt.natAbs = D at h2 e100
  generalize dgs (x / 100).toInt.natAbs = D2 at e100 e1 ⊢
  have p1 := pm1 (p := p) (by omega)
  have p2 := pm1 (p := p + (-1)) (by omega)
  exact ⟨hx, by omega, by omega, h.2.2.2⟩
theorem gi_dec {x p s : Int32} {n k : Nat} (h : gci x p s n) (hb : ¬ (-100) < x) (hn : x.toInt.natAbs < k + 1) : (x / 100).toInt.natAbs < k := by
  have hw := gci_w h
  have hd := div_n hw
  have h100 := big_n hw hb
  omega
theorem in_of {x : Int32} {n : Nat} (h0 : 0 ≤ x.toInt) (h1 : x.toInt < (n : Int)) : vp_in x n ∧ x.toNatClampNeg < n := by
  have hk : x.toNatClampNeg < n := by
    show x.toInt.toNat < n
    omega
  refine ⟨fun q => ?_, hk⟩
  rcases q with q | q
  · rw [Int32.lt_iff_toInt_lt] at q
    have e : (0 : Int32).toInt = 0 := rfl
    omega
  · omega
theorem gt_rem {x p s : Int32} {n : Nat} (h : gci x p s n) : vp_in (((x / 100) * 100) - x) 100 ∧ (((x / 100) * 100) - x).toNatClampNeg < 100 := by
  have hw := gci_w h
  have hd := div_n hw
  have hl := Int32.le_toInt x
  have e : (100 : Int32).toInt = 100 := rfl
  have em : ((x / 100) * 100).toInt = -((x.toInt.natAbs / 100 : Nat) : Int) * 100 := by
    rw [Int32.toInt_mul, hd, e, Int.bmod_eq_of_le (by omega) (by omega)]
  have es := sub_i (x := (x / 100) * 100) (y := x) (by omega) (by omega)
  exact in_of (by omega) (by omega)
theorem gt_neg {x p s : Int32} {n : Nat} (h : gci x p s n) (hb : (-100) < x) : vp_in (-x) 100 ∧ (-x).toNatClampNeg < 100 := by
  have h1 := h.1
  rw [Int32.lt_iff_toInt_lt] at hb
  have e : (-100 : Int32).toInt = -100 := rfl
  have hn := neg_n h1 (by omega)
  exact in_of (by omega) (by omega)
theorem gp_1 {x p s : Int32} {n : Nat} (h : gci x p s n) : vp_in (p + (-1)) n ∧ (p + (-1)).toNatClampNeg < n := by
  have hs := s01 h.2.2.2
  have h2 := h.2.1
  have h3 := h.2.2.1
  have hd := dgs_pos x.toInt.natAbs
  have p1 := pm1 (p := p) (by omega)
  exact in_of (by omega) (by omega)
theorem gp_22 {p : Int32} {n : Nat} (h : 2 ≤ p.toInt) (h3 : p.toInt ≤ (n : Int)) : vp_in ((p + (-1)) + (-1)) n ∧ ((p + (-1)) + (-1)).toNatClampNeg < n := by
  have p1 := pm1 (p := p) (by omega)
  have p2 := pm1 (p := p + (-1)) (by omega)
  exact in_of (by omega) (by omega)
theorem gp_33 {p : Int32} {n : Nat} (h : 3 ≤ p.toInt) (h3 : p.toInt ≤ (n : Int)) : vp_in (((p + (-1)) + (-1)) + (-1)) n ∧ (((p + (-1)) + (-1)) + (-1)).toNatClampNeg < n := by
  have p1 := pm1 (p := p) (by omega)
  have p2 := pm1 (p := p + (-1)) (by omega)
  have p3 := pm1 (p := (p + (-1)) + (-1)) (by omega)
  exact in_of (by omega) (by omega)
theorem gp_2 {x p s : Int32} {n : Nat} (h : gci x p s n) (hb : ¬ (-100) < x) : vp_in ((p + (-1)) + (-1)) n ∧ ((p + (-1)) + (-1)).toNatClampNeg < n := by
  have hs := s01 h.2.2.2
  have h2 := h.2.1
  have hd := dgs_2 (w := x.toInt.natAbs) (by have := big_n (gci_w h) hb; omega)
  exact gp_22 (by omega) h.2.2.1
theorem nin_n {x : Int32} {w : Nat} (h : x.toInt = -(w : Int)) (hb : ¬ (-9) ≤ x) : 10 ≤ w := by
  rw [Int32.le_iff_toInt_le, h] at hb
  have e : (-9 : Int32).toInt = -9 := rfl
  omega
theorem gp_2n {x p s : Int32} {n : Nat} (h : gci x p s n) (hb : ¬ (-9) ≤ x) : vp_in ((p + (-1)) + (-1)) n ∧ ((p + (-1)) + (-1)).toNatClampNeg < n := by
  have hs := s01 h.2.2.2
  have h2 := h.2.1
  have hd := dgs_2 (w := x.toInt.natAbs) (nin_n (gci_w h) hb)
  exact gp_22 (by omega) h.2.2.1
theorem s_1 {s : Int32} (h : s = 0 ∨ s = 1) (hs : ¬ s = 0) : s.toInt = 1 := by
  rw [h.resolve_left hs]
  rfl
theorem gp_s1 {x p s : Int32} {n : Nat} (h : gci x p s n) (hz : ¬ s = 0) : vp_in ((p + (-1)) + (-1)) n ∧ ((p + (-1)) + (-1)).toNatClampNeg < n := by
  have hs := s_1 h.2.2.2 hz
  have h2 := h.2.1
  have hd := dgs_pos x.toInt.natAbs
  exact gp_22 (by omega) h.2.2.1
theorem gp_s2 {x p s : Int32} {n : Nat} (h : gci x p s n) (hb : ¬ (-9) ≤ x) (hz : ¬ s = 0) : vp_in (((p + (-1)) + (-1)) + (-1)) n ∧ (((p + (-1)) + (-1)) + (-1)).toNatClampNeg < n := by
  have hs := s_1 h.2.2.2 hz
  have h2 := h.2.1
  have hd := dgs_2 (w := x.toInt.natAbs) (nin_n (gci_w h) hb)
  exact gp_33 (by omega) h.2.2.1
theorem up_id {f : Nat → va_E} {q : Nat} {e : va_E} (h : f q = e) (k : Nat) : f k = va_up f q e k := by
  by_cases c : k = q
  · rw [c, va_up_self, h]
  · rw [va_up_ne _ _ c]
