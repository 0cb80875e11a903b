/-! turning a text round -/
def rvi (j : Int32) (c : Nat) : Prop := -1 ≤ j.toInt ∧ j.toInt ≤ (c : Int) - 1
theorem rv_0 {c : Nat} (h : c ≤ 150) : rvi (((nI c - 1) - 1) >>> ((1 : Int32) &&& 31)) c := by
  have k : (List.range 151).all (fun c => decide (-1 ≤ (((nI c - 1) - 1) >>> ((1 : Int32) &&& 31)).toInt ∧ (((nI c - 1) - 1) >>> ((1 : Int32) &&& 31)).toInt ≤ (c : Int) - 1)) = true := by decide +kernel
  unfold rvi
  exact of_decide_eq_true (List.all_eq_true.mp k c (List.mem_range.mpr (by omega)))
theorem rv_nn {j : Int32} (h : ¬ j < 0) : 0 ≤ j.toInt := by
  rw [Int32.lt_iff_toInt_lt, show (0 : Int32).toInt = 0 from rfl] at h
  omega
theorem rv_1 {j : Int32} {c n : Nat} (h : rvi j c) (hj : ¬ j < 0) (hc : c ≤ n) : vp_in j n ∧ j.toNatClampNeg < n := by
  have h1 := rv_nn hj
  have h2 := h.2
  exact in_of (by omega) (by omega)
theorem rv_2 {j : Int32} {c n : Nat} (h : rvi j c) (hj : ¬ j < 0) (hc : c ≤ n) (hn : n ≤ 150) : vp_in ((nI c - 1) - j) n ∧ ((nI c - 1) - j).toNatClampNeg < n := by
  have h1 := rv_nn hj
  have h2 := h.2
  have e1 : (1 : Int32).toInt = 1 := rfl
  have ec : (nI c).toInt = (c : Int) := nI_toInt (by omega)
  have s1 := sub_i (x := nI c) (y := 1) (by omega) (by omega)
  have s2 := sub_i (x := nI c - 1) (y := j) (by omega) (by omega)
  exact in_of (by omega) (by omega)
theorem rv_next {j : Int32} {c : Nat} (h : rvi j c) (hj : ¬ j < 0) : rvi (j + (-1)) c := by
  have h1 := rv_nn hj
  have h2 := h.2
  have e1 : (-1 : Int32).toInt = -1 := rfl
  have hl := Int32.toInt_lt j
  have s1 := add_i (x := j) (y := -1) (by omega) (by omega)
  unfold rvi
  omega
theorem rv_dec {j : Int32} {c k : Nat} (h : rvi j c) (hj : ¬ j < 0) (hn : (j.toInt + 1).toNat < k + 1) : ((j + (-1)).toInt + 1).toNat < k := by
  have h1 := rv_nn hj
  have e1 : (-1 : Int32).toInt = -1 := rfl
  have hl := Int32.toInt_lt j
  have s1 := add_i (x := j) (y := -1) (by omega) (by omega)
  omega
