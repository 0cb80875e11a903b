/-! the class's world: 23 places (0 the object, 1 2 3 its arrays, 4.. its spans: cards 0 to 3, pile 4 to 11, result 12, proof 13; 18.. its days: dates 0 to 3, reached 4); what lies beyond is x -/
abbrev TR : Type := Int32 × Int32 × Int32
abbrev c_sp (t : TR) : va_E := .inr (4, [.int t.1, .int t.2.1, .int t.2.2])
abbrev c_dy (t : TR) : va_E := .inr (3, [.int t.1, .int t.2.1, .int t.2.2])
abbrev c_mn (ad : Nat → Nat) (la kn re : Int32) : va_E := .inr (5, [.ref (ad 1), .ref (ad 2), .ref (ad 3), .int la, .int kn, .int re, .ref (ad 16), .ref (ad 17), .ref (ad 22)])
abbrev c_ar (cA : ClassId) (n : Nat) (h : Nat → Option Nat) : va_E := .inl (cA, n, .inr (.inr (.inr (.inr h))))
def cf (g : GG) (ad : Nat → Nat) (x : Nat → va_E) (sp dy : Nat → TR) (la kn re : Int32) : Nat → va_E := fun k =>
  if k = 0 then c_mn ad la kn re
  else if k = 1 then c_ar (g.2.1 3) 4 (fun j => some (ad (4 + j)))
  else if k = 2 then c_ar (g.2.1 3) 8 (fun j => some (ad (8 + j)))
  else if k = 3 then c_ar (g.2.1 4) 4 (fun j => some (ad (18 + j)))
  else if k < 18 then c_sp (sp (k - 4))
  else if k < 23 then c_dy (dy (k - 18))
  else x k
section CF
variable {g : GG} {ad : Nat → Nat} {x : Nat → va_E} {sp dy : Nat → TR} {la kn re : Int32}
theorem cf_0 : cf g ad x sp dy la kn re 0 = c_mn ad la kn re := rfl
theorem cf_1 : cf g ad x sp dy la kn re 1 = c_ar (g.2.1 3) 4 (fun j => some (ad (4 + j))) := rfl
theorem cf_2 : cf g ad x sp dy la kn re 2 = c_ar (g.2.1 3) 8 (fun j => some (ad (8 + j))) := rfl
theorem cf_3 : cf g ad x sp dy la kn re 3 = c_ar (g.2.1 4) 4 (fun j => some (ad (18 + j))) := rfl
theorem cf_sp {i : Nat} (hi : i < 14) : cf g ad x sp dy la kn re (4 + i) = c_sp (sp i) := by
  unfold cf
  rw [if_neg (by omega), if_neg (by omega), if_neg (by omega), if_neg (by omega), if_pos (by omega), Nat.add_sub_cancel_left]
theorem cf_dy {i : Nat} (hi : i < 5) : cf g ad x sp dy la kn re (18 + i) = c_dy (dy i) := by
  unfold cf
  rw [if_neg (by omega), if_neg (by omega), if_neg (by omega), if_neg (by omega), if_neg (by omega), if_pos (by omega), Nat.add_sub_cancel_left]
theorem cf_x {k : Nat} (hk : 23 ≤ k) : cf g ad x sp dy la kn re k = x k := by
  unfold cf
  rw [if_neg (by omega), if_neg (by omega), if_neg (by omega), if_neg (by omega), if_neg (by omega), if_neg (by omega)]
theorem cf_cases (k : Nat) : k = 0 ∨ k = 1 ∨ k = 2 ∨ k = 3 ∨ (∃ i, i < 14 ∧ k = 4 + i) ∨ (∃ i, i < 5 ∧ k = 18 + i) ∨ 23 ≤ k := by
  by_cases h : k < 4
  · omega
  · by_cases h2 : k < 18
    · exact Or.inr (Or.inr (Or.inr (Or.inr (Or.inl ⟨k - 4, by omega, by omega⟩))))
    · by_cases h3 : k < 23
      · exact Or.inr (Or.inr (Or.inr (Or.inr (Or.inr (Or.inl ⟨k - 18, by omega, by omega⟩)))))
      · omega
theorem cf_up_sp {i : Nat} (hi : i < 14) (t : TR) : va_up (cf g ad x sp dy la kn re) (4 + i) (c_sp t) = cf g ad x (va_up sp i t) dy la kn re := by
  funext k
  by_cases h : k = 4 + i
  · rw [h, va_up_self, cf_sp hi, va_up_self]
  · rw [va_up_ne _ _ h]
    rcases cf_cases k with rfl | rfl | rfl | rfl | ⟨j, hj, rfl⟩ | ⟨j, hj, rfl⟩ | hk
    · rfl
    · rfl
    · rfl
    · rfl
    · rw [cf_sp hj, cf_sp hj, va_up_ne _ _ (by omega)]
    · rw [cf_dy hj, cf_dy hj]
    · rw [cf_x hk, cf_x hk]
theorem cf_up_dy {i : Nat} (hi : i < 5) (t : TR) : va_up (cf g ad x sp dy la kn re) (18 + i) (c_dy t) = cf g ad x sp (va_up dy i t) la kn re := by
  funext k
  by_cases h : k = 18 + i
  · rw [h, va_up_self, cf_dy hi, va_up_self]
  · rw [va_up_ne _ _ h]
    rcases cf_cases k with rfl | rfl | rfl | rfl | ⟨j, hj, rfl⟩ | ⟨j, hj, rfl⟩ | hk
    · rfl
    · rfl
    · rfl
    · rfl
    · rw [cf_sp hj, cf_sp hj]
    · rw [cf_dy hj, cf_dy hj, va_up_ne _ _ (by omega)]
    · rw [cf_x hk, cf_x hk]
theorem cf_spU {i : Nat} {t : TR} (hi : i < 14) : cf g ad x (va_up sp i t) dy la kn re (4 + i) = c_sp t := by rw [cf_sp hi, va_up_self]
theorem cf_dyU {i : Nat} {t : TR} (hi : i < 5) : cf g ad x sp (va_up dy i t) la kn re (18 + i) = c_dy t := by rw [cf_dy hi, va_up_self]
theorem cf_up_spU {i : Nat} (hi : i < 14) (t t' : TR) : va_up (cf g ad x (va_up sp i t) dy la kn re) (4 + i) (c_sp t') = cf g ad x (va_up sp i t') dy la kn re := by rw [cf_up_sp hi, bx_uu]
theorem cf_up_dyU {i : Nat} (hi : i < 5) (t t' : TR) : va_up (cf g ad x sp (va_up dy i t) la kn re) (18 + i) (c_dy t') = cf g ad x sp (va_up dy i t') la kn re := by rw [cf_up_dy hi, bx_uu]
theorem cf_up_mn (la' kn' re' : Int32) : va_up (cf g ad x sp dy la kn re) 0 (c_mn ad la' kn' re') = cf g ad x sp dy la' kn' re' := by
  funext k
  by_cases h : k = 0
  · rw [h, va_up_self, cf_0]
  · rw [va_up_ne _ _ h]
    rcases cf_cases k with rfl | rfl | rfl | rfl | ⟨j, hj, rfl⟩ | ⟨j, hj, rfl⟩ | hk
    · exact absurd rfl h
    · rfl
    · rfl
    · rfl
    · rw [cf_sp hj, cf_sp hj]
    · rw [cf_dy hj, cf_dy hj]
    · rw [cf_x hk, cf_x hk]
end CF
theorem pl_sp {N i : Nat} (hN : 23 ≤ N) (hi : i < 14) : 4 + i < N := by omega
theorem pl_dy {N i : Nat} (hN : 23 ≤ N) (hi : i < 5) : 18 + i < N := by omega
theorem pl_c {N : Nat} (hN : 23 ≤ N) (i : Nat) (hi : i < 23) : i < N := by omega
abbrev rm (d c s : Nat) : Room := { frames := 10 + 2 * d, cells := c, slots := s, locals := 200 + 60 * d }
theorem ix_nl {k n : Int32} (h : k < n) : ¬ n ≤ k := fun q => by rw [Int32.le_iff_toInt_le] at q; rw [Int32.lt_iff_toInt_lt] at h; omega
theorem ix_lt {k b : Int32} {n : Nat} (h1 : ¬ k < 0) (h2 : ¬ b ≤ k) (hb : b.toInt = (n : Int)) : k.toNatClampNeg < n := by
  obtain ⟨j, hj, rfl⟩ := nI_of h1
  rw [nI_clamp hj]
  rw [Int32.le_iff_toInt_le, nI_toInt hj, hb] at h2
  omega
theorem ix_in {k b : Int32} {n : Nat} (h1 : ¬ k < 0) (h2 : ¬ b ≤ k) (hb : b.toInt = (n : Int)) : vp_in k n := by
  have h := ix_lt h1 h2 hb
  exact fun q => q.elim h1 (fun q => by omega)
theorem fu_le {m b : Int32} {n : Nat} (h : ¬ b ≤ m) (hn : (b.toInt - m.toInt).toNat < n + 1) : (b.toInt - (m + 1).toInt).toNat < n := by
  rw [Int32.le_iff_toInt_le] at h
  have hb := Int32.toInt_lt b
  have hm := Int32.le_toInt m
  have e : (m + 1).toInt = m.toInt + 1 := by
    rw [Int32.toInt_add]
    show (m.toInt + 1).bmod (2 ^ 32) = _
    rw [Int.bmod_eq_of_le (by omega) (by omega)]
  rw [e]
  omega
theorem sw_ne {x k : Int32} {z : Int} (h : ¬ x = k) (hk : k.toInt = z) : x.toInt ≠ z := fun e => h (Int32.toInt_inj.mp (e.trans hk.symm))
theorem inc_nn {k b : Int32} (h1 : ¬ k < 0) (h2 : ¬ b ≤ k) : ¬ k + 1 < 0 := by
  rw [Int32.lt_iff_toInt_lt] at h1 ⊢
  rw [Int32.le_iff_toInt_le] at h2
  have hb := Int32.toInt_lt b
  have hm := Int32.le_toInt k
  have h0 : (0 : Int32).toInt = 0 := rfl
  have e : (k + 1).toInt = k.toInt + 1 := by
    rw [Int32.toInt_add]
    show (k.toInt + 1).bmod (2 ^ 32) = _
    rw [Int.bmod_eq_of_le (by omega) (by omega)]
  rw [e]
  omega
theorem le_tr {k b c : Int32} (h1 : ¬ b ≤ k) (h2 : ¬ c < b) : ¬ c ≤ k := by
  rw [Int32.le_iff_toInt_le] at h1 ⊢
  rw [Int32.lt_iff_toInt_lt] at h2
  omega
theorem dec_lt {k : Int32} (h1 : 1 ≤ k) (h2 : ¬ 8 < k) : ¬ k - 1 < 0 ∧ ¬ 8 ≤ k - 1 := by
  rw [Int32.le_iff_toInt_le] at h1 ⊢
  rw [Int32.lt_iff_toInt_lt] at h2 ⊢
  have h0 : (0 : Int32).toInt = 0 := rfl
  have h3 : (1 : Int32).toInt = 1 := rfl
  have h8 : (8 : Int32).toInt = 8 := rfl
  have e : (k - 1).toInt = k.toInt - 1 := by
    rw [Int32.toInt_sub]
    show (k.toInt - 1).bmod (2 ^ 32) = _
    rw [Int.bmod_eq_of_le (by omega) (by omega)]
  rw [e]
  omega
theorem nb_of {v : Int32} (h : v = 0 ∨ v = 1) : narrow .boolean (.int v) = .int v := by rcases h with rfl | rfl <;> rfl
theorem mw_min : Cond.code Lib.Math.min.name Lib.Math.min.code 2 (some .int) ∈ tb_all ∧ Cond.static Lib.Math.min.name ∈ tb_all ∧ Cond.initialized "java/lang/Math" ∈ tb_all := ⟨tb_in (lw_at 185 (by decide +kernel)) rfl, tb_in (lw_at 184 (by decide +kernel)) rfl, ii_J9⟩
