/-! texts in the reference's world -/
section WMT
variable {g : GG} {A : Nat → Prop} {H0 H : Heap} {N M : Nat} {ad ad' : Nat → Nat} {y : Nat → va_E} {cr dr : Nat → TR} {th kn rf : Int32} {pl : Nat → TR} {pz : Nat} {mc : Int32} {locs : List Loc}
theorem WM_up2 {q q2 : Nat} {c c2 : va_E} (hq : 36 + pz ≤ q) (hq2 : 36 + pz ≤ q2) (B : WB g A H0 M ad' (va_up (va_up (mg g ad y cr dr th kn rf pl pz mc) q c) q2 c2) H locs) (h : ∀ j, j < 36 + pz → ad' j = ad j) : WB g A H0 M ad' (mg g ad' (va_up (va_up y q c) q2 c2) cr dr th kn rf pl pz mc) H locs := by
  rw [mg_yup hq, mg_yup hq2] at B
  exact WB_same B (Nat.le_refl _) (fun _ _ => rfl) (fun k _ => mg_ad (fun j hj _ => h j hj) rfl)
theorem WM_push2 {a a2 : Nat} {c c2 : va_E} (hN : 36 + pz ≤ N) (B : WB g A H0 (N + 1 + 1) (va_up (va_up ad N a) (N + 1) a2) (va_up (va_up (mg g ad y cr dr th kn rf pl pz mc) N c) (N + 1) c2) H locs) : WB g A H0 (N + 1 + 1) (va_up (va_up ad N a) (N + 1) a2) (mg g (va_up (va_up ad N a) (N + 1) a2) (va_up (va_up y N c) (N + 1) c2) cr dr th kn rf pl pz mc) H locs :=
  WM_up2 hN (by omega) B (fun j hj => (va_up_ne _ _ (by omega)).trans (va_up_ne _ _ (by omega)))
/-- a text and its bytes are kept behind the world -/
theorem WM_pick2 {q a a2 : Nat} {e e2 : va_E} {y' : Nat → va_E} (B : WB g A H0 M ad' (mg g ad' y' cr dr th kn rf pl pz mc) H locs) (hN : 36 + pz ≤ N) (hq : N ≤ q) (hM : q + 1 < M) (h1 : ∀ k, k < N → ad' k = ad k) (h2 : ∀ k, k < N → y' k = y k) (ha : ad' q = a) (ha2 : ad' (q + 1) = a2) (he : y' q = e) (he2 : y' (q + 1) = e2) : WB g A H0 (N + 1 + 1) (va_up (va_up ad N a) (N + 1) a2) (mg g (va_up (va_up ad N a) (N + 1) a2) (va_up (va_up y N e) (N + 1) e2) cr dr th kn rf pl pz mc) H locs := by
  have B2 : WB g A H0 (N + 1 + 1) (va_up (va_up ad N a) (N + 1) a2) (va_up (va_up (mg g ad' y cr dr th kn rf pl pz mc) N e) (N + 1) e2) H locs := by
    refine WB_pick2 (f := mg g ad' y cr dr th kn rf pl pz mc) B hq hM h1 (fun k hk => ?_) ha ha2 ((mg_hi (by omega)).trans he) ((mg_hi (by omega)).trans he2)
    rcases mg_cases pz k with c | rfl | rfl | rfl | rfl | ⟨i, hi, rfl⟩ | ⟨i, hi, rfl⟩ | ⟨rfl, hp⟩ | ⟨i, hi, rfl⟩ | c
    · rw [mg_lo c, mg_lo c, h2 k hk]
    · rfl
    · rfl
    · rfl
    · rfl
    · rw [mg_cr hi, mg_cr hi]
    · rw [mg_dr hi, mg_dr hi]
    · rw [mg_ed hp, mg_ed hp]
    · rw [mg_pl hi, mg_pl hi]
    · rw [mg_hi c, mg_hi c, h2 k hk]
  exact WM_up2 hN (by omega) B2 (fun j hj => (va_up_ne _ _ (by omega)).trans ((va_up_ne _ _ (by omega)).trans (h1 j (by omega)).symm))
end WMT
theorem tot_sz (t : TR) : ssl (v_X4_total t) ≤ 12 := by
  have hl1 := Int32.le_toInt t.1
  have hr1 := Int32.toInt_lt t.1
  have hl2 := Int32.le_toInt t.2.1
  have hr2 := Int32.toInt_lt t.2.1
  have e12 : (12 : Int64).toInt = 12 := rfl
  have em : (12 * t.1.toInt64).toInt = 12 * t.1.toInt := by
    rw [Int64.toInt_mul, e12, Int32.toInt_toInt64, Int.bmod_eq_of_le (by omega) (by omega)]
  have e : (v_X4_total t).toInt = 12 * t.1.toInt + t.2.1.toInt := by
    unfold v_X4_total
    rw [add_l (by rw [em, Int32.toInt_toInt64]; omega) (by rw [em, Int32.toInt_toInt64]; omega), em, Int32.toInt_toInt64]
  have e10 : (10 : Nat) ^ (10 + 1) = 100000000000 := by decide
  have h := dgs_le 10 (v_X4_total t).toInt.natAbs (by omega)
  unfold ssl
  split <;> omega
def msg (a : Int32) : Int32 := if a = 0 then 1 else -1
theorem isin_lo {k s : Int32} (h : ¬ v_X4_isIn k.toInt64 0 ((s - 1).toInt64) = 0) : ¬ k < 0 := by
  have h2 := (in_iff.mp h).1
  rw [Int64.le_iff_toInt_le, Int32.toInt_toInt64] at h2
  rw [Int32.lt_iff_toInt_lt]
  have e0 : (0 : Int64).toInt = 0 := rfl
  have f0 : (0 : Int32).toInt = 0 := rfl
  omega
theorem isin_hi {pz : Nat} (hz : pz ≤ 9) {k : Int32} (h : ¬ v_X4_isIn k.toInt64 0 ((Int32.ofNat (pz - 1) - 1).toInt64) = 0) : ¬ Int32.ofNat (pz - 1) ≤ k := by
  have h2 := (in_iff.mp h).2
  rw [Int64.le_iff_toInt_le, Int32.toInt_toInt64, Int32.toInt_toInt64] at h2
  rw [Int32.le_iff_toInt_le]
  have e1 : (1 : Int32).toInt = 1 := rfl
  have es := sz_toInt (n := pz - 1) (by omega)
  have e2 := sub_i (x := Int32.ofNat (pz - 1)) (y := 1) (by omega) (by omega)
  omega
theorem isin_9 {k : Int32} (h : ¬ v_X4_isIn k.toInt64 0 9 = 0) : ¬ 9 < k := by
  have h2 := (in_iff.mp h).2
  rw [Int64.le_iff_toInt_le, Int32.toInt_toInt64] at h2
  rw [Int32.lt_iff_toInt_lt]
  have e1 : (9 : Int64).toInt = 9 := rfl
  have e2 : (9 : Int32).toInt = 9 := rfl
  omega
theorem isin_of5 {k : Int32} (h1 : ¬ k < 0) (h2 : ¬ 5 ≤ k) : ¬ v_X4_isIn k.toInt64 0 4 = 0 := by
  rw [Int32.lt_iff_toInt_lt] at h1
  rw [Int32.le_iff_toInt_le] at h2
  refine in_iff.mpr ?_
  rw [Int64.le_iff_toInt_le, Int64.le_iff_toInt_le, Int32.toInt_toInt64]
  have e0 : (0 : Int64).toInt = 0 := rfl
  have e4 : (4 : Int64).toInt = 4 := rfl
  have f0 : (0 : Int32).toInt = 0 := rfl
  have f5 : (5 : Int32).toInt = 5 := rfl
  omega
