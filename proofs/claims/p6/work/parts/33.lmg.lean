/-! the reference's world: more ways on -/
theorem va_eq.trans {a b c : va_E} (h1 : va_eq a b) (h2 : va_eq b c) : va_eq a c := by
  rcases h1 with rfl | ⟨cA, n, h, h', rfl, rfl, e⟩
  · exact h2
  · rcases h2 with rfl | ⟨cB, m, k, k', e1, rfl, e2⟩
    · exact Or.inr ⟨cA, n, h, h', rfl, rfl, e⟩
    · injection e1 with e1
      injection e1 with ea eb
      injection eb with ec ed
      injection ed with ed
      injection ed with ed
      injection ed with ed
      injection ed with ed
      subst ea ec ed
      exact Or.inr ⟨cA, n, h, k', rfl, rfl, fun j hj => (e j hj).trans (e2 j hj)⟩
section MGX
variable {g : GG} {ad ad' : Nat → Nat} {y y' : Nat → va_E} {cr cr' dr : Nat → TR} {th kn rf : Int32} {pl pl' : Nat → TR} {pz pz' : Nat} {mc mc' : Int32}
/-- but for one card's place -/
theorem mg_adx {i k : Nat} (hi : i < 4) (h : ∀ j, j < 36 + pz → 25 ≤ j → j ≠ 28 + i → ad' j = ad j) (hk : k ≠ 25) (hk2 : k ≠ 28 + i) (hy : y' k = y k) (hc : ∀ j, j ≠ i → cr' j = cr j) : va_eq (mg g ad' y' cr' dr th kn rf pl pz mc k) (mg g ad y cr dr th kn rf pl pz mc k) := by
  rcases mg_cases pz k with h1 | rfl | rfl | rfl | rfl | ⟨j, hj, rfl⟩ | ⟨j, hj, rfl⟩ | ⟨rfl, hp⟩ | ⟨j, hj, rfl⟩ | h1
  · rw [mg_lo h1, mg_lo h1]; exact Or.inl hy
  · rw [mg_24, mg_24]; unfold c_md; rw [h 25 (by omega) (by omega) (by omega), h 26 (by omega) (by omega) (by omega), h 27 (by omega) (by omega) (by omega)]; exact Or.inl rfl
  · exact absurd rfl hk
  · rw [mg_26, mg_26]; exact Or.inr ⟨_, _, _, _, rfl, rfl, fun j hj => by rw [h _ (by omega) (by omega) (by omega)]⟩
  · rw [mg_27, mg_27]; unfold c_al
    by_cases hp : pz = 0
    · rw [if_pos hp, if_pos hp]; exact Or.inl rfl
    · rw [if_neg hp, if_neg hp, h 36 (by omega) (by omega) (by omega)]; exact Or.inl rfl
  · rw [mg_cr hj, mg_cr hj, hc j (by omega)]; exact Or.inl rfl
  · rw [mg_dr hj, mg_dr hj]; exact Or.inl rfl
  · rw [mg_ed hp, mg_ed hp]
    refine Or.inr ⟨_, _, _, _, rfl, rfl, fun j hj => ?_⟩
    by_cases h2 : j + 1 < pz
    · rw [if_pos h2, if_pos h2, h _ (by omega) (by omega) (by omega)]
    · rw [if_neg h2, if_neg h2]
  · rw [mg_pl hj, mg_pl hj]; exact Or.inl rfl
  · rw [mg_hi h1, mg_hi h1]; exact Or.inl hy
/-- what lies below the pile, but for the list -/
theorem mg_low {k : Nat} (hk : k < 36) (h27 : k ≠ 27) (h : ∀ j, j < 36 → 25 ≤ j → ad' j = ad j) (hy : k < 24 → y' k = y k) : va_eq (mg g ad' y' cr dr th kn rf pl' pz' mc' k) (mg g ad y cr dr th kn rf pl pz mc k) := by
  rcases mg_cases 0 k with h1 | rfl | rfl | rfl | rfl | ⟨j, hj, rfl⟩ | ⟨j, hj, rfl⟩ | ⟨rfl, hp⟩ | ⟨j, hj, rfl⟩ | h1
  · rw [mg_lo h1, mg_lo h1]; exact Or.inl (hy h1)
  · rw [mg_24, mg_24]; unfold c_md; rw [h 25 (by omega) (by omega), h 26 (by omega) (by omega), h 27 (by omega) (by omega)]; exact Or.inl rfl
  · rw [mg_25, mg_25]; exact Or.inr ⟨_, _, _, _, rfl, rfl, fun j hj => by rw [h _ (by omega) (by omega)]⟩
  · rw [mg_26, mg_26]; exact Or.inr ⟨_, _, _, _, rfl, rfl, fun j hj => by rw [h _ (by omega) (by omega)]⟩
  · exact absurd rfl h27
  · rw [mg_cr hj, mg_cr hj]; exact Or.inl rfl
  · rw [mg_dr hj, mg_dr hj]; exact Or.inl rfl
  · omega
  · omega
  · omega
theorem mg_27p (h : 0 < pz) : mg g ad y cr dr th kn rf pl pz mc 27 = .inr (2, [.int mc, .ref (ad 36), .int (Int32.ofNat (pz - 1))]) := by
  rw [mg_27]
  unfold c_al
  rw [if_neg (by omega)]
theorem mg_27z (h : pz = 0) : mg g ad y cr dr th kn rf pl pz mc 27 = .inr (2, [.int mc, .ref (g.2.2 3), .int 0]) := by
  rw [mg_27]
  unfold c_al
  rw [if_pos h, h]
  rfl
end MGX
/-! sizes -/
theorem sz_toInt {n : Nat} (h : n ≤ 9) : (Int32.ofNat n).toInt = (n : Int) := nI_toInt (n := n) (by omega)
theorem sz_clamp {n : Nat} (h : n ≤ 9) : (Int32.ofNat n).toNatClampNeg = n := nI_clamp (n := n) (by omega)
theorem sz_pred {n : Nat} (h : 1 ≤ n) : Int32.ofNat n - 1 = Int32.ofNat (n - 1) := by
  obtain ⟨m, rfl⟩ : ∃ m, n = m + 1 := ⟨n - 1, by omega⟩
  exact nI_pred m
theorem pl_ix {pz : Nat} {k : Int32} (hz : pz ≤ 9) (h1 : ¬ k < 0) (h2 : ¬ Int32.ofNat (pz - 1) ≤ k) : k.toNatClampNeg + 1 < pz := by
  obtain ⟨j, hj, rfl⟩ := nI_of h1
  rw [nI_clamp hj]
  rw [Int32.le_iff_toInt_le, nI_toInt hj, sz_toInt (by omega)] at h2
  omega
theorem pl_in {pz : Nat} {k : Int32} (hz : pz ≤ 9) (h1 : ¬ k < 0) (h : k.toNatClampNeg + 1 < pz) : vp_in k 10 := fun q => q.elim h1 (fun q => by omega)
theorem al_sz {pz : Nat} (hz : pz ≤ 9) : ((Int32.ofNat (pz - 1)).toInt - (0 : Int32).toInt).toNat + 1 ≤ 9 := by
  rw [sz_toInt (by omega)]
  have e : (0 : Int32).toInt = 0 := rfl
  omega
theorem al_12 {n : Int32} (h : ¬ v_X4_isIn n.toInt64 1 12 = 0) : (n.toInt - (0 : Int32).toInt).toNat + 1 ≤ 13 := by
  have h2 := isin_mo h
  have e : (0 : Int32).toInt = 0 := rfl
  omega
theorem sz_ne {pz : Nat} (hz : pz ≤ 9) (h8 : ¬ Int32.ofNat (pz - 1) = 8) : pz ≤ 8 := by
  rcases Nat.lt_or_ge 8 pz with h | h
  · have e : pz = 9 := by omega
    subst e
    exact absurd rfl h8
  · exact h
theorem sz_full {n : Nat} (h : n ≤ 9) : ¬ Int32.ofNat n = Int32.ofNat 10 := fun q => by
  have e := congrArg Int32.toInt q
  rw [sz_toInt h, show (Int32.ofNat 10).toInt = 10 from rfl] at e
  omega
theorem sz_in {n : Nat} (h : n ≤ 9) : vp_in (Int32.ofNat n) 10 := nI_in (c := n) (N := 10) (by omega) (by decide)
theorem sz_nn {n : Nat} (h : n ≤ 9) : ¬ Int32.ofNat n < 0 := nI_pos (n := n) (by omega)
theorem sz_zero {pz : Nat} (h : (if Int32.ofNat (pz - 1) = 0 then (1 : Int32) else 0) = 0) : 2 ≤ pz := by
  rcases Nat.lt_or_ge pz 2 with q | q
  · have e : pz - 1 = 0 := by omega
    rw [e] at h
    exact absurd h (by decide)
  · exact q
/-- what become leaves is in the calendar -/
theorem become_okd {dr : Nat → TR} {a : Int32} {t : TR} (hd : ∀ i, i < 4 → okd (dr i)) (ht : okd t) : ∀ i, i < 4 → okd ((v_X4_become dr a t).2 i) := by
  intro i hi
  unfold v_X4_become
  have h : okd (va_up dr a.toNatClampNeg (t.1, t.2.1, t.2.2) i) := by
    by_cases e : i = a.toNatClampNeg
    · rw [e, va_up_self]; exact ht
    · rw [va_up_ne _ _ e]; exact hd i hi
  by_cases c : v_X4_number (dr a.toNatClampNeg) = v_X4_number t
  · rw [if_pos c]; exact h
  · rw [if_neg c]; exact h
section WMX
variable {g : GG} {A : Nat → Prop} {H0 H : Heap} {N M : Nat} {ad ad' adA : Nat → Nat} {y y' yA : Nat → va_E} {f' : Nat → va_E} {cr dr : Nat → TR} {th kn rf : Int32} {pl : Nat → TR} {pz : Nat} {mc mc1 : Int32} {locs : List Loc}
/-- a new row takes a card's place; the old one is kept at the end -/
theorem WM_crK {a i : Nat} {t : TR} {h0 : Nat → Option Nat} (B : WB g A H0 (N + 1) (va_up ad N a) (va_up (mg g (va_up ad N a) (va_up y N (c_row g t)) cr dr th kn rf pl pz mc) 25 (c_ar (g.2.1 2) 4 (va_up h0 i (some a)))) H locs) (hh : ∀ j, h0 j = some (va_up ad N a (28 + j))) (hN : 36 + pz ≤ N) (hi : i < 4) : WB g A H0 (N + 1) (va_up (va_up ad (28 + i) a) N (ad (28 + i))) (mg g (va_up (va_up ad (28 + i) a) N (ad (28 + i))) (va_up y N (c_row g (cr i))) (va_up cr i t) dr th kn rf pl pz mc) H locs := by
  refine WB_map (fun k => if k = 28 + i then N else if k = N then 28 + i else k) B (fun k hk => ?_) (fun p q hp hq e => ?_) (fun k hk => ?_) (fun k hk => ?_)
  · show (if k = 28 + i then N else if k = N then 28 + i else k) < _
    by_cases h : k = 28 + i
    · rw [if_pos h]; omega
    · rw [if_neg h]
      by_cases h' : k = N
      · rw [if_pos h']; omega
      · rw [if_neg h']; omega
  · have e : (if p = 28 + i then N else if p = N then 28 + i else p) = (if q = 28 + i then N else if q = N then 28 + i else q) := e
    by_cases h : p = 28 + i <;> by_cases h' : q = 28 + i <;> by_cases k : p = N <;> by_cases k' : q = N <;> simp only [h, h', k, k', if_pos, if_neg, if_true, if_false, not_true, not_false_eq_true] at e <;> first | omega | (rw [if_pos rfl] at e; omega) | (split at e <;> omega) | (split at e <;> split at e <;> omega)
  · show _ = va_up ad N a (if k = 28 + i then N else if k = N then 28 + i else k)
    by_cases h : k = 28 + i
    · rw [if_pos h, h, va_up_self, va_up_ne _ _ (by omega), va_up_self]
    · rw [if_neg h]
      by_cases h' : k = N
      · rw [if_pos h', h', va_up_self, va_up_ne _ _ (by omega)]
      · rw [if_neg h', va_up_ne _ _ h', va_up_ne _ _ h, va_up_ne _ _ h']
  · show va_eq _ (va_up (mg g (va_up ad N a) (va_up y N (c_row g t)) cr dr th kn rf pl pz mc) 25 _ (if k = 28 + i then N else if k = N then 28 + i else k))
    by_cases h : k = 28 + i
    · rw [if_pos h, h, mg_cr hi, va_up_self, va_up_ne _ _ (by omega), mg_hi hN, va_up_self]
      exact Or.inl rfl
    · rw [if_neg h]
      by_cases h' : k = N
      · rw [if_pos h', h', mg_hi hN, va_up_self, va_up_ne _ _ (by omega), mg_cr hi]
        exact Or.inl rfl
      · rw [if_neg h']
        by_cases h25 : k = 25
        · rw [h25, va_up_self, mg_25]
          refine Or.inr ⟨_, _, _, _, rfl, rfl, fun j hj => ?_⟩
          by_cases hji : j = i
          · rw [hji, va_up_self, va_up_ne _ _ (by omega), va_up_self]
          · rw [va_up_ne _ _ (by omega), va_up_ne _ _ (by omega), va_up_ne _ _ hji, hh, va_up_ne _ _ (by omega)]
        · rw [va_up_ne _ _ h25]
          refine mg_adx hi (fun j h1 _ h3 => ?_) h25 h ?_ (fun j hj => va_up_ne _ _ hj)
          · rw [va_up_ne _ _ (by omega), va_up_ne _ _ h3, va_up_ne _ _ (by omega)]
          · rw [va_up_ne _ _ h', va_up_ne _ _ h']
/-- of many new rows one is kept -/
theorem WM_pick {q b : Nat} {t : TR} (B : WB g A H0 M ad' (mg g ad' y' cr dr th kn rf pl pz mc) H locs) (hN : 36 + pz ≤ N) (hq : N ≤ q) (hM : q < M) (hb : ad' q = b) (hf : y' q = c_row g t) (h1 : ∀ k, k < N → ad' k = ad k) (h2 : ∀ k, k < N → y' k = y k) : WB g A H0 (N + 1) (va_up ad N b) (mg g (va_up ad N b) (va_up y N (c_row g t)) cr dr th kn rf pl pz mc) H locs := by
  refine WB_map (fun k => if k = N then q else k) B (fun k hk => ?_) (fun i j hi hj e => ?_) (fun k hk => ?_) (fun k hk => ?_)
  · show (if k = N then q else k) < _
    by_cases h : k = N
    · rw [if_pos h]; exact hM
    · rw [if_neg h]; omega
  · have e : (if i = N then q else i) = (if j = N then q else j) := e
    by_cases h : i = N <;> by_cases h' : j = N
    · omega
    · rw [if_pos h, if_neg h'] at e; omega
    · rw [if_neg h, if_pos h'] at e; omega
    · rw [if_neg h, if_neg h'] at e; exact e
  · show _ = ad' (if k = N then q else k)
    by_cases h : k = N
    · rw [if_pos h, h, va_up_self, hb]
    · rw [if_neg h, va_up_ne _ _ h, h1 k (by omega)]
  · show va_eq _ (mg g ad' y' cr dr th kn rf pl pz mc (if k = N then q else k))
    by_cases h : k = N
    · rw [if_pos h, h, mg_hi hN, va_up_self, mg_hi (by omega), hf]
      exact Or.inl rfl
    · rw [if_neg h]
      exact mg_ad (fun j hj _ => (va_up_ne _ _ (by omega)).trans (h1 j (by omega)).symm) ((va_up_ne _ _ h).trans (h2 k (by omega)).symm)
/-- the first row is laid -/
theorem WM_layZ {t : TR} {hh : Nat → Option Nat} {a z : Nat} {o : Int32} (hN : N = 36) (B : WB g A H0 (N + 1 + 1) ad' f' H locs) (ha : ad' N = a) (haz : ad' (N + 1) = z) (ho : o = 1) (h1 : ∀ k, k < 36 → ad' k = ad k) (hA : ∀ k, k < 36 → adA k = ad k) (hyA : ∀ k, k < 24 → yA k = y k) (h27 : f' 27 = .inr (2, [.int mc1, .ref z, .int o])) (hE : f' (N + 1) = c_ar (g.2.1 5) 10 hh) (hh0 : hh 0 = some a) (hh1 : ∀ j, 0 < j → hh j = none) (hR : f' N = c_row g t) (h2 : ∀ k, k < 36 → k ≠ 27 → f' k = mg g adA yA cr dr th kn rf pl pz mc k) : WB g A H0 (36 + 2) (va_up (va_up ad 36 z) 37 a) (mg g (va_up (va_up ad 36 z) 37 a) y cr dr th kn rf (va_up pl 0 t) 2 mc1) H locs := by
  subst hN ha haz ho
  have e36 : va_up (va_up ad 36 (ad' (36 + 1))) 37 (ad' 36) 36 = ad' 37 := by rw [va_up_ne _ _ (by omega), va_up_self]
  have elo : ∀ k, k < 36 → va_up (va_up ad 36 (ad' (36 + 1))) 37 (ad' 36) k = ad k := fun k hk => by rw [va_up_ne _ _ (by omega), va_up_ne _ _ (by omega)]
  refine WB_map (fun k => if k = 36 then 37 else if k = 37 then 36 else k) B (fun k hk => ?_) (fun p q hp hq e => ?_) (fun k hk => ?_) (fun k hk => ?_)
  · show (if k = 36 then 37 else if k = 37 then 36 else k) < 38
    split
    · omega
    · split <;> omega
  · have e : (if p = 36 then 37 else if p = 37 then 36 else p) = (if q = 36 then 37 else if q = 37 then 36 else q) := e
    split at e <;> split at e <;> (try split at e) <;> (try split at e) <;> omega
  · show _ = ad' (if k = 36 then 37 else if k = 37 then 36 else k)
    by_cases h : k = 36
    · rw [if_pos h, h, e36]
    · rw [if_neg h]
      by_cases h' : k = 37
      · rw [if_pos h', h', va_up_self]
      · rw [if_neg h', elo k (by omega), h1 k (by omega)]
  · show va_eq _ (f' (if k = 36 then 37 else if k = 37 then 36 else k))
    by_cases h : k = 36
    · rw [if_pos h, h, mg_ed (by omega), show f' 37 = _ from hE]
      refine Or.inr ⟨_, _, _, _, rfl, rfl, fun j hj => ?_⟩
      by_cases h0 : j = 0
      · subst h0
        rw [if_pos (by omega), hh0, va_up_self]
      · rw [if_neg (by omega), hh1 j (by omega)]
    · rw [if_neg h]
      by_cases h' : k = 37
      · rw [if_pos h', h', hR, show (37 : Nat) = 37 + 0 from rfl, mg_pl (i := 0) (by omega), va_up_self]
        exact Or.inl rfl
      · rw [if_neg h']
        by_cases h7 : k = 27
        · rw [h7, h27, mg_27]
          unfold c_al
          rw [if_neg (by omega), e36]
          exact Or.inl rfl
        · rw [h2 k (by omega) h7]
          exact mg_low (by omega) h7 (fun j hj _ => (elo j hj).trans (hA j hj).symm) (fun h => (hyA k h).symm)
/-- one more row is laid -/
theorem WM_lay {t : TR} {hh : Nat → Option Nat} {a ev : Nat} (hp : 0 < pz) (hz : pz ≤ 8) (hN : N = 36 + pz) (B : WB g A H0 (N + 1) ad' f' H locs) (ha : ad' N = a) (hev : ad 36 = ev) (h1 : ∀ k, k < N → ad' k = ad k) (hA : ∀ k, k < N → adA k = ad k) (hyA : ∀ k, k < 24 → yA k = y k) (h27 : f' 27 = .inr (2, [.int mc1, .ref ev, .int (Int32.ofNat (pz - 1) + 1)])) (hE : f' 36 = c_ar (g.2.1 5) 10 hh) (hh0 : hh (pz - 1) = some a) (hh1 : ∀ j, j ≠ pz - 1 → hh j = if j + 1 < pz then some (ad (37 + j)) else none) (hR : f' N = c_row g t) (h2 : ∀ k, k < N → k ≠ 27 → k ≠ 36 → f' k = mg g adA yA cr dr th kn rf pl pz mc k) : WB g A H0 (36 + (pz + 1)) (va_up ad N a) (mg g (va_up ad N a) y cr dr th kn rf (va_up pl (pz - 1) t) (pz + 1) mc1) H locs := by
  subst hN ha hev
  have elo : ∀ k, k < 36 + pz → va_up ad (36 + pz) (ad' (36 + pz)) k = ad k := fun k hk => va_up_ne _ _ (by omega)
  refine WB_same B (by omega) (fun k hk => ?_) (fun k hk => ?_)
  · by_cases h : k = 36 + pz
    · rw [h, va_up_self]
    · rw [va_up_ne _ _ h, h1 k (by omega)]
  · by_cases h : k = 36 + pz
    · rw [h, hR]
      obtain ⟨m, rfl⟩ : ∃ m, pz = m + 1 := ⟨pz - 1, by omega⟩
      rw [show 36 + (m + 1) = 37 + m by omega, mg_pl (by omega), show m + 1 - 1 = m by omega, va_up_self]
      exact Or.inl rfl
    · by_cases h7 : k = 27
      · rw [h7, h27, mg_27p (by omega), elo 36 (by omega), show Int32.ofNat (pz + 1 - 1) = Int32.ofNat (pz - 1) + 1 from by
          have e : nI (pz - 1) + 1 = nI (pz - 1 + 1) := nI_1 _
          rw [show pz - 1 + 1 = pz by omega] at e
          exact e.symm]
        exact Or.inl rfl
      · by_cases h6 : k = 36
        · rw [h6, hE, mg_ed (by omega)]
          refine Or.inr ⟨_, _, _, _, rfl, rfl, fun j hj => ?_⟩
          by_cases hj1 : j = pz - 1
          · rw [hj1, hh0, if_pos (by omega), show 37 + (pz - 1) = 36 + pz by omega, va_up_self]
          · rw [hh1 j hj1]
            by_cases hj2 : j + 1 < pz
            · rw [if_pos hj2, if_pos (by omega), elo _ (by omega)]
            · rw [if_neg hj2, if_neg (by omega)]
        · rw [h2 k (by omega) h7 h6]
          by_cases hk6 : k < 36
          · exact mg_low hk6 h7 (fun j hj _ => (elo j (by omega)).trans (hA j (by omega)).symm) (fun h => (hyA k h).symm)
          · obtain ⟨i, rfl⟩ : ∃ i, k = 37 + i := ⟨k - 37, by omega⟩
            rw [mg_pl (by omega), mg_pl (by omega), va_up_ne _ _ (by omega)]
            exact Or.inl rfl
/-- the last row is taken; it stays behind the world -/
theorem WM_take {hh : Nat → Option Nat} (hp : 2 ≤ pz) (hz : pz ≤ 9) (hN : N = 36 + pz) (B : WB g A H0 N ad f' H locs) (h27 : f' 27 = .inr (2, [.int mc1, .ref (ad 36), .int (Int32.ofNat (pz - 1) - 1)])) (hE : f' 36 = c_ar (g.2.1 5) 10 hh) (hh0 : hh (pz - 1 - 1) = none) (hh1 : ∀ j, j ≠ pz - 1 - 1 → hh j = if j + 1 < pz then some (ad (37 + j)) else none) (h2 : ∀ k, k < N → k ≠ 27 → k ≠ 36 → f' k = mg g ad y cr dr th kn rf pl pz mc k) : WB g A H0 N ad (mg g ad (va_up y (N - 1) (c_row g (pl (pz - 1 - 1)))) cr dr th kn rf pl (pz - 1) mc1) H locs := by
  subst hN
  refine WB_same B (Nat.le_refl _) (fun _ _ => rfl) (fun k hk => ?_)
  by_cases h : k = 36 + pz - 1
  · rw [h, mg_hi (by omega), va_up_self, h2 _ (by omega) (by omega) (by omega), show 36 + pz - 1 = 37 + (pz - 1 - 1) by omega, mg_pl (by omega)]
    exact Or.inl rfl
  · by_cases h7 : k = 27
    · rw [h7, h27, mg_27p (by omega), sz_pred (by omega)]
      exact Or.inl rfl
    · by_cases h6 : k = 36
      · rw [h6, hE, mg_ed (by omega)]
        refine Or.inr ⟨_, _, _, _, rfl, rfl, fun j hj => ?_⟩
        by_cases hj1 : j = pz - 1 - 1
        · rw [hj1, hh0, if_neg (by omega)]
        · rw [hh1 j hj1]
          by_cases hj2 : j + 1 < pz
          · rw [if_pos hj2, if_pos (by omega)]
          · rw [if_neg hj2, if_neg (by omega)]
      · rw [h2 k hk h7 h6]
        by_cases hk6 : k < 36
        · exact mg_low hk6 h7 (fun _ _ _ => rfl) (fun h => va_up_ne _ _ (by omega))
        · obtain ⟨i, rfl⟩ : ∃ i, k = 37 + i := ⟨k - 37, by omega⟩
          rw [mg_pl (by omega), mg_pl (by omega)]
          exact Or.inl rfl
end WMX
theorem and01 {a b : Int32} (ha : a = 0 ∨ a = 1) (hb : b = 0 ∨ b = 1) : (a &&& b = 0) ∨ (a &&& b = 1) := by
  rcases ha with rfl | rfl <;> rcases hb with rfl | rfl <;> decide
theorem ite_pl {j pz a b : Nat} (h : j + 1 < pz → a = b) : (if j + 1 < pz then some a else none) = if j + 1 < pz then some b else none := by
  by_cases c : j + 1 < pz
  · rw [if_pos c, if_pos c, h c]
  · rw [if_neg c, if_neg c]
