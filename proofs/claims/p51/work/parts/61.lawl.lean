section
/-! the law's loop -/
theorem hd_le {i : Int32} {L : Nat} (hL : L ≤ 2560) (h : ¬ (Int32.ofNat L - 5) < i) : i.toInt + 5 ≤ L := by
  rw [Int32.lt_iff_toInt_lt] at h
  have e5 : (5 : Int32).toInt = 5 := rfl
  have eL : (Int32.ofNat L).toInt = L := nI_toInt (by omega)
  have e : (Int32.ofNat L - 5).toInt = (L : Int) - 5 := by
    rw [Int32.toInt_sub, eL, e5]
    show ((L : Int) - 5).bmod (2 ^ 32) = _
    rw [Int.bmod_eq_of_le (by omega) (by omega)]
  omega
theorem inc5 {i : Int32} {k : Nat} (hi : i.toInt = 5 * (k : Int)) (hk : k ≤ 512) : (i + 5).toInt = 5 * ((k + 1 : Nat) : Int) := by
  have e5 : (5 : Int32).toInt = 5 := rfl
  rw [Int32.toInt_add, hi, e5]
  show (5 * (k : Int) + 5).bmod (2 ^ 32) = _
  rw [Int.bmod_eq_of_le (by omega) (by omega)]
  omega
theorem law_head {p : Program} {l : Launch} {e : Env} {s : State} {m : MethodId} {below : List Frame} {meth : Method} {c : Code} {cw : Cond} {g : GG} {A : Nat → Prop} {b L : Nat} {xs : Nat → Int32} {Q : State → Prop} {C S : Nat} {H : Heap} {locs : List Loc} {ls : Array Slot} {i : Int32} (Y : LwC p l s m meth c cw g A b L xs) (hL : L ≤ 2560) (hS : LwS s g A b i H locs ls) (kt : W p l e room_1 s m #[.ref b] below meth c H locs C S Q (F0 m 2447 ls [])) (kf : i.toInt + 5 ≤ L → W p l e room_1 s m #[.ref b] below meth c H locs C S Q (F0 m 36 ls [])) : W p l e room_1 s m #[.ref b] below meth c H locs C S Q (F0 m 27 ls []) := by
  obtain ⟨X, hfl, hK, hT, hnc, hXs, hbl, hbA, hA⟩ := Y
  obtain ⟨hx, hb, hml, hown, hts, hlocks⟩ := id X
  obtain ⟨ad, n, v, sp, dy, la, kn, re, cr, dr, th, rf, pl, pz, mc, hR, B, hl⟩ := hS
  refine lv_iload hx hb dL_law_27 (lv_at hl 0 rfl) ?_
  refine lv_aload_n hx hb dL_law_29 rfl (lv_at hl 1 rfl) ?_
  refine va_slen hx hb hXs hbl hbA B.2.2 dL_law_30 ?_
  refine lv_iconst (v := 5) hx hb dL_law_31 (by decide) ?_
  refine lv_isub hx hb dL_law_32 ?_
  exact lv_icmp_gt (tgt := 2447) hx hb dL_law_33 (by decide) (fun _ => kt) (fun z => kf (hd_le hL z))
set_option maxHeartbeats 8000000 in
theorem law_body {p : Program} {l : Launch} {e : Env} {s : State} {m : MethodId} {below : List Frame} {meth : Method} {c : Code} {cw : Cond} {g : GG} {A : Nat → Prop} {b L : Nat} {xs : Nat → Int32} {Q : State → Prop} {C S : Nat} {H : Heap} {locs : List Loc} {ls : Array Slot} {i : Int32} (Y : LwC p l s m meth c cw g A b L xs) (hi0 : ¬ i < 0) (hiL : i.toInt + 5 ≤ L) (hL : L ≤ 2560) (hrC : C + 1200 ≤ 757246) (hrS : S + 12000 ≤ 6824365) (hS : LwS s g A b i H locs ls)
    (kk : ∀ (H1 : Heap) (locs1 : List Loc) (ls1 : Array Slot), LwS s g A b i H1 locs1 ls1 → W p l e room_1 s m #[.ref b] below meth c H1 locs1 (C + 1200) (S + 12000) Q (F0 m 2441 ls1 [])) : W p l e room_1 s m #[.ref b] below meth c H locs C S Q (F0 m 36 ls []) := by
  obtain ⟨X, hfl, hK, hT, hnc, hXs, hbl, hbA, hA⟩ := id Y
  obtain ⟨hx, hb, hml, hown, hts, hlocks⟩ := id X
  obtain ⟨ad, n, v, sp, dy, la, kn, re, cr, dr, th, rf, pl, pz, mc, hR, B, hl⟩ := id hS
  refine lv_aload_n hx hb dL_law_36 rfl (lv_at hl 1 rfl) ?_
  refine lv_iload hx hb dL_law_37 (lv_at hl 0 rfl) ?_
  refine va_sld hx hb hXs hbl hbA B.2.2 (ix_0 hi0 hiL) dL_law_39 ?_
  refine lv_bipush (v := 63) hx hb dL_law_40 (by decide) ?_
  refine lv_iand hx hb dL_law_42 ?_
  generalize xs i.toNatClampNeg &&& 63 = op
  by_cases hlo : op.toInt < 0 ∨ 51 < op.toInt
  · refine lv_tableOut (tgt := 2441) hx hb dL_law_43 hlo (by decide) ?_
    exact W.widen (by omega) (by omega) (kk H locs ls hS)
  · have h0 : ¬ op.toInt < 0 := fun z => hlo (Or.inl z)
    have h1 : ¬ 51 < op.toInt := fun z => hlo (Or.inr z)
    by_cases q0 : op.toInt = 0
    · exact lv_tableIn (off := 221) (tgt := 264) hx hb dL_law_43 h0 h1 (by rw [q0]; rfl) (by decide) (lc_264 Y hi0 hiL hL hrC hrS hS kk)
    by_cases q1 : op.toInt = 1
    · exact lv_tableIn (off := 285) (tgt := 328) hx hb dL_law_43 h0 h1 (by rw [q1]; rfl) (by decide) (lc_328 Y hi0 hiL hL hrC hrS hS kk)
    by_cases q2 : op.toInt = 2
    · exact lv_tableIn (off := 325) (tgt := 368) hx hb dL_law_43 h0 h1 (by rw [q2]; rfl) (by decide) (lc_368 Y hi0 hiL hL hrC hrS hS kk)
    by_cases q3 : op.toInt = 3
    · exact lv_tableIn (off := 365) (tgt := 408) hx hb dL_law_43 h0 h1 (by rw [q3]; rfl) (by decide) (lc_408 Y hi0 hiL hL hrC hrS hS kk)
    by_cases q4 : op.toInt = 4
    · exact lv_tableIn (off := 405) (tgt := 448) hx hb dL_law_43 h0 h1 (by rw [q4]; rfl) (by decide) (lc_448 Y hi0 hiL hL hrC hrS hS kk)
    by_cases q5 : op.toInt = 5
    · exact lv_tableIn (off := 445) (tgt := 488) hx hb dL_law_43 h0 h1 (by rw [q5]; rfl) (by decide) (lc_488 Y hi0 hiL hL hrC hrS hS kk)
    by_cases q6 : op.toInt = 6
    · exact lv_tableIn (off := 497) (tgt := 540) hx hb dL_law_43 h0 h1 (by rw [q6]; rfl) (by decide) (lc_540 Y hi0 hiL hL hrC hrS hS kk)
    by_cases q7 : op.toInt = 7
    · exact lv_tableIn (off := 537) (tgt := 580) hx hb dL_law_43 h0 h1 (by rw [q7]; rfl) (by decide) (lc_580 Y hi0 hiL hL hrC hrS hS kk)
    by_cases q8 : op.toInt = 8
    · exact lv_tableIn (off := 577) (tgt := 620) hx hb dL_law_43 h0 h1 (by rw [q8]; rfl) (by decide) (lc_620 Y hi0 hiL hL hrC hrS hS kk)
    by_cases q9 : op.toInt = 9
    · exact lv_tableIn (off := 645) (tgt := 688) hx hb dL_law_43 h0 h1 (by rw [q9]; rfl) (by decide) (lc_688 Y hi0 hiL hL hrC hrS hS kk)
    by_cases q10 : op.toInt = 10
    · exact lv_tableIn (off := 713) (tgt := 756) hx hb dL_law_43 h0 h1 (by rw [q10]; rfl) (by decide) (lc_756 Y hi0 hiL hL hrC hrS hS kk)
    by_cases q11 : op.toInt = 11
    · exact lv_tableIn (off := 781) (tgt := 824) hx hb dL_law_43 h0 h1 (by rw [q11]; rfl) (by decide) (lc_824 Y hi0 hiL hL hrC hrS hS kk)
    by_cases q12 : op.toInt = 12
    · exact lv_tableIn (off := 849) (tgt := 892) hx hb dL_law_43 h0 h1 (by rw [q12]; rfl) (by decide) (lc_892 Y hi0 hiL hL hrC hrS hS kk)
    by_cases q13 : op.toInt = 13
    · exact lv_tableIn (off := 917) (tgt := 960) hx hb dL_law_43 h0 h1 (by rw [q13]; rfl) (by decide) (lc_960 Y hi0 hiL hL hrC hrS hS kk)
    by_cases q14 : op.toInt = 14
    · exact lv_tableIn (off := 985) (tgt := 1028) hx hb dL_law_43 h0 h1 (by rw [q14]; rfl) (by decide) (lc_1028 Y hi0 hiL hL hrC hrS hS kk)
    by_cases q15 : op.toInt = 15
    · exact lv_tableIn (off := 1025) (tgt := 1068) hx hb dL_law_43 h0 h1 (by rw [q15]; rfl) (by decide) (lc_1068 Y hi0 hiL hL hrC hrS hS kk)
    by_cases q16 : op.toInt = 16
    · exact lv_tableIn (off := 1065) (tgt := 1108) hx hb dL_law_43 h0 h1 (by rw [q16]; rfl) (by decide) (lc_1108 Y hi0 hiL hL hrC hrS hS kk)
    by_cases q17 : op.toInt = 17
    · exact lv_tableIn (off := 1105) (tgt := 1148) hx hb dL_law_43 h0 h1 (by rw [q17]; rfl) (by decide) (lc_1148 Y hi0 hiL hL hrC hrS hS kk)
    by_cases q18 : op.toInt = 18
    · exact lv_tableIn (off := 1133) (tgt := 1176) hx hb dL_law_43 h0 h1 (by rw [q18]; rfl) (by decide) (lc_1176 Y hi0 hiL hL hrC hrS hS kk)
    by_cases q19 : op.toInt = 19
    · exact lv_tableIn (off := 1161) (tgt := 1204) hx hb dL_law_43 h0 h1 (by rw [q19]; rfl) (by decide) (lc_1204 Y hi0 hiL hL hrC hrS hS kk)
    by_cases q20 : op.toInt = 20
    · exact lv_tableIn (off := 1189) (tgt := 1232) hx hb dL_law_43 h0 h1 (by rw [q20]; rfl) (by decide) (lc_1232 Y hi0 hiL hL hrC hrS hS kk)
    by_cases q21 : op.toInt = 21
    · exact lv_tableIn (off := 1217) (tgt := 1260) hx hb dL_law_43 h0 h1 (by rw [q21]; rfl) (by decide) (lc_1260 Y hi0 hiL hL hrC hrS hS kk)
    by_cases q22 : op.toInt = 22
    · exact lv_tableIn (off := 1245) (tgt := 1288) hx hb dL_law_43 h0 h1 (by rw [q22]; rfl) (by decide) (lc_1288 Y hi0 hiL hL hrC hrS hS kk)
    by_cases q23 : op.toInt = 23
    · exact lv_tableIn (off := 1270) (tgt := 1313) hx hb dL_law_43 h0 h1 (by rw [q23]; rfl) (by decide) (lc_1313 Y hi0 hiL hL hrC hrS hS kk)
    by_cases q24 : op.toInt = 24
    · exact lv_tableIn (off := 1310) (tgt := 1353) hx hb dL_law_43 h0 h1 (by rw [q24]; rfl) (by decide) (lc_1353 Y hi0 hiL hL hrC hrS hS kk)
    by_cases q25 : op.toInt = 25
    · exact lv_tableIn (off := 1338) (tgt := 1381) hx hb dL_law_43 h0 h1 (by rw [q25]; rfl) (by decide) (lc_1381 Y hi0 hiL hL hrC hrS hS kk)
    by_cases q26 : op.toInt = 26
    · exact lv_tableIn (off := 1366) (tgt := 1409) hx hb dL_law_43 h0 h1 (by rw [q26]; rfl) (by decide) (lc_1409 Y hi0 hiL hL hrC hrS hS kk)
    by_cases q27 : op.toInt = 27
    · exact lv_tableIn (off := 1394) (tgt := 1437) hx hb dL_law_43 h0 h1 (by rw [q27]; rfl) (by decide) (lc_1437 Y hi0 hiL hL hrC hrS hS kk)
    by_cases q28 : op.toInt = 28
    · exact lv_tableIn (off := 1434) (tgt := 1477) hx hb dL_law_43 h0 h1 (by rw [q28]; rfl) (by decide) (lc_1477 Y hi0 hiL hL hrC hrS hS kk)
    by_cases q29 : op.toInt = 29
    · exact lv_tableIn (off := 1474) (tgt := 1517) hx hb dL_law_43 h0 h1 (by rw [q29]; rfl) (by decide) (lc_1517 Y hi0 hiL hL hrC hrS hS kk)
    by_cases q30 : op.toInt = 30
    · exact lv_tableIn (off := 1502) (tgt := 1545) hx hb dL_law_43 h0 h1 (by rw [q30]; rfl) (by decide) (lc_1545 Y hi0 hiL hL hrC hrS hS kk)
    by_cases q31 : op.toInt = 31
    · exact lv_tableIn (off := 1542) (tgt := 1585) hx hb dL_law_43 h0 h1 (by rw [q31]; rfl) (by decide) (lc_1585 Y hi0 hiL hL hrC hrS hS kk)
    by_cases q32 : op.toInt = 32
    · exact lv_tableIn (off := 1582) (tgt := 1625) hx hb dL_law_43 h0 h1 (by rw [q32]; rfl) (by decide) (lc_1625 Y hi0 hiL hL hrC hrS hS kk)
    by_cases q33 : op.toInt = 33
    · exact lv_tableIn (off := 1650) (tgt := 1693) hx hb dL_law_43 h0 h1 (by rw [q33]; rfl) (by decide) (lc_1693 Y hi0 hiL hL hrC hrS hS kk)
    by_cases q34 : op.toInt = 34
    · exact lv_tableIn (off := 1678) (tgt := 1721) hx hb dL_law_43 h0 h1 (by rw [q34]; rfl) (by decide) (lc_1721 Y hi0 hiL hL hrC hrS hS kk)
    by_cases q35 : op.toInt = 35
    · exact lv_tableIn (off := 1706) (tgt := 1749) hx hb dL_law_43 h0 h1 (by rw [q35]; rfl) (by decide) (lc_1749 Y hi0 hiL hL hrC hrS hS kk)
    by_cases q36 : op.toInt = 36
    · exact lv_tableIn (off := 1770) (tgt := 1813) hx hb dL_law_43 h0 h1 (by rw [q36]; rfl) (by decide) (lc_1813 Y hi0 hiL hL hrC hrS hS kk)
    by_cases q37 : op.toInt = 37
    · exact lv_tableIn (off := 1810) (tgt := 1853) hx hb dL_law_43 h0 h1 (by rw [q37]; rfl) (by decide) (lc_1853 Y hi0 hiL hL hrC hrS hS kk)
    by_cases q38 : op.toInt = 38
    · exact lv_tableIn (off := 1850) (tgt := 1893) hx hb dL_law_43 h0 h1 (by rw [q38]; rfl) (by decide) (lc_1893 Y hi0 hiL hL hrC hrS hS kk)
    by_cases q39 : op.toInt = 39
    · exact lv_tableIn (off := 1890) (tgt := 1933) hx hb dL_law_43 h0 h1 (by rw [q39]; rfl) (by decide) (lc_1933 Y hi0 hiL hL hrC hrS hS kk)
    by_cases q40 : op.toInt = 40
    · exact lv_tableIn (off := 1942) (tgt := 1985) hx hb dL_law_43 h0 h1 (by rw [q40]; rfl) (by decide) (lc_1985 Y hi0 hiL hL hrC hrS hS kk)
    by_cases q41 : op.toInt = 41
    · exact lv_tableIn (off := 1994) (tgt := 2037) hx hb dL_law_43 h0 h1 (by rw [q41]; rfl) (by decide) (lc_2037 Y hi0 hiL hL hrC hrS hS kk)
    by_cases q42 : op.toInt = 42
    · exact lv_tableIn (off := 2046) (tgt := 2089) hx hb dL_law_43 h0 h1 (by rw [q42]; rfl) (by decide) (lc_2089 Y hi0 hiL hL hrC hrS hS kk)
    by_cases q43 : op.toInt = 43
    · exact lv_tableIn (off := 2086) (tgt := 2129) hx hb dL_law_43 h0 h1 (by rw [q43]; rfl) (by decide) (lc_2129 Y hi0 hiL hL hrC hrS hS kk)
    by_cases q44 : op.toInt = 44
    · exact lv_tableIn (off := 2114) (tgt := 2157) hx hb dL_law_43 h0 h1 (by rw [q44]; rfl) (by decide) (lc_2157 Y hi0 hiL hL hrC hrS hS kk)
    by_cases q45 : op.toInt = 45
    · exact lv_tableIn (off := 2182) (tgt := 2225) hx hb dL_law_43 h0 h1 (by rw [q45]; rfl) (by decide) (lc_2225 Y hi0 hiL hL hrC hrS hS kk)
    by_cases q46 : op.toInt = 46
    · exact lv_tableIn (off := 2222) (tgt := 2265) hx hb dL_law_43 h0 h1 (by rw [q46]; rfl) (by decide) (lc_2265 Y hi0 hiL hL hrC hrS hS kk)
    by_cases q47 : op.toInt = 47
    · exact lv_tableIn (off := 2262) (tgt := 2305) hx hb dL_law_43 h0 h1 (by rw [q47]; rfl) (by decide) (lc_2305 Y hi0 hiL hL hrC hrS hS kk)
    by_cases q48 : op.toInt = 48
    · exact lv_tableIn (off := 2302) (tgt := 2345) hx hb dL_law_43 h0 h1 (by rw [q48]; rfl) (by decide) (lc_2345 Y hi0 hiL hL hrC hrS hS kk)
    by_cases q49 : op.toInt = 49
    · exact lv_tableIn (off := 2315) (tgt := 2358) hx hb dL_law_43 h0 h1 (by rw [q49]; rfl) (by decide) (lc_2358 Y hi0 hiL hL hrC hrS hS kk)
    by_cases q50 : op.toInt = 50
    · exact lv_tableIn (off := 2372) (tgt := 2415) hx hb dL_law_43 h0 h1 (by rw [q50]; rfl) (by decide) (lc_2415 Y hi0 hiL hL hrC hrS hS kk)
    by_cases q51 : op.toInt = 51
    · exact lv_tableIn (off := 2385) (tgt := 2428) hx hb dL_law_43 h0 h1 (by rw [q51]; rfl) (by decide) (lc_2428 Y hi0 hiL hL hrC hrS hS kk)
    exact absurd h0 (by omega)
theorem law_loop {p : Program} {l : Launch} {e : Env} {s : State} {m : MethodId} {below : List Frame} {meth : Method} {c : Code} {cw : Cond} {g : GG} {A : Nat → Prop} {b L : Nat} {xs : Nat → Int32} {Q : State → Prop} (Y : LwC p l s m meth c cw g A b L xs) (hL : L ≤ 2560) (hend : ∀ (H : Heap) (locs : List Loc) (ls : Array Slot) (C S : Nat), (∃ (N : Nat) (ad : Nat → Nat) (f : Nat → va_E), WB g A s.heap N ad f H locs) → C ≤ 757246 → S ≤ 6824365 → W p l e room_1 s m #[.ref b] below meth c H locs C S Q (F0 m 2447 ls [])) :
    ∀ (n k : Nat), n + k = 512 → ∀ (i : Int32) (H : Heap) (locs : List Loc) (ls : Array Slot), i.toInt = 5 * (k : Int) → LwS s g A b i H locs ls → W p l e room_1 s m #[.ref b] below meth c H locs (40 + 1200 * k) (200 + 12000 * k) Q (F0 m 27 ls []) := by
  have hen : ∀ (k : Nat), k ≤ 512 → ∀ (i : Int32) (H : Heap) (locs : List Loc) (ls : Array Slot), LwS s g A b i H locs ls → W p l e room_1 s m #[.ref b] below meth c H locs (40 + 1200 * k) (200 + 12000 * k) Q (F0 m 2447 ls []) := by
    intro k hk i H locs ls hS
    obtain ⟨ad, n, v, sp, dy, la, kn, re, cr, dr, th, rf, pl, pz, mc, hR, B, hl⟩ := hS
    exact hend H locs ls _ _ ⟨_, _, _, B⟩ (by omega) (by omega)
  intro n
  induction n with
  | zero =>
    intro k hk i H locs ls hi hS
    exact law_head Y hL hS (hen k (by omega) i H locs ls hS) (fun z => absurd z (by omega))
  | succ n ih =>
    intro k hk i H locs ls hi hS
    refine law_head Y hL hS (hen k (by omega) i H locs ls hS) (fun z => ?_)
    have hi0 : ¬ i < 0 := by
      rw [Int32.lt_iff_toInt_lt, hi]
      show ¬ 5 * (k : Int) < 0
      omega
    refine law_body Y hi0 z hL (by omega) (by omega) hS (fun H locs ls hS => ?_)
    obtain ⟨X, hfl, hK, hT, hnc, hXs, hbl, hbA, hA⟩ := id Y
    obtain ⟨hx, hb, hml, hown, hts, hlocks⟩ := id X
    obtain ⟨ad, n0, v, sp, dy, la, kn, re, cr, dr, th, rf, pl, pz, mc, hR, B, hl⟩ := hS
    refine lv_iinc (v := i + 5) (lv' := [(4, .int (i + 5)), (0, .ref b), (1, .ref (ad 0)), (2, .ref (ad 24)), (3, .ref (ad 23))]) hx hb dL_law_2441 hl (k := 0) rfl rfl (by decide) rfl (fun ls hl => ?_)
    refine lv_goto (tgt := 27) hx hb dL_law_2444 (by decide) ?_
    have h := ih (k + 1) (by omega) (i + 5) H locs ls (inc5 hi (by omega)) ⟨ad, n0, v, sp, dy, la, kn, re, cr, dr, th, rf, pl, pz, mc, hR, B, hl⟩
    rwa [show 40 + 1200 * (k + 1) = 40 + 1200 * k + 1200 by omega, show 200 + 12000 * (k + 1) = 200 + 12000 * k + 12000 by omega] at h
end
section
/-! the start: the classes, the statics, the constants -/
abbrev FLn : List Cond := flatC (Jvm.Cond.and given_1 narrow_1)
section START
variable {s : State} {args : Array Value} {A : Nat → Prop}
theorem st_tb (hts : ∀ w ∈ lw_tbl, w.before args s = true) : ∀ w ∈ tb_all, w.before args s = true := fun w h => hts w (List.mem_filter.mp h).1
theorem st_K (hts : ∀ w ∈ lw_tbl, w.before args s = true) : ∃ D : va_G, ∀ (k : Nat) (q : vw_C), vwCl[k]? = some q → u_Kn s q.1 q.2.1 q.2.2 (D.1 k) (D.2 k) := by
  have ht := st_tb hts
  have h : ∀ k : Nat, ∃ d : ClassId × (Nat → Nat), ∀ q : vw_C, vwCl[k]? = some q → u_Kn s q.1 q.2.1 q.2.2 d.1 d.2 := by
    intro k
    match k with
    | 0 =>
      obtain ⟨a, i, h⟩ := u_known (ws := tb_all) (C := RJ0) (T := TJ0) (N := 4) (n := 4) ht in_J0 (ht _ ia_J0)
      exact ⟨(a, i), fun q hq => by cases hq; exact h⟩
    | 1 =>
      obtain ⟨a, i, h⟩ := u_known (ws := tb_all) (C := RJ4) (T := TJ4) (N := 4) (n := 4) ht in_J4 (ht _ ia_J4)
      exact ⟨(a, i), fun q hq => by cases hq; exact h⟩
    | 2 =>
      obtain ⟨a, i, h⟩ := u_known (ws := tb_all) (C := RJx4a65c) (T := TJx4a65c) (N := 3) (n := 3) ht in_Jx4a65c (ht _ ia_Jx4a65c)
      exact ⟨(a, i), fun q hq => by cases hq; exact h⟩
    | 3 =>
      obtain ⟨a, i, h⟩ := u_known (ws := tb_all) (C := RX0) (T := TX0) (N := 3) (n := 3) ht in_X0 (ht _ ia_X0)
      exact ⟨(a, i), fun q hq => by cases hq; exact h⟩
    | 4 =>
      obtain ⟨a, i, h⟩ := u_known (ws := tb_all) (C := RX1) (T := TX1) (N := 3) (n := 3) ht in_X1 (ht _ ia_X1)
      exact ⟨(a, i), fun q hq => by cases hq; exact h⟩
    | 5 =>
      obtain ⟨a, i, h⟩ := u_known (ws := tb_all) (C := RX2) (T := TX2) (N := 9) (n := 9) ht in_X2 (ht _ ia_X2)
      exact ⟨(a, i), fun q hq => by cases hq; exact h⟩
    | 6 =>
      obtain ⟨a, i, h⟩ := u_known (ws := tb_all) (C := RX3) (T := TX3) (N := 2) (n := 2) ht in_X3 (ht _ ia_X3)
      exact ⟨(a, i), fun q hq => by cases hq; exact h⟩
    | 7 =>
      obtain ⟨a, i, h⟩ := u_known (ws := tb_all) (C := RX4) (T := TX4) (N := 6) (n := 6) ht in_X4 (ht _ ia_X4)
      exact ⟨(a, i), fun q hq => by cases hq; exact h⟩
    | k + 8 =>
      obtain ⟨a, i, -⟩ := u_known (ws := tb_all) (C := RX4) (T := TX4) (N := 6) (n := 6) ht in_X4 (ht _ ia_X4)
      exact ⟨(a, i), fun q hq => by simp [vwCl] at hq⟩
  obtain ⟨d, hd⟩ := Classical.axiomOfChoice h
  exact ⟨(fun k => (d k).1, fun k => (d k).2), fun k q hq => hd k q hq⟩
theorem st_ao (hts : ∀ w ∈ lw_tbl, w.before args s = true) : ao_all s :=
  ⟨va_AO.of (hts (.arrayOver (.object "Periodcard$Span")) (lw_at 38 (by decide +kernel))), va_AO.of (hts (.arrayOver (.object "Periodcard$Day")) (lw_at 40 (by decide +kernel))), va_AO.of (hts (.arrayOver (.object "java/lang/Object")) (lw_at 1355 (by decide +kernel))), hts (.arrayOver (.array .int)) (lw_at 1124 (by decide +kernel))⟩
theorem st_ng (hts : ∀ w ∈ lw_tbl, w.before args s = true) : ng_all s := by
  intro w hw hg
  have h := hts w hw
  cases w <;> first | exact va_Nw.of rfl h | exact h | (simp [ng_ok] at hg)
theorem st_ti (hts : ∀ w ∈ lw_tbl, w.before args s = true) : ∃ ti : Nat → ClassId, ∀ (k : Nat) (q : ClassId × FieldType), (TY ti)[k]? = some q → ArrOfT s q.1 q.2 ∧ va_RA s q.1 q.2 := by
  have ht := st_tb hts
  obtain ⟨c0, k0, m0, a1, a2, a3⟩ := Cond.arrayClass_spec (ht _ ac_int)
  obtain ⟨c1, k1, m1, b1, b2, b3⟩ := Cond.arrayClass_spec (ht _ ac_byte)
  obtain ⟨h3, h4, h5, h2⟩ := st_ao hts
  obtain ⟨m2, c2, k2, d1, -, d2, d3, d4⟩ := arrayOverA_spec h2
  obtain ⟨m3, c3, k3, e1, -, e2, e3, e4⟩ := Cond.arrayOver_spec h3
  obtain ⟨m4, c4, k4, f1, -, f2, f3, f4⟩ := Cond.arrayOver_spec h4
  obtain ⟨m5, c5, k5, g1, -, g2, g3, g4⟩ := Cond.arrayOver_spec h5
  refine ⟨fun i => [c0, c1, c2, c3, c4, c5].getD i c0, fun k q hq => ?_⟩
  match k, hq with
  | 0, hq => cases hq; exact ⟨fun n z => ⟨(fun q h => by cases h), k0, a2, m0, a3⟩, a1⟩
  | 1, hq => cases hq; exact ⟨fun n z => ⟨(fun q h => by cases h), k1, b2, m1, b3⟩, b1⟩
  | 2, hq => cases hq; exact ⟨fun n z => ⟨(fun q h => by cases h), k2, d2, m2, d3⟩, d4⟩
  | 3, hq => cases hq; exact ⟨fun n z => ⟨(fun q h => by cases h), k3, e2, m3, e3⟩, k3, m3, e2, e3, e1, e4⟩
  | 4, hq => cases hq; exact ⟨fun n z => ⟨(fun q h => by cases h), k4, f2, m4, f3⟩, k4, m4, f2, f3, f1, f4⟩
  | 5, hq => cases hq; exact ⟨fun n z => ⟨(fun q h => by cases h), k5, g2, m5, g3⟩, k5, m5, g2, g3, g1, g4⟩
  | k + 6, hq => simp [TY] at hq
abbrev tmS (i : Nat) : Term := .string (st_own.getD i ("", 0, "")).1 (st_own.getD i ("", 0, "")).2.1
theorem sx_ref : ∀ i, i < 15 → Cond.stringRef (st_own.getD i ("", 0, "")).1 (st_own.getD i ("", 0, "")).2.1 (st_own.getD i ("", 0, "")).2.2 ∈ lw_tbl := by decide +kernel
def st_ix : List Nat := [275, 279, 286, 294, 304, 333, 373, 411, 443, 493, 536, 550, 567, 585, 603]
theorem fl_in {k : Nat} {w : Cond} (h : FLn[k]? = some w) : w ∈ FLn := List.mem_of_getElem? h
theorem sx_ex : ∀ i, i < 15 → FLn[st_ix.getD i 0]? = some (Cond.exactly (tmS i) "java/lang/String") := by decide +kernel
theorem sx_co : ∀ i, i < 15 → FLn[st_ix.getD i 0 + 1]? = some (Cond.eq (.field (tmS i) "java/lang/String" "coder" "B") (.int 0)) := by decide +kernel
theorem sx_ar : ∀ i, i < 15 → FLn[st_ix.getD i 0 + 2]? = some (Cond.arrayOf (.field (tmS i) "java/lang/String" "value" "[B") .byte) := by decide +kernel
theorem sx_le : ∀ i, i < 15 → FLn[st_ix.getD i 0 + 3]? = some (Cond.eq (.length (.field (tmS i) "java/lang/String" "value" "[B")) (.int (Int32.ofNat (st_len.getD i 0)))) := by decide +kernel
theorem sx_el : ∀ i, i < 15 → ∀ j, j < st_len.getD i 0 → FLn[st_ix.getD i 0 + 4 + j]? = some (Cond.eq (.elem (.field (tmS i) "java/lang/String" "value" "[B") (.int (Int32.ofNat j))) (.int ((st_byt.getD i []).getD j 0))) := by decide +kernel
theorem sx_sm : ∀ i, i < 15 → st_len.getD i 0 < 2 ^ 31 := by decide +kernel
theorem sx_o1 : ∀ j, j < 100 → FLn[8 + j]? = some (Cond.eq (.elem (.static "java/lang/Integer" "DigitOnes" "[B") (.int (Int32.ofNat j))) (.int (st_ones.getD j 0))) := by decide +kernel
theorem sx_o2 : ∀ j, j < 100 → FLn[111 + j]? = some (Cond.eq (.elem (.static "java/lang/Integer" "DigitTens" "[B") (.int (Int32.ofNat j))) (.int (st_tens.getD j 0))) := by decide +kernel
theorem sx_o3 : ∀ j, j < 12 → FLn[224 + j]? = some (Cond.eq (.elem (.static "PeriodcardModel" "LENGTHS" "[I") (.int (Int32.ofNat j))) (.int (st_lens.getD j 0))) := by decide +kernel
theorem st_ST (hts : ∀ w ∈ lw_tbl, w.before args s = true) (hgv : (Jvm.Cond.and given_1 narrow_1).before args s = true) (hA : ∀ a : Nat, a < s.heap.size → ¬ A a) : ∃ z : Nat → Nat, ST z A s s.heap := by
  have ht := st_tb hts
  have hs : ∀ w ∈ FLn, w.before args s = true := flat_of_before _ hgv
  have hcs : va_Z "java/lang/String" "COMPACT_STRINGS" "Z" (.int 1) A s s.heap := va_Zof (hts _ (lw_at 122 (by decide +kernel))) (ht _ ii_J0) (va_eqt (hs (.eq (.static "java/lang/String" "COMPACT_STRINGS" "Z") (.int 1)) (by decide +kernel))) hA
  obtain ⟨t0, e0, T0⟩ := va_Tof (tm := .static "java/lang/Integer" "DigitOnes" "[B") (ty := .byte) (N := 100) (f := fun j => .int (st_ones.getD j 0)) (A := A) (by decide) (hs _ (by decide +kernel)) (va_eqt (hs (.eq (.length (.static "java/lang/Integer" "DigitOnes" "[B")) (.int (Int32.ofNat 100))) (by decide +kernel))) (fun j hj => va_eqt (hs _ (fl_in (sx_o1 j hj)))) hA
  obtain ⟨t1, e1, T1⟩ := va_Tof (tm := .static "java/lang/Integer" "DigitTens" "[B") (ty := .byte) (N := 100) (f := fun j => .int (st_tens.getD j 0)) (A := A) (by decide) (hs _ (by decide +kernel)) (va_eqt (hs (.eq (.length (.static "java/lang/Integer" "DigitTens" "[B")) (.int (Int32.ofNat 100))) (by decide +kernel))) (fun j hj => va_eqt (hs _ (fl_in (sx_o2 j hj)))) hA
  obtain ⟨t2, e2, T2⟩ := va_Tof (tm := .static "PeriodcardModel" "LENGTHS" "[I") (ty := .int) (N := 12) (f := fun j => .int (st_lens.getD j 0)) (A := A) (by decide) (hs _ (by decide +kernel)) (va_eqt (hs (.eq (.length (.static "PeriodcardModel" "LENGTHS" "[I")) (.int (Int32.ofNat 12))) (by decide +kernel))) (fun j hj => va_eqt (hs _ (fl_in (sx_o3 j hj)))) hA
  obtain ⟨t3, e3, T3⟩ := va_Tof (tm := .static "java/util/ArrayList" "DEFAULTCAPACITY_EMPTY_ELEMENTDATA" "[Ljava/lang/Object;") (ty := .object "java/lang/Object") (N := 0) (f := fun _ => .null) (A := A) (by decide) (hs _ (by decide +kernel)) (va_eqt (hs (.eq (.length (.static "java/util/ArrayList" "DEFAULTCAPACITY_EMPTY_ELEMENTDATA" "[Ljava/lang/Object;")) (.int (Int32.ofNat 0))) (by decide +kernel))) (fun j hj => absurd hj (Nat.not_lt_zero _)) hA
  have h1 : ∀ i : Nat, ∃ q : Nat × Nat, i < 15 → vk_R (st_own.getD i ("", 0, "")).1 (st_own.getD i ("", 0, "")).2.1 (st_own.getD i ("", 0, "")).2.2 q.1 s ∧ (va_O "java/lang/String" q.1 A s s.heap ∧ va_OF "java/lang/String" "coder" "B" (.int 0) q.1 A s s.heap ∧ va_OF "java/lang/String" "value" "[B" (.ref q.2) q.1 A s s.heap ∧ va_T .byte q.2 (st_len.getD i 0) (fun j => .int ((st_byt.getD i []).getD j 0)) A s s.heap) := by
    intro i
    by_cases hi : i < 15
    · obtain ⟨ak, av, h, he⟩ := vk_Sof (args := args) (s := s) (N := 1) (tm := fun _ => tmS i) (len := [st_len.getD i 0]) (byt := [st_byt.getD i []]) (A := A)
        (fun j hj => by have e : j = 0 := by omega
                        subst e; exact sx_sm i hi)
        (fun j hj => hs _ (fl_in (sx_ex i hi))) (fun j hj => hs _ (fl_in (sx_co i hi))) (fun j hj => hs _ (fl_in (sx_ar i hi)))
        (fun j hj => by have e : j = 0 := by omega
                        subst e; exact hs _ (fl_in (sx_le i hi)))
        (fun j hj k hk => by have e : j = 0 := by omega
                             subst e; exact hs _ (fl_in (sx_el i hi k hk)))
        (fun a c ha hc hac => absurd (show a = c by omega) hac) hA
      exact ⟨(ak 0, av 0), fun _ => ⟨vk_R.of (hts _ (sx_ref i hi)) (he 0 (by decide)), h.1 0 (by decide)⟩⟩
    · exact ⟨(0, 0), fun h => absurd h hi⟩
  obtain ⟨d, hd⟩ := Classical.axiomOfChoice h1
  obtain ⟨z, hz⟩ : ∃ z : Nat → Nat, z = fun k => if k < 100 then [t0, t1, t2, t3].getD k 0 else if k < 200 then (d (k - 100)).1 else (d (k - 200)).2 := ⟨_, rfl⟩
  have z0 : z 0 = t0 := by rw [hz]; rfl
  have z1 : z 1 = t1 := by rw [hz]; rfl
  have z2 : z 2 = t2 := by rw [hz]; rfl
  have z3 : z 3 = t3 := by rw [hz]; rfl
  have zk : ∀ i, i < 15 → z (100 + i) = (d i).1 := fun i hi => by
    rw [hz]
    show (if 100 + i < 100 then _ else if 100 + i < 200 then _ else _) = _
    rw [if_neg (show ¬ 100 + i < 100 by omega), if_pos (show 100 + i < 200 by omega), Nat.add_sub_cancel_left]
  have zv : ∀ i, i < 15 → z (200 + i) = (d i).2 := fun i hi => by
    rw [hz]
    show (if 200 + i < 100 then _ else if 200 + i < 200 then _ else _) = _
    rw [if_neg (show ¬ 200 + i < 100 by omega), if_neg (show ¬ 200 + i < 200 by omega), Nat.add_sub_cancel_left]
  refine ⟨z, ⟨st_ng hts, st_ao hts⟩, ⟨hcs, ⟨?_, ?_⟩, ⟨?_, ?_⟩, ⟨?_, ?_⟩, ⟨?_, ?_⟩⟩, ⟨?_, ?_⟩, fun i hi => ?_, ⟨fun i hi => ?_, trivial⟩⟩
  · rw [z0]; exact va_Zref (hts _ (lw_at 198 (by decide +kernel))) (ht _ ii_J6) e0 hA
  · rw [z0]; exact T0
  · rw [z1]; exact va_Zref (hts _ (lw_at 200 (by decide +kernel))) (ht _ ii_J6) e1 hA
  · rw [z1]; exact T1
  · rw [z2]; exact va_Zref (hts _ (lw_at 1512 (by decide +kernel))) (ht _ ii_X4) e2 hA
  · rw [z2]; exact T2
  · rw [z3]; exact va_Zref (hts _ (lw_at 1138 (by decide +kernel))) (ht _ ii_Jx4a65c) e3 hA
  · rw [z3]; exact T3
  · exact vx_Zqof (hts _ (lw_at 376 (by decide +kernel))) (ht _ ii_java_lang_Throwable) (hs _ (by decide +kernel)) hA
  · exact vx_Zqof (hts _ (lw_at 378 (by decide +kernel))) (ht _ ii_java_lang_Throwable) (hs _ (by decide +kernel)) hA
  · rw [zk i hi]; exact (hd i hi).1
  · show va_O _ (z (100 + i)) _ _ _ ∧ va_OF _ _ _ _ (z (100 + i)) _ _ _ ∧ va_OF _ _ _ (.ref (z (200 + i))) (z (100 + i)) _ _ _ ∧ va_T _ (z (200 + i)) _ _ _ _ _
    rw [zk i hi, zv i hi]; exact (hd i hi).2
theorem st_nc (hgv : (Jvm.Cond.and given_1 narrow_1).before args s = true) : va_Nc iaeN iobN s :=
  va_Nc.of (flat_of_before _ hgv (.not (.castable "java/lang/IllegalArgumentException" "java/lang/IndexOutOfBoundsException")) (by decide +kernel))
end START
end
