/-! the law's loop -/
theorem hd_le {i : Int32} {L : Nat} (hL : L ≤ 2560) (h : ¬ (Int32.ofNat L - 5) < i) : i.toInt + 5 ≤ L := by
  rw [Int32.lt_iff_toInt_lt] at h
  have e5 : (5 : Int32).toInt = 5 := rfl
  have eL : (Int32.ofNat L).toInt = L := nI_toInt (by omega)
  have e : (Int32.ofNat L - 5).toInt = (L : Int) - 5 := by
    rw [Int32.toInt_sub, eL, e5]
    show ((L : Int) - 5).bmod (2 ^ 32) = _
    rw [Int.bmod_eq_of_le (by omega) (by omega)]
  omega
theorem inc5 {i : Int32} {k : Nat} (hi : i.toInt = 5 * (k : Int)) (hk : k ≤ 512) : (i + 5).toInt = 5 * ((k + 1 : Nat) : Int) := by
  have e5 : (5 : Int32).toInt = 5 := rfl
  rw [Int32.toInt_add, hi, e5]
  show (5 * (k : Int) + 5).bmod (2 ^ 32) = _
  rw [Int.bmod_eq_of_le (by omega) (by omega)]
  omega
theorem law_head {p : Program} {l : Launch} {e : Env} {s : State} {m : MethodId} {below : List Frame} {meth : Method} {c : Code} {cw : Cond} {g : GG} {A : Nat → Prop} {b L : Nat} {xs : Nat → Int32} {Q : State → Prop} {C S : Nat} {H : Heap} {locs : List Loc} {ls : Array Slot} {i : Int32} (Y : LwC p l s m meth c cw g A b L xs) (hL : L ≤ 2560) (hS : LwS s g A b i H locs ls) (kt : W p l e room_1 s m #[.ref b] below meth c H locs C S Q (F0 m 2447 ls [])) (kf : i.toInt + 5 ≤ L → W p l e room_1 s m #[.ref b] below meth c H locs C S Q (F0 m 36 ls [])) : W p l e room_1 s m #[.ref b] below meth c H locs C S Q (F0 m 27 ls []) := by
  obtain ⟨X, hfl, hK, hT, hnc, hXs, hbl, hbA, hA⟩ := Y
  obtain ⟨hx, hb, hml, hown, hts, hlocks⟩ := id X
  obtain ⟨ad, n, v, sp, dy, la, kn, re, cr, dr, th, rf, pl, pz, mc, hR, B, hl⟩ := hS
  refine lv_iload hx hb dL_law_27 (lv_at hl 0 rfl) ?_
  refine lv_aload_n hx hb dL_law_29 rfl (lv_at hl 1 rfl) ?_
  refine va_slen hx hb hXs hbl hbA B.2.2 dL_law_30 ?_
  refine lv_iconst (v := 5) hx hb dL_law_31 (by decide) ?_
  refine lv_isub hx hb dL_law_32 ?_
  exact lv_icmp_gt (tgt := 2447) hx hb dL_law_33 (by decide) (fun _ => kt) (fun z => kf (hd_le hL z))
set_option maxHeartbeats 8000000 in
theorem law_body {p : Program} {l : Launch} {e : Env} {s : State} {m : MethodId} {below : List Frame} {meth : Method} {c : Code} {cw : Cond} {g : GG} {A : Nat → Prop} {b L : Nat} {xs : Nat → Int32} {Q : State → Prop} {C S : Nat} {H : Heap} {locs : List Loc} {ls : Array Slot} {i : Int32} (Y : LwC p l s m meth c cw g A b L xs) (hi0 : ¬ i < 0) (hiL : i.toInt + 5 ≤ L) (hL : L ≤ 2560) (hrC : C + 1200 ≤ 744860) (hrS : S + 12000 ≤ 6861525) (hS : LwS s g A b i H locs ls)
    (kk : ∀ (H1 : Heap) (locs1 : List Loc) (ls1 : Array Slot), LwS s g A b i H1 locs1 ls1 → W p l e room_1 s m #[.ref b] below meth c H1 locs1 (C + 1200) (S + 12000) Q (F0 m 2441 ls1 [])) : W p l e room_1 s m #[.ref b] below meth c H locs C S Q (F0 m 36 ls []) := by
  obtain ⟨X, hfl, hK, hT, hnc, hXs, hbl, hbA, hA⟩ := id Y
  obtain ⟨hx, hb, hml, hown, hts, hlocks⟩ := id X
  obtain ⟨ad, n, v, sp, dy, la, kn, re, cr, dr, th, rf, pl, pz, mc, hR, B, hl⟩ := id hS
  refine lv_aload_n hx hb dL_law_36 rfl (lv_at hl 1 rfl) ?_
  refine lv_iload hx hb dL_law_37 (lv_at hl 0 rfl) ?_
  refine va_sld hx hb hXs hbl hbA B.2.2 (ix_0 hi0 hiL) dL_law_39 ?_
  refine lv_bipush (v := 63) hx hb dL_law_40 (by decide) ?_
  refine lv_iand hx hb dL_law_42 ?_
  generalize xs i.toNatClampNeg &&& 63 = op
  by_cases hlo : op.toInt < 0 ∨ 51 < op.toInt
  · refine lv_tableOut (tgt := 2441) hx hb dL_law_43 hlo (by decide) ?_
    exact W.widen (by omega) (by omega) (kk H locs ls hS)
  · have h0 : ¬ op.toInt < 0 := fun z => hlo (Or.inl z)
    have h1 : ¬ 51 < op.toInt := fun z => hlo (Or.inr z)
    by_cases q0 : op.toInt = 0
    · exact lv_tableIn (off := 221) (tgt := 264) hx hb dL_law_43 h0 h1 (by rw [q0]; rfl) (by decide) (lc_264 Y hi0 hiL hL hrC hrS hS kk)
    by_cases q1 : op.toInt = 1
    · exact lv_tableIn (off := 285) (tgt := 328) hx hb dL_law_43 h0 h1 (by rw [q1]; rfl) (by decide) (lc_328 Y hi0 hiL hL hrC hrS hS kk)
    by_cases q2 : op.toInt = 2
    · exact lv_tableIn (off := 325) (tgt := 368) hx hb dL_law_43 h0 h1 (by rw [q2]; rfl) (by decide) (lc_368 Y hi0 hiL hL hrC hrS hS kk)
    by_cases q3 : op.toInt = 3
    · exact lv_tableIn (off := 365) (tgt := 408) hx hb dL_law_43 h0 h1 (by rw [q3]; rfl) (by decide) (lc_408 Y hi0 hiL hL hrC hrS hS kk)
    by_cases q4 : op.toInt = 4
    · exact lv_tableIn (off := 405) (tgt := 448) hx hb dL_law_43 h0 h1 (by rw [q4]; rfl) (by decide) (lc_448 Y hi0 hiL hL hrC hrS hS kk)
    by_cases q5 : op.toInt = 5
    · exact lv_tableIn (off := 474) (tgt := 517) hx hb dL_law_43 h0 h1 (by rw [q5]; rfl) (by decide) (lc_517 Y hi0 hiL hL hrC hrS hS kk)
    by_cases q6 : op.toInt = 6
    · exact lv_tableIn (off := 526) (tgt := 569) hx hb dL_law_43 h0 h1 (by rw [q6]; rfl) (by decide) (lc_569 Y hi0 hiL hL hrC hrS hS kk)
    by_cases q7 : op.toInt = 7
    · exact lv_tableIn (off := 566) (tgt := 609) hx hb dL_law_43 h0 h1 (by rw [q7]; rfl) (by decide) (lc_609 Y hi0 hiL hL hrC hrS hS kk)
    by_cases q8 : op.toInt = 8
    · exact lv_tableIn (off := 606) (tgt := 649) hx hb dL_law_43 h0 h1 (by rw [q8]; rfl) (by decide) (lc_649 Y hi0 hiL hL hrC hrS hS kk)
    by_cases q9 : op.toInt = 9
    · exact lv_tableIn (off := 674) (tgt := 717) hx hb dL_law_43 h0 h1 (by rw [q9]; rfl) (by decide) (lc_717 Y hi0 hiL hL hrC hrS hS kk)
    by_cases q10 : op.toInt = 10
    · exact lv_tableIn (off := 742) (tgt := 785) hx hb dL_law_43 h0 h1 (by rw [q10]; rfl) (by decide) (lc_785 Y hi0 hiL hL hrC hrS hS kk)
    by_cases q11 : op.toInt = 11
    · exact lv_tableIn (off := 810) (tgt := 853) hx hb dL_law_43 h0 h1 (by rw [q11]; rfl) (by decide) (lc_853 Y hi0 hiL hL hrC hrS hS kk)
    by_cases q12 : op.toInt = 12
    · exact lv_tableIn (off := 878) (tgt := 921) hx hb dL_law_43 h0 h1 (by rw [q12]; rfl) (by decide) (lc_921 Y hi0 hiL hL hrC hrS hS kk)
    by_cases q13 : op.toInt = 13
    · exact lv_tableIn (off := 946) (tgt := 989) hx hb dL_law_43 h0 h1 (by rw [q13]; rfl) (by decide) (lc_989 Y hi0 hiL hL hrC hrS hS kk)
    by_cases q14 : op.toInt = 14
    · exact lv_tableIn (off := 1014) (tgt := 1057) hx hb dL_law_43 h0 h1 (by rw [q14]; rfl) (by decide) (lc_1057 Y hi0 hiL hL hrC hrS hS kk)
    by_cases q15 : op.toInt = 15
    · exact lv_tableIn (off := 1054) (tgt := 1097) hx hb dL_law_43 h0 h1 (by rw [q15]; rfl) (by decide) (lc_1097 Y hi0 hiL hL hrC hrS hS kk)
    by_cases q16 : op.toInt = 16
    · exact lv_tableIn (off := 1094) (tgt := 1137) hx hb dL_law_43 h0 h1 (by rw [q16]; rfl) (by decide) (lc_1137 Y hi0 hiL hL hrC hrS hS kk)
    by_cases q17 : op.toInt = 17
    · exact lv_tableIn (off := 1134) (tgt := 1177) hx hb dL_law_43 h0 h1 (by rw [q17]; rfl) (by decide) (lc_1177 Y hi0 hiL hL hrC hrS hS kk)
    by_cases q18 : op.toInt = 18
    · exact lv_tableIn (off := 1162) (tgt := 1205) hx hb dL_law_43 h0 h1 (by rw [q18]; rfl) (by decide) (lc_1205 Y hi0 hiL hL hrC hrS hS kk)
    by_cases q19 : op.toInt = 19
    · exact lv_tableIn (off := 1190) (tgt := 1233) hx hb dL_law_43 h0 h1 (by rw [q19]; rfl) (by decide) (lc_1233 Y hi0 hiL hL hrC hrS hS kk)
    by_cases q20 : op.toInt = 20
    · exact lv_tableIn (off := 1218) (tgt := 1261) hx hb dL_law_43 h0 h1 (by rw [q20]; rfl) (by decide) (lc_1261 Y hi0 hiL hL hrC hrS hS kk)
    by_cases q21 : op.toInt = 21
    · exact lv_tableIn (off := 1246) (tgt := 1289) hx hb dL_law_43 h0 h1 (by rw [q21]; rfl) (by decide) (lc_1289 Y hi0 hiL hL hrC hrS hS kk)
    by_cases q22 : op.toInt = 22
    · exact lv_tableIn (off := 1274) (tgt := 1317) hx hb dL_law_43 h0 h1 (by rw [q22]; rfl) (by decide) (lc_1317 Y hi0 hiL hL hrC hrS hS kk)
    by_cases q23 : op.toInt = 23
    · exact lv_tableIn (off := 1299) (tgt := 1342) hx hb dL_law_43 h0 h1 (by rw [q23]; rfl) (by decide) (lc_1342 Y hi0 hiL hL hrC hrS hS kk)
    by_cases q24 : op.toInt = 24
    · exact lv_tableIn (off := 1339) (tgt := 1382) hx hb dL_law_43 h0 h1 (by rw [q24]; rfl) (by decide) (lc_1382 Y hi0 hiL hL hrC hrS hS kk)
    by_cases q25 : op.toInt = 25
    · exact lv_tableIn (off := 1367) (tgt := 1410) hx hb dL_law_43 h0 h1 (by rw [q25]; rfl) (by decide) (lc_1410 Y hi0 hiL hL hrC hrS hS kk)
    by_cases q26 : op.toInt = 26
    · exact lv_tableIn (off := 1395) (tgt := 1438) hx hb dL_law_43 h0 h1 (by rw [q26]; rfl) (by decide) (lc_1438 Y hi0 hiL hL hrC hrS hS kk)
    by_cases q27 : op.toInt = 27
    · exact lv_tableIn (off := 1423) (tgt := 1466) hx hb dL_law_43 h0 h1 (by rw [q27]; rfl) (by decide) (lc_1466 Y hi0 hiL hL hrC hrS hS kk)
    by_cases q28 : op.toInt = 28
    · exact lv_tableIn (off := 1463) (tgt := 1506) hx hb dL_law_43 h0 h1 (by rw [q28]; rfl) (by decide) (lc_1506 Y hi0 hiL hL hrC hrS hS kk)
    by_cases q29 : op.toInt = 29
    · exact lv_tableIn (off := 1503) (tgt := 1546) hx hb dL_law_43 h0 h1 (by rw [q29]; rfl) (by decide) (lc_1546 Y hi0 hiL hL hrC hrS hS kk)
    by_cases q30 : op.toInt = 30
    · exact lv_tableIn (off := 1531) (tgt := 1574) hx hb dL_law_43 h0 h1 (by rw [q30]; rfl) (by decide) (lc_1574 Y hi0 hiL hL hrC hrS hS kk)
    by_cases q31 : op.toInt = 31
    · exact lv_tableIn (off := 1571) (tgt := 1614) hx hb dL_law_43 h0 h1 (by rw [q31]; rfl) (by decide) (lc_1614 Y hi0 hiL hL hrC hrS hS kk)
    by_cases q32 : op.toInt = 32
    · exact lv_tableIn (off := 1611) (tgt := 1654) hx hb dL_law_43 h0 h1 (by rw [q32]; rfl) (by decide) (lc_1654 Y hi0 hiL hL hrC hrS hS kk)
    by_cases q33 : op.toInt = 33
    · exact lv_tableIn (off := 1679) (tgt := 1722) hx hb dL_law_43 h0 h1 (by rw [q33]; rfl) (by decide) (lc_1722 Y hi0 hiL hL hrC hrS hS kk)
    by_cases q34 : op.toInt = 34
    · exact lv_tableIn (off := 1707) (tgt := 1750) hx hb dL_law_43 h0 h1 (by rw [q34]; rfl) (by decide) (lc_1750 Y hi0 hiL hL hrC hrS hS kk)
    by_cases q35 : op.toInt = 35
    · exact lv_tableIn (off := 1735) (tgt := 1778) hx hb dL_law_43 h0 h1 (by rw [q35]; rfl) (by decide) (lc_1778 Y hi0 hiL hL hrC hrS hS kk)
    by_cases q36 : op.toInt = 36
    · exact lv_tableIn (off := 1799) (tgt := 1842) hx hb dL_law_43 h0 h1 (by rw [q36]; rfl) (by decide) (lc_1842 Y hi0 hiL hL hrC hrS hS kk)
    by_cases q37 : op.toInt = 37
    · exact lv_tableIn (off := 1839) (tgt := 1882) hx hb dL_law_43 h0 h1 (by rw [q37]; rfl) (by decide) (lc_1882 Y hi0 hiL hL hrC hrS hS kk)
    by_cases q38 : op.toInt = 38
    · exact lv_tableIn (off := 1879) (tgt := 1922) hx hb dL_law_43 h0 h1 (by rw [q38]; rfl) (by decide) (lc_1922 Y hi0 hiL hL hrC hrS hS kk)
    by_cases q39 : op.toInt = 39
    · exact lv_tableIn (off := 1919) (tgt := 1962) hx hb dL_law_43 h0 h1 (by rw [q39]; rfl) (by decide) (lc_1962 Y hi0 hiL hL hrC hrS hS kk)
    by_cases q40 : op.toInt = 40
    · exact lv_tableIn (off := 1971) (tgt := 2014) hx hb dL_law_43 h0 h1 (by rw [q40]; rfl) (by decide) (lc_2014 Y hi0 hiL hL hrC hrS hS kk)
    by_cases q41 : op.toInt = 41
    · exact lv_tableIn (off := 2023) (tgt := 2066) hx hb dL_law_43 h0 h1 (by rw [q41]; rfl) (by decide) (lc_2066 Y hi0 hiL hL hrC hrS hS kk)
    by_cases q42 : op.toInt = 42
    · exact lv_tableIn (off := 2075) (tgt := 2118) hx hb dL_law_43 h0 h1 (by rw [q42]; rfl) (by decide) (lc_2118 Y hi0 hiL hL hrC hrS hS kk)
    by_cases q43 : op.toInt = 43
    · exact lv_tableIn (off := 2115) (tgt := 2158) hx hb dL_law_43 h0 h1 (by rw [q43]; rfl) (by decide) (lc_2158 Y hi0 hiL hL hrC hrS hS kk)
    by_cases q44 : op.toInt = 44
    · exact lv_tableIn (off := 2143) (tgt := 2186) hx hb dL_law_43 h0 h1 (by rw [q44]; rfl) (by decide) (lc_2186 Y hi0 hiL hL hrC hrS hS kk)
    by_cases q45 : op.toInt = 45
    · exact lv_tableIn (off := 2211) (tgt := 2254) hx hb dL_law_43 h0 h1 (by rw [q45]; rfl) (by decide) (lc_2254 Y hi0 hiL hL hrC hrS hS kk)
    by_cases q46 : op.toInt = 46
    · exact lv_tableIn (off := 2251) (tgt := 2294) hx hb dL_law_43 h0 h1 (by rw [q46]; rfl) (by decide) (lc_2294 Y hi0 hiL hL hrC hrS hS kk)
    by_cases q47 : op.toInt = 47
    · exact lv_tableIn (off := 2291) (tgt := 2334) hx hb dL_law_43 h0 h1 (by rw [q47]; rfl) (by decide) (lc_2334 Y hi0 hiL hL hrC hrS hS kk)
    by_cases q48 : op.toInt = 48
    · exact lv_tableIn (off := 2331) (tgt := 2374) hx hb dL_law_43 h0 h1 (by rw [q48]; rfl) (by decide) (lc_2374 Y hi0 hiL hL hrC hrS hS kk)
    by_cases q49 : op.toInt = 49
    · exact lv_tableIn (off := 2344) (tgt := 2387) hx hb dL_law_43 h0 h1 (by rw [q49]; rfl) (by decide) (lc_2387 Y hi0 hiL hL hrC hrS hS kk)
    by_cases q50 : op.toInt = 50
    · exact lv_tableIn (off := 2372) (tgt := 2415) hx hb dL_law_43 h0 h1 (by rw [q50]; rfl) (by decide) (lc_2415 Y hi0 hiL hL hrC hrS hS kk)
    by_cases q51 : op.toInt = 51
    · exact lv_tableIn (off := 2385) (tgt := 2428) hx hb dL_law_43 h0 h1 (by rw [q51]; rfl) (by decide) (lc_2428 Y hi0 hiL hL hrC hrS hS kk)
    exact absurd h0 (by omega)
theorem law_loop {p : Program} {l : Launch} {e : Env} {s : State} {m : MethodId} {below : List Frame} {meth : Method} {c : Code} {cw : Cond} {g : GG} {A : Nat → Prop} {b L : Nat} {xs : Nat → Int32} {Q : State → Prop} (Y : LwC p l s m meth c cw g A b L xs) (hL : L ≤ 2560) (hend : ∀ (H : Heap) (locs : List Loc) (ls : Array Slot) (C S : Nat), (∃ (N : Nat) (ad : Nat → Nat) (f : Nat → va_E), WB g A s.heap N ad f H locs) → C ≤ 744860 → S ≤ 6861525 → W p l e room_1 s m #[.ref b] below meth c H locs C S Q (F0 m 2447 ls [])) :
    ∀ (n k : Nat), n + k = 512 → ∀ (i : Int32) (H : Heap) (locs : List Loc) (ls : Array Slot), i.toInt = 5 * (k : Int) → LwS s g A b i H locs ls → W p l e room_1 s m #[.ref b] below meth c H locs (40 + 1200 * k) (200 + 12000 * k) Q (F0 m 27 ls []) := by
  have hen : ∀ (k : Nat), k ≤ 512 → ∀ (i : Int32) (H : Heap) (locs : List Loc) (ls : Array Slot), LwS s g A b i H locs ls → W p l e room_1 s m #[.ref b] below meth c H locs (40 + 1200 * k) (200 + 12000 * k) Q (F0 m 2447 ls []) := by
    intro k hk i H locs ls hS
    obtain ⟨ad, n, v, sp, dy, la, kn, re, cr, dr, th, rf, pl, pz, mc, hR, B, hl⟩ := hS
    exact hend H locs ls _ _ ⟨_, _, _, B⟩ (by omega) (by omega)
  intro n
  induction n with
  | zero =>
    intro k hk i H locs ls hi hS
    exact law_head Y hL hS (hen k (by omega) i H locs ls hS) (fun z => absurd z (by omega))
  | succ n ih =>
    intro k hk i H locs ls hi hS
    refine law_head Y hL hS (hen k (by omega) i H locs ls hS) (fun z => ?_)
    have hi0 : ¬ i < 0 := by
      rw [Int32.lt_iff_toInt_lt, hi]
      show ¬ 5 * (k : Int) < 0
      omega
    refine law_body Y hi0 z hL (by omega) (by omega) hS (fun H locs ls hS => ?_)
    obtain ⟨X, hfl, hK, hT, hnc, hXs, hbl, hbA, hA⟩ := id Y
    obtain ⟨hx, hb, hml, hown, hts, hlocks⟩ := id X
    obtain ⟨ad, n0, v, sp, dy, la, kn, re, cr, dr, th, rf, pl, pz, mc, hR, B, hl⟩ := hS
    refine lv_iinc (v := i + 5) (lv' := [(4, .int (i + 5)), (0, .ref b), (1, .ref (ad 0)), (2, .ref (ad 24)), (3, .ref (ad 23))]) hx hb dL_law_2441 hl (k := 0) rfl rfl (by decide) rfl (fun ls hl => ?_)
    refine lv_goto (tgt := 27) hx hb dL_law_2444 (by decide) ?_
    have h := ih (k + 1) (by omega) (i + 5) H locs ls (inc5 hi (by omega)) ⟨ad, n0, v, sp, dy, la, kn, re, cr, dr, th, rf, pl, pz, mc, hR, B, hl⟩
    rwa [show 40 + 1200 * (k + 1) = 40 + 1200 * k + 1200 by omega, show 200 + 12000 * (k + 1) = 200 + 12000 * k + 12000 by omega] at h
