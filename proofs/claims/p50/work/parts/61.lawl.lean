/-! the law's loop -/
theorem hd_le {i : Int32} {L : Nat} (hL : L ≤ 2560) (h : ¬ (Int32.ofNat L - 5) < i) : i.toInt + 5 ≤ L := by
  rw [Int32.lt_iff_toInt_lt] at h
  have e5 : (5 : Int32).toInt = 5 := rfl
  have eL : (Int32.ofNat L).toInt = L := nI_toInt (by omega)
  have e : (Int32.ofNat L - 5).toInt = (L : Int) - 5 := by
    rw [Int32.toInt_sub, eL, e5]
    show ((L : Int) - 5).bmod (2 ^ 32) = _
    rw [Int.bmod_eq_of_le (by omega) (by omega)]
  omega
theorem inc5 {i : Int32} {k : Nat} (hi : i.toInt = 5 * (k : Int)) (hk : k ≤ 512) : (i + 5).toInt = 5 * ((k + 1 : Nat) : Int) := by
  have e5 : (5 : Int32).toInt = 5 := rfl
  rw [Int32.toInt_add, hi, e5]
  show (5 * (k : Int) + 5).bmod (2 ^ 32) = _
  rw [Int.bmod_eq_of_le (by omega) (by omega)]
  omega
theorem law_head {p : Program} {l : Launch} {e : Env} {s : State} {m : MethodId} {below : List Frame} {meth : Method} {c : Code} {cw : Cond} {g : GG} {A : Nat → Prop} {b L : Nat} {xs : Nat → Int32} {Q : State → Prop} {C S : Nat} {H : Heap} {locs : List Loc} {ls : Array Slot} {i : Int32} (Y : LwC p l s m meth c cw g A b L xs) (hL : L ≤ 2560) (hS : LwS s g A b i H locs ls) (kt : W p l e room_1 s m #[.ref b] below meth c H locs C S Q (F0 m 2418 ls [])) (kf : i.toInt + 5 ≤ L → W p l e room_1 s m #[.ref b] below meth c H locs C S Q (F0 m 36 ls [])) : W p l e room_1 s m #[.ref b] below meth c H locs C S Q (F0 m 27 ls []) := by
  obtain ⟨X, hfl, hK, hT, hnc, hXs, hbl, hbA, hA⟩ := Y
  obtain ⟨hx, hb, hml, hown, hts, hlocks⟩ := id X
  obtain ⟨ad, n, v, sp, dy, la, kn, re, cr, dr, th, rf, pl, pz, mc, hla, hlb, hz, hdr, B, hl⟩ := hS
  refine lv_iload hx hb dL_law_27 (lv_at hl 0 rfl) ?_
  refine lv_aload_n hx hb dL_law_29 rfl (lv_at hl 1 rfl) ?_
  refine va_slen hx hb hXs hbl hbA B.2.2 dL_law_30 ?_
  refine lv_iconst (v := 5) hx hb dL_law_31 (by decide) ?_
  refine lv_isub hx hb dL_law_32 ?_
  exact lv_icmp_gt (tgt := 2418) hx hb dL_law_33 (by decide) (fun _ => kt) (fun z => kf (hd_le hL z))
set_option maxHeartbeats 8000000 in
theorem law_body {p : Program} {l : Launch} {e : Env} {s : State} {m : MethodId} {below : List Frame} {meth : Method} {c : Code} {cw : Cond} {g : GG} {A : Nat → Prop} {b L : Nat} {xs : Nat → Int32} {Q : State → Prop} {C S : Nat} {H : Heap} {locs : List Loc} {ls : Array Slot} {i : Int32} (Y : LwC p l s m meth c cw g A b L xs) (hi0 : ¬ i < 0) (hiL : i.toInt + 5 ≤ L) (hL : L ≤ 2560) (hrC : C + 1200 ≤ 744860) (hrS : S + 12000 ≤ 6861525) (hS : LwS s g A b i H locs ls)
    (kk : ∀ (H1 : Heap) (locs1 : List Loc) (ls1 : Array Slot), LwS s g A b i H1 locs1 ls1 → W p l e room_1 s m #[.ref b] below meth c H1 locs1 (C + 1200) (S + 12000) Q (F0 m 2412 ls1 [])) : W p l e room_1 s m #[.ref b] below meth c H locs C S Q (F0 m 36 ls []) := by
  obtain ⟨X, hfl, hK, hT, hnc, hXs, hbl, hbA, hA⟩ := id Y
  obtain ⟨hx, hb, hml, hown, hts, hlocks⟩ := id X
  obtain ⟨ad, n, v, sp, dy, la, kn, re, cr, dr, th, rf, pl, pz, mc, hla, hlb, hz, hdr, B, hl⟩ := id hS
  refine lv_aload_n hx hb dL_law_36 rfl (lv_at hl 1 rfl) ?_
  refine lv_iload hx hb dL_law_37 (lv_at hl 0 rfl) ?_
  refine va_sld hx hb hXs hbl hbA B.2.2 (ix_0 hi0 hiL) dL_law_39 ?_
  refine lv_bipush (v := 63) hx hb dL_law_40 (by decide) ?_
  refine lv_iand hx hb dL_law_42 ?_
  generalize xs i.toNatClampNeg &&& 63 = op
  by_cases hlo : op.toInt < 0 ∨ 51 < op.toInt
  · refine lv_tableOut (tgt := 2412) hx hb dL_law_43 hlo (by decide) ?_
    exact W.widen (by omega) (by omega) (kk H locs ls hS)
  · have h0 : ¬ op.toInt < 0 := fun z => hlo (Or.inl z)
    have h1 : ¬ 51 < op.toInt := fun z => hlo (Or.inr z)
    by_cases q0 : op.toInt = 0
    · exact lv_tableIn (off := 221) (tgt := 264) hx hb dL_law_43 h0 h1 (by rw [q0]; rfl) (by decide) (lc_264 Y hi0 hiL hL hrC hrS hS kk)
    by_cases q1 : op.toInt = 1
    · exact lv_tableIn (off := 285) (tgt := 328) hx hb dL_law_43 h0 h1 (by rw [q1]; rfl) (by decide) (lc_328 Y hi0 hiL hL hrC hrS hS kk)
    by_cases q2 : op.toInt = 2
    · exact lv_tableIn (off := 325) (tgt := 368) hx hb dL_law_43 h0 h1 (by rw [q2]; rfl) (by decide) (lc_368 Y hi0 hiL hL hrC hrS hS kk)
    by_cases q3 : op.toInt = 3
    · exact lv_tableIn (off := 365) (tgt := 408) hx hb dL_law_43 h0 h1 (by rw [q3]; rfl) (by decide) (lc_408 Y hi0 hiL hL hrC hrS hS kk)
    by_cases q4 : op.toInt = 4
    · exact lv_tableIn (off := 405) (tgt := 448) hx hb dL_law_43 h0 h1 (by rw [q4]; rfl) (by decide) (lc_448 Y hi0 hiL hL hrC hrS hS kk)
    by_cases q5 : op.toInt = 5
    · exact lv_tableIn (off := 445) (tgt := 488) hx hb dL_law_43 h0 h1 (by rw [q5]; rfl) (by decide) (lc_488 Y hi0 hiL hL hrC hrS hS kk)
    by_cases q6 : op.toInt = 6
    · exact lv_tableIn (off := 497) (tgt := 540) hx hb dL_law_43 h0 h1 (by rw [q6]; rfl) (by decide) (lc_540 Y hi0 hiL hL hrC hrS hS kk)
    by_cases q7 : op.toInt = 7
    · exact lv_tableIn (off := 537) (tgt := 580) hx hb dL_law_43 h0 h1 (by rw [q7]; rfl) (by decide) (lc_580 Y hi0 hiL hL hrC hrS hS kk)
    by_cases q8 : op.toInt = 8
    · exact lv_tableIn (off := 577) (tgt := 620) hx hb dL_law_43 h0 h1 (by rw [q8]; rfl) (by decide) (lc_620 Y hi0 hiL hL hrC hrS hS kk)
    by_cases q9 : op.toInt = 9
    · exact lv_tableIn (off := 645) (tgt := 688) hx hb dL_law_43 h0 h1 (by rw [q9]; rfl) (by decide) (lc_688 Y hi0 hiL hL hrC hrS hS kk)
    by_cases q10 : op.toInt = 10
    · exact lv_tableIn (off := 713) (tgt := 756) hx hb dL_law_43 h0 h1 (by rw [q10]; rfl) (by decide) (lc_756 Y hi0 hiL hL hrC hrS hS kk)
    by_cases q11 : op.toInt = 11
    · exact lv_tableIn (off := 781) (tgt := 824) hx hb dL_law_43 h0 h1 (by rw [q11]; rfl) (by decide) (lc_824 Y hi0 hiL hL hrC hrS hS kk)
    by_cases q12 : op.toInt = 12
    · exact lv_tableIn (off := 849) (tgt := 892) hx hb dL_law_43 h0 h1 (by rw [q12]; rfl) (by decide) (lc_892 Y hi0 hiL hL hrC hrS hS kk)
    by_cases q13 : op.toInt = 13
    · exact lv_tableIn (off := 917) (tgt := 960) hx hb dL_law_43 h0 h1 (by rw [q13]; rfl) (by decide) (lc_960 Y hi0 hiL hL hrC hrS hS kk)
    by_cases q14 : op.toInt = 14
    · exact lv_tableIn (off := 985) (tgt := 1028) hx hb dL_law_43 h0 h1 (by rw [q14]; rfl) (by decide) (lc_1028 Y hi0 hiL hL hrC hrS hS kk)
    by_cases q15 : op.toInt = 15
    · exact lv_tableIn (off := 1025) (tgt := 1068) hx hb dL_law_43 h0 h1 (by rw [q15]; rfl) (by decide) (lc_1068 Y hi0 hiL hL hrC hrS hS kk)
    by_cases q16 : op.toInt = 16
    · exact lv_tableIn (off := 1065) (tgt := 1108) hx hb dL_law_43 h0 h1 (by rw [q16]; rfl) (by decide) (lc_1108 Y hi0 hiL hL hrC hrS hS kk)
    by_cases q17 : op.toInt = 17
    · exact lv_tableIn (off := 1105) (tgt := 1148) hx hb dL_law_43 h0 h1 (by rw [q17]; rfl) (by decide) (lc_1148 Y hi0 hiL hL hrC hrS hS kk)
    by_cases q18 : op.toInt = 18
    · exact lv_tableIn (off := 1133) (tgt := 1176) hx hb dL_law_43 h0 h1 (by rw [q18]; rfl) (by decide) (lc_1176 Y hi0 hiL hL hrC hrS hS kk)
    by_cases q19 : op.toInt = 19
    · exact lv_tableIn (off := 1161) (tgt := 1204) hx hb dL_law_43 h0 h1 (by rw [q19]; rfl) (by decide) (lc_1204 Y hi0 hiL hL hrC hrS hS kk)
    by_cases q20 : op.toInt = 20
    · exact lv_tableIn (off := 1189) (tgt := 1232) hx hb dL_law_43 h0 h1 (by rw [q20]; rfl) (by decide) (lc_1232 Y hi0 hiL hL hrC hrS hS kk)
    by_cases q21 : op.toInt = 21
    · exact lv_tableIn (off := 1217) (tgt := 1260) hx hb dL_law_43 h0 h1 (by rw [q21]; rfl) (by decide) (lc_1260 Y hi0 hiL hL hrC hrS hS kk)
    by_cases q22 : op.toInt = 22
    · exact lv_tableIn (off := 1245) (tgt := 1288) hx hb dL_law_43 h0 h1 (by rw [q22]; rfl) (by decide) (lc_1288 Y hi0 hiL hL hrC hrS hS kk)
    by_cases q23 : op.toInt = 23
    · exact lv_tableIn (off := 1270) (tgt := 1313) hx hb dL_law_43 h0 h1 (by rw [q23]; rfl) (by decide) (lc_1313 Y hi0 hiL hL hrC hrS hS kk)
    by_cases q24 : op.toInt = 24
    · exact lv_tableIn (off := 1310) (tgt := 1353) hx hb dL_law_43 h0 h1 (by rw [q24]; rfl) (by decide) (lc_1353 Y hi0 hiL hL hrC hrS hS kk)
    by_cases q25 : op.toInt = 25
    · exact lv_tableIn (off := 1338) (tgt := 1381) hx hb dL_law_43 h0 h1 (by rw [q25]; rfl) (by decide) (lc_1381 Y hi0 hiL hL hrC hrS hS kk)
    by_cases q26 : op.toInt = 26
    · exact lv_tableIn (off := 1366) (tgt := 1409) hx hb dL_law_43 h0 h1 (by rw [q26]; rfl) (by decide) (lc_1409 Y hi0 hiL hL hrC hrS hS kk)
    by_cases q27 : op.toInt = 27
    · exact lv_tableIn (off := 1394) (tgt := 1437) hx hb dL_law_43 h0 h1 (by rw [q27]; rfl) (by decide) (lc_1437 Y hi0 hiL hL hrC hrS hS kk)
    by_cases q28 : op.toInt = 28
    · exact lv_tableIn (off := 1434) (tgt := 1477) hx hb dL_law_43 h0 h1 (by rw [q28]; rfl) (by decide) (lc_1477 Y hi0 hiL hL hrC hrS hS kk)
    by_cases q29 : op.toInt = 29
    · exact lv_tableIn (off := 1474) (tgt := 1517) hx hb dL_law_43 h0 h1 (by rw [q29]; rfl) (by decide) (lc_1517 Y hi0 hiL hL hrC hrS hS kk)
    by_cases q30 : op.toInt = 30
    · exact lv_tableIn (off := 1502) (tgt := 1545) hx hb dL_law_43 h0 h1 (by rw [q30]; rfl) (by decide) (lc_1545 Y hi0 hiL hL hrC hrS hS kk)
    by_cases q31 : op.toInt = 31
    · exact lv_tableIn (off := 1542) (tgt := 1585) hx hb dL_law_43 h0 h1 (by rw [q31]; rfl) (by decide) (lc_1585 Y hi0 hiL hL hrC hrS hS kk)
    by_cases q32 : op.toInt = 32
    · exact lv_tableIn (off := 1582) (tgt := 1625) hx hb dL_law_43 h0 h1 (by rw [q32]; rfl) (by decide) (lc_1625 Y hi0 hiL hL hrC hrS hS kk)
    by_cases q33 : op.toInt = 33
    · exact lv_tableIn (off := 1650) (tgt := 1693) hx hb dL_law_43 h0 h1 (by rw [q33]; rfl) (by decide) (lc_1693 Y hi0 hiL hL hrC hrS hS kk)
    by_cases q34 : op.toInt = 34
    · exact lv_tableIn (off := 1678) (tgt := 1721) hx hb dL_law_43 h0 h1 (by rw [q34]; rfl) (by decide) (lc_1721 Y hi0 hiL hL hrC hrS hS kk)
    by_cases q35 : op.toInt = 35
    · exact lv_tableIn (off := 1706) (tgt := 1749) hx hb dL_law_43 h0 h1 (by rw [q35]; rfl) (by decide) (lc_1749 Y hi0 hiL hL hrC hrS hS kk)
    by_cases q36 : op.toInt = 36
    · exact lv_tableIn (off := 1770) (tgt := 1813) hx hb dL_law_43 h0 h1 (by rw [q36]; rfl) (by decide) (lc_1813 Y hi0 hiL hL hrC hrS hS kk)
    by_cases q37 : op.toInt = 37
    · exact lv_tableIn (off := 1810) (tgt := 1853) hx hb dL_law_43 h0 h1 (by rw [q37]; rfl) (by decide) (lc_1853 Y hi0 hiL hL hrC hrS hS kk)
    by_cases q38 : op.toInt = 38
    · exact lv_tableIn (off := 1850) (tgt := 1893) hx hb dL_law_43 h0 h1 (by rw [q38]; rfl) (by decide) (lc_1893 Y hi0 hiL hL hrC hrS hS kk)
    by_cases q39 : op.toInt = 39
    · exact lv_tableIn (off := 1890) (tgt := 1933) hx hb dL_law_43 h0 h1 (by rw [q39]; rfl) (by decide) (lc_1933 Y hi0 hiL hL hrC hrS hS kk)
    by_cases q40 : op.toInt = 40
    · exact lv_tableIn (off := 1942) (tgt := 1985) hx hb dL_law_43 h0 h1 (by rw [q40]; rfl) (by decide) (lc_1985 Y hi0 hiL hL hrC hrS hS kk)
    by_cases q41 : op.toInt = 41
    · exact lv_tableIn (off := 1994) (tgt := 2037) hx hb dL_law_43 h0 h1 (by rw [q41]; rfl) (by decide) (lc_2037 Y hi0 hiL hL hrC hrS hS kk)
    by_cases q42 : op.toInt = 42
    · exact lv_tableIn (off := 2046) (tgt := 2089) hx hb dL_law_43 h0 h1 (by rw [q42]; rfl) (by decide) (lc_2089 Y hi0 hiL hL hrC hrS hS kk)
    by_cases q43 : op.toInt = 43
    · exact lv_tableIn (off := 2086) (tgt := 2129) hx hb dL_law_43 h0 h1 (by rw [q43]; rfl) (by decide) (lc_2129 Y hi0 hiL hL hrC hrS hS kk)
    by_cases q44 : op.toInt = 44
    · exact lv_tableIn (off := 2114) (tgt := 2157) hx hb dL_law_43 h0 h1 (by rw [q44]; rfl) (by decide) (lc_2157 Y hi0 hiL hL hrC hrS hS kk)
    by_cases q45 : op.toInt = 45
    · exact lv_tableIn (off := 2182) (tgt := 2225) hx hb dL_law_43 h0 h1 (by rw [q45]; rfl) (by decide) (lc_2225 Y hi0 hiL hL hrC hrS hS kk)
    by_cases q46 : op.toInt = 46
    · exact lv_tableIn (off := 2222) (tgt := 2265) hx hb dL_law_43 h0 h1 (by rw [q46]; rfl) (by decide) (lc_2265 Y hi0 hiL hL hrC hrS hS kk)
    by_cases q47 : op.toInt = 47
    · exact lv_tableIn (off := 2262) (tgt := 2305) hx hb dL_law_43 h0 h1 (by rw [q47]; rfl) (by decide) (lc_2305 Y hi0 hiL hL hrC hrS hS kk)
    by_cases q48 : op.toInt = 48
    · exact lv_tableIn (off := 2302) (tgt := 2345) hx hb dL_law_43 h0 h1 (by rw [q48]; rfl) (by decide) (lc_2345 Y hi0 hiL hL hrC hrS hS kk)
    by_cases q49 : op.toInt = 49
    · exact lv_tableIn (off := 2315) (tgt := 2358) hx hb dL_law_43 h0 h1 (by rw [q49]; rfl) (by decide) (lc_2358 Y hi0 hiL hL hrC hrS hS kk)
    by_cases q50 : op.toInt = 50
    · exact lv_tableIn (off := 2343) (tgt := 2386) hx hb dL_law_43 h0 h1 (by rw [q50]; rfl) (by decide) (lc_2386 Y hi0 hiL hL hrC hrS hS kk)
    by_cases q51 : op.toInt = 51
    · exact lv_tableIn (off := 2356) (tgt := 2399) hx hb dL_law_43 h0 h1 (by rw [q51]; rfl) (by decide) (lc_2399 Y hi0 hiL hL hrC hrS hS kk)
    exact absurd h0 (by omega)
theorem law_loop {p : Program} {l : Launch} {e : Env} {s : State} {m : MethodId} {below : List Frame} {meth : Method} {c : Code} {cw : Cond} {g : GG} {A : Nat → Prop} {b L : Nat} {xs : Nat → Int32} {Q : State → Prop} (Y : LwC p l s m meth c cw g A b L xs) (hL : L ≤ 2560) (hend : ∀ (H : Heap) (locs : List Loc) (ls : Array Slot) (C S : Nat), (∃ (N : Nat) (ad : Nat → Nat) (f : Nat → va_E), WB g A s.heap N ad f H locs) → C ≤ 744860 → S ≤ 6861525 → W p l e room_1 s m #[.ref b] below meth c H locs C S Q (F0 m 2418 ls [])) :
    ∀ (n k : Nat), n + k = 512 → ∀ (i : Int32) (H : Heap) (locs : List Loc) (ls : Array Slot), i.toInt = 5 * (k : Int) → LwS s g A b i H locs ls → W p l e room_1 s m #[.ref b] below meth c H locs (40 + 1200 * k) (200 + 12000 * k) Q (F0 m 27 ls []) := by
  have hen : ∀ (k : Nat), k ≤ 512 → ∀ (i : Int32) (H : Heap) (locs : List Loc) (ls : Array Slot), LwS s g A b i H locs ls → W p l e room_1 s m #[.ref b] below meth c H locs (40 + 1200 * k) (200 + 12000 * k) Q (F0 m 2418 ls []) := by
    intro k hk i H locs ls hS
    obtain ⟨ad, n, v, sp, dy, la, kn, re, cr, dr, th, rf, pl, pz, mc, hla, hlb, hz, hdr, B, hl⟩ := hS
    exact hend H locs ls _ _ ⟨_, _, _, B⟩ (by omega) (by omega)
  intro n
  induction n with
  | zero =>
    intro k hk i H locs ls hi hS
    exact law_head Y hL hS (hen k (by omega) i H locs ls hS) (fun z => absurd z (by omega))
  | succ n ih =>
    intro k hk i H locs ls hi hS
    refine law_head Y hL hS (hen k (by omega) i H locs ls hS) (fun z => ?_)
    have hi0 : ¬ i < 0 := by
      rw [Int32.lt_iff_toInt_lt, hi]
      show ¬ 5 * (k : Int) < 0
      omega
    refine law_body Y hi0 z hL (by omega) (by omega) hS (fun H locs ls hS => ?_)
    obtain ⟨X, hfl, hK, hT, hnc, hXs, hbl, hbA, hA⟩ := id Y
    obtain ⟨hx, hb, hml, hown, hts, hlocks⟩ := id X
    obtain ⟨ad, n0, v, sp, dy, la, kn, re, cr, dr, th, rf, pl, pz, mc, hla, hlb, hz, hdr, B, hl⟩ := hS
    refine lv_iinc (v := i + 5) (lv' := [(4, .int (i + 5)), (0, .ref b), (1, .ref (ad 0)), (2, .ref (ad 24)), (3, .ref (ad 23))]) hx hb dL_law_2412 hl (k := 0) rfl rfl (by decide) rfl (fun ls hl => ?_)
    refine lv_goto (tgt := 27) hx hb dL_law_2415 (by decide) ?_
    have h := ih (k + 1) (by omega) (i + 5) H locs ls (inc5 hi (by omega)) ⟨ad, n0, v, sp, dy, la, kn, re, cr, dr, th, rf, pl, pz, mc, hla, hlb, hz, hdr, B, hl⟩
    rwa [show 40 + 1200 * (k + 1) = 40 + 1200 * k + 1200 by omega, show 200 + 12000 * (k + 1) = 200 + 12000 * k + 12000 by omega] at h
