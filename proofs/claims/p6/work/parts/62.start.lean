/-! the start: the classes, the statics, the constants -/
abbrev FLn : List Cond := flatC (Jvm.Cond.and given_1 narrow_1)
section START
variable {s : State} {args : Array Value} {A : Nat → Prop}
theorem st_tb (hts : ∀ w ∈ lw_tbl, w.before args s = true) : ∀ w ∈ tb_all, w.before args s = true := fun w h => hts w (List.mem_filter.mp h).1
theorem st_K (hts : ∀ w ∈ lw_tbl, w.before args s = true) : ∃ D : va_G, ∀ (k : Nat) (q : vw_C), vwCl[k]? = some q → u_Kn s q.1 q.2.1 q.2.2 (D.1 k) (D.2 k) := by
  have ht := st_tb hts
  have h : ∀ k : Nat, ∃ d : ClassId × (Nat → Nat), ∀ q : vw_C, vwCl[k]? = some q → u_Kn s q.1 q.2.1 q.2.2 d.1 d.2 := by
    intro k
    match k with
    | 0 =>
      obtain ⟨a, i, h⟩ := u_known (ws := tb_all) (C := RJ0) (T := TJ0) (N := 4) (n := 4) ht in_J0 (ht _ ia_J0)
      exact ⟨(a, i), fun q hq => by cases hq; exact h⟩
    | 1 =>
      obtain ⟨a, i, h⟩ := u_known (ws := tb_all) (C := RJ4) (T := TJ4) (N := 4) (n := 4) ht in_J4 (ht _ ia_J4)
      exact ⟨(a, i), fun q hq => by cases hq; exact h⟩
    | 2 =>
      obtain ⟨a, i, h⟩ := u_known (ws := tb_all) (C := RJx4a65c) (T := TJx4a65c) (N := 3) (n := 3) ht in_Jx4a65c (ht _ ia_Jx4a65c)
      exact ⟨(a, i), fun q hq => by cases hq; exact h⟩
    | 3 =>
      obtain ⟨a, i, h⟩ := u_known (ws := tb_all) (C := RX0) (T := TX0) (N := 3) (n := 3) ht in_X0 (ht _ ia_X0)
      exact ⟨(a, i), fun q hq => by cases hq; exact h⟩
    | 4 =>
      obtain ⟨a, i, h⟩ := u_known (ws := tb_all) (C := RX1) (T := TX1) (N := 3) (n := 3) ht in_X1 (ht _ ia_X1)
      exact ⟨(a, i), fun q hq => by cases hq; exact h⟩
    | 5 =>
      obtain ⟨a, i, h⟩ := u_known (ws := tb_all) (C := RX2) (T := TX2) (N := 9) (n := 9) ht in_X2 (ht _ ia_X2)
      exact ⟨(a, i), fun q hq => by cases hq; exact h⟩
    | 6 =>
      obtain ⟨a, i, h⟩ := u_known (ws := tb_all) (C := RX3) (T := TX3) (N := 2) (n := 2) ht in_X3 (ht _ ia_X3)
      exact ⟨(a, i), fun q hq => by cases hq; exact h⟩
    | 7 =>
      obtain ⟨a, i, h⟩ := u_known (ws := tb_all) (C := RX4) (T := TX4) (N := 6) (n := 6) ht in_X4 (ht _ ia_X4)
      exact ⟨(a, i), fun q hq => by cases hq; exact h⟩
    | k + 8 =>
      obtain ⟨a, i, -⟩ := u_known (ws := tb_all) (C := RX4) (T := TX4) (N := 6) (n := 6) ht in_X4 (ht _ ia_X4)
      exact ⟨(a, i), fun q hq => by simp [vwCl] at hq⟩
  obtain ⟨d, hd⟩ := Classical.axiomOfChoice h
  exact ⟨(fun k => (d k).1, fun k => (d k).2), fun k q hq => hd k q hq⟩
theorem st_ao (hts : ∀ w ∈ lw_tbl, w.before args s = true) : ao_all s :=
  ⟨va_AO.of (hts (.arrayOver (.object "Periodcard$Span")) (lw_at 38 (by decide +kernel))), va_AO.of (hts (.arrayOver (.object "Periodcard$Day")) (lw_at 40 (by decide +kernel))), va_AO.of (hts (.arrayOver (.object "java/lang/Object")) (lw_at 1355 (by decide +kernel))), hts (.arrayOver (.array .int)) (lw_at 1124 (by decide +kernel))⟩
theorem st_ng (hts : ∀ w ∈ lw_tbl, w.before args s = true) : ng_all s := by
  intro w hw hg
  have h := hts w hw
  cases w <;> first | exact va_Nw.of rfl h | exact h | (simp [ng_ok] at hg)
theorem st_ti (hts : ∀ w ∈ lw_tbl, w.before args s = true) : ∃ ti : Nat → ClassId, ∀ (k : Nat) (q : ClassId × FieldType), (TY ti)[k]? = some q → ArrOfT s q.1 q.2 ∧ va_RA s q.1 q.2 := by
  have ht := st_tb hts
  obtain ⟨c0, k0, m0, a1, a2, a3⟩ := Cond.arrayClass_spec (ht _ ac_int)
  obtain ⟨c1, k1, m1, b1, b2, b3⟩ := Cond.arrayClass_spec (ht _ ac_byte)
  obtain ⟨h3, h4, h5, h2⟩ := st_ao hts
  obtain ⟨m2, c2, k2, d1, -, d2, d3, d4⟩ := arrayOverA_spec h2
  obtain ⟨m3, c3, k3, e1, -, e2, e3, e4⟩ := Cond.arrayOver_spec h3
  obtain ⟨m4, c4, k4, f1, -, f2, f3, f4⟩ := Cond.arrayOver_spec h4
  obtain ⟨m5, c5, k5, g1, -, g2, g3, g4⟩ := Cond.arrayOver_spec h5
  refine ⟨fun i => [c0, c1, c2, c3, c4, c5].getD i c0, fun k q hq => ?_⟩
  match k, hq with
  | 0, hq => cases hq; exact ⟨fun n z => ⟨(fun q h => by cases h), k0, a2, m0, a3⟩, a1⟩
  | 1, hq => cases hq; exact ⟨fun n z => ⟨(fun q h => by cases h), k1, b2, m1, b3⟩, b1⟩
  | 2, hq => cases hq; exact ⟨fun n z => ⟨(fun q h => by cases h), k2, d2, m2, d3⟩, d4⟩
  | 3, hq => cases hq; exact ⟨fun n z => ⟨(fun q h => by cases h), k3, e2, m3, e3⟩, k3, m3, e2, e3, e1, e4⟩
  | 4, hq => cases hq; exact ⟨fun n z => ⟨(fun q h => by cases h), k4, f2, m4, f3⟩, k4, m4, f2, f3, f1, f4⟩
  | 5, hq => cases hq; exact ⟨fun n z => ⟨(fun q h => by cases h), k5, g2, m5, g3⟩, k5, m5, g2, g3, g1, g4⟩
  | k + 6, hq => simp [TY] at hq
abbrev tmS (i : Nat) : Term := .string (st_own.getD i ("", 0, "")).1 (st_own.getD i ("", 0, "")).2.1
theorem sx_ref : ∀ i, i < 15 → Cond.stringRef (st_own.getD i ("", 0, "")).1 (st_own.getD i ("", 0, "")).2.1 (st_own.getD i ("", 0, "")).2.2 ∈ lw_tbl := by decide +kernel
def st_ix : List Nat := [275, 279, 286, 294, 304, 333, 373, 411, 443, 493, 536, 550, 567, 585, 603]
theorem fl_in {k : Nat} {w : Cond} (h : FLn[k]? = some w) : w ∈ FLn := List.mem_of_getElem? h
theorem sx_ex : ∀ i, i < 15 → FLn[st_ix.getD i 0]? = some (Cond.exactly (tmS i) "java/lang/String") := by decide +kernel
theorem sx_co : ∀ i, i < 15 → FLn[st_ix.getD i 0 + 1]? = some (Cond.eq (.field (tmS i) "java/lang/String" "coder" "B") (.int 0)) := by decide +kernel
theorem sx_ar : ∀ i, i < 15 → FLn[st_ix.getD i 0 + 2]? = some (Cond.arrayOf (.field (tmS i) "java/lang/String" "value" "[B") .byte) := by decide +kernel
theorem sx_le : ∀ i, i < 15 → FLn[st_ix.getD i 0 + 3]? = some (Cond.eq (.length (.field (tmS i) "java/lang/String" "value" "[B")) (.int (Int32.ofNat (st_len.getD i 0)))) := by decide +kernel
theorem sx_el : ∀ i, i < 15 → ∀ j, j < st_len.getD i 0 → FLn[st_ix.getD i 0 + 4 + j]? = some (Cond.eq (.elem (.field (tmS i) "java/lang/String" "value" "[B") (.int (Int32.ofNat j))) (.int ((st_byt.getD i []).getD j 0))) := by decide +kernel
theorem sx_sm : ∀ i, i < 15 → st_len.getD i 0 < 2 ^ 31 := by decide +kernel
theorem sx_o1 : ∀ j, j < 100 → FLn[8 + j]? = some (Cond.eq (.elem (.static "java/lang/Integer" "DigitOnes" "[B") (.int (Int32.ofNat j))) (.int (st_ones.getD j 0))) := by decide +kernel
theorem sx_o2 : ∀ j, j < 100 → FLn[111 + j]? = some (Cond.eq (.elem (.static "java/lang/Integer" "DigitTens" "[B") (.int (Int32.ofNat j))) (.int (st_tens.getD j 0))) := by decide +kernel
theorem sx_o3 : ∀ j, j < 12 → FLn[224 + j]? = some (Cond.eq (.elem (.static "PeriodcardModel" "LENGTHS" "[I") (.int (Int32.ofNat j))) (.int (st_lens.getD j 0))) := by decide +kernel
theorem st_ST (hts : ∀ w ∈ lw_tbl, w.before args s = true) (hgv : (Jvm.Cond.and given_1 narrow_1).before args s = true) (hA : ∀ a : Nat, a < s.heap.size → ¬ A a) : ∃ z : Nat → Nat, ST z A s s.heap := by
  have ht := st_tb hts
  have hs : ∀ w ∈ FLn, w.before args s = true := flat_of_before _ hgv
  have hcs : va_Z "java/lang/String" "COMPACT_STRINGS" "Z" (.int 1) A s s.heap := va_Zof (hts _ (lw_at 122 (by decide +kernel))) (ht _ ii_J0) (va_eqt (hs (.eq (.static "java/lang/String" "COMPACT_STRINGS" "Z") (.int 1)) (by decide +kernel))) hA
  obtain ⟨t0, e0, T0⟩ := va_Tof (tm := .static "java/lang/Integer" "DigitOnes" "[B") (ty := .byte) (N := 100) (f := fun j => .int (st_ones.getD j 0)) (A := A) (by decide) (hs _ (by decide +kernel)) (va_eqt (hs (.eq (.length (.static "java/lang/Integer" "DigitOnes" "[B")) (.int (Int32.ofNat 100))) (by decide +kernel))) (fun j hj => va_eqt (hs _ (fl_in (sx_o1 j hj)))) hA
  obtain ⟨t1, e1, T1⟩ := va_Tof (tm := .static "java/lang/Integer" "DigitTens" "[B") (ty := .byte) (N := 100) (f := fun j => .int (st_tens.getD j 0)) (A := A) (by decide) (hs _ (by decide +kernel)) (va_eqt (hs (.eq (.length (.static "java/lang/Integer" "DigitTens" "[B")) (.int (Int32.ofNat 100))) (by decide +kernel))) (fun j hj => va_eqt (hs _ (fl_in (sx_o2 j hj)))) hA
  obtain ⟨t2, e2, T2⟩ := va_Tof (tm := .static "PeriodcardModel" "LENGTHS" "[I") (ty := .int) (N := 12) (f := fun j => .int (st_lens.getD j 0)) (A := A) (by decide) (hs _ (by decide +kernel)) (va_eqt (hs (.eq (.length (.static "PeriodcardModel" "LENGTHS" "[I")) (.int (Int32.ofNat 12))) (by decide +kernel))) (fun j hj => va_eqt (hs _ (fl_in (sx_o3 j hj)))) hA
  obtain ⟨t3, e3, T3⟩ := va_Tof (tm := .static "java/util/ArrayList" "DEFAULTCAPACITY_EMPTY_ELEMENTDATA" "[Ljava/lang/Object;") (ty := .object "java/lang/Object") (N := 0) (f := fun _ => .null) (A := A) (by decide) (hs _ (by decide +kernel)) (va_eqt (hs (.eq (.length (.static "java/util/ArrayList" "DEFAULTCAPACITY_EMPTY_ELEMENTDATA" "[Ljava/lang/Object;")) (.int (Int32.ofNat 0))) (by decide +kernel))) (fun j hj => absurd hj (Nat.not_lt_zero _)) hA
  have h1 : ∀ i : Nat, ∃ q : Nat × Nat, i < 15 → vk_R (st_own.getD i ("", 0, "")).1 (st_own.getD i ("", 0, "")).2.1 (st_own.getD i ("", 0, "")).2.2 q.1 s ∧ (va_O "java/lang/String" q.1 A s s.heap ∧ va_OF "java/lang/String" "coder" "B" (.int 0) q.1 A s s.heap ∧ va_OF "java/lang/String" "value" "[B" (.ref q.2) q.1 A s s.heap ∧ va_T .byte q.2 (st_len.getD i 0) (fun j => .int ((st_byt.getD i []).getD j 0)) A s s.heap) := by
    intro i
    by_cases hi : i < 15
    · obtain ⟨ak, av, h, he⟩ := vk_Sof (args := args) (s := s) (N := 1) (tm := fun _ => tmS i) (len := [st_len.getD i 0]) (byt := [st_byt.getD i []]) (A := A)
        (fun j hj => by have e : j = 0 := by omega
                        subst e; exact sx_sm i hi)
        (fun j hj => hs _ (fl_in (sx_ex i hi))) (fun j hj => hs _ (fl_in (sx_co i hi))) (fun j hj => hs _ (fl_in (sx_ar i hi)))
        (fun j hj => by have e : j = 0 := by omega
                        subst e; exact hs _ (fl_in (sx_le i hi)))
        (fun j hj k hk => by have e : j = 0 := by omega
                             subst e; exact hs _ (fl_in (sx_el i hi k hk)))
        (fun a c ha hc hac => absurd (show a = c by omega) hac) hA
      exact ⟨(ak 0, av 0), fun _ => ⟨vk_R.of (hts _ (sx_ref i hi)) (he 0 (by decide)), h.1 0 (by decide)⟩⟩
    · exact ⟨(0, 0), fun h => absurd h hi⟩
  obtain ⟨d, hd⟩ := Classical.axiomOfChoice h1
  obtain ⟨z, hz⟩ : ∃ z : Nat → Nat, z = fun k => if k < 100 then [t0, t1, t2, t3].getD k 0 else if k < 200 then (d (k - 100)).1 else (d (k - 200)).2 := ⟨_, rfl⟩
  have z0 : z 0 = t0 := by rw [hz]; rfl
  have z1 : z 1 = t1 := by rw [hz]; rfl
  have z2 : z 2 = t2 := by rw [hz]; rfl
  have z3 : z 3 = t3 := by rw [hz]; rfl
  have zk : ∀ i, i < 15 → z (100 + i) = (d i).1 := fun i hi => by
    rw [hz]
    show (if 100 + i < 100 then _ else if 100 + i < 200 then _ else _) = _
    rw [if_neg (show ¬ 100 + i < 100 by omega), if_pos (show 100 + i < 200 by omega), Nat.add_sub_cancel_left]
  have zv : ∀ i, i < 15 → z (200 + i) = (d i).2 := fun i hi => by
    rw [hz]
    show (if 200 + i < 100 then _ else if 200 + i < 200 then _ else _) = _
    rw [if_neg (show ¬ 200 + i < 100 by omega), if_neg (show ¬ 200 + i < 200 by omega), Nat.add_sub_cancel_left]
  refine ⟨z, ⟨st_ng hts, st_ao hts⟩, ⟨hcs, ⟨?_, ?_⟩, ⟨?_, ?_⟩, ⟨?_, ?_⟩, ⟨?_, ?_⟩⟩, ⟨?_, ?_⟩, fun i hi => ?_, ⟨fun i hi => ?_, trivial⟩⟩
  · rw [z0]; exact va_Zref (hts _ (lw_at 198 (by decide +kernel))) (ht _ ii_J6) e0 hA
  · rw [z0]; exact T0
  · rw [z1]; exact va_Zref (hts _ (lw_at 200 (by decide +kernel))) (ht _ ii_J6) e1 hA
  · rw [z1]; exact T1
  · rw [z2]; exact va_Zref (hts _ (lw_at 1512 (by decide +kernel))) (ht _ ii_X4) e2 hA
  · rw [z2]; exact T2
  · rw [z3]; exact va_Zref (hts _ (lw_at 1138 (by decide +kernel))) (ht _ ii_Jx4a65c) e3 hA
  · rw [z3]; exact T3
  · exact vx_Zqof (hts _ (lw_at 376 (by decide +kernel))) (ht _ ii_java_lang_Throwable) (hs _ (by decide +kernel)) hA
  · exact vx_Zqof (hts _ (lw_at 378 (by decide +kernel))) (ht _ ii_java_lang_Throwable) (hs _ (by decide +kernel)) hA
  · rw [zk i hi]; exact (hd i hi).1
  · show va_O _ (z (100 + i)) _ _ _ ∧ va_OF _ _ _ _ (z (100 + i)) _ _ _ ∧ va_OF _ _ _ (.ref (z (200 + i))) (z (100 + i)) _ _ _ ∧ va_T _ (z (200 + i)) _ _ _ _ _
    rw [zk i hi, zv i hi]; exact (hd i hi).2
theorem st_nc (hgv : (Jvm.Cond.and given_1 narrow_1).before args s = true) : va_Nc iaeN iobN s :=
  va_Nc.of (flat_of_before _ hgv (.not (.castable "java/lang/IllegalArgumentException" "java/lang/IndexOutOfBoundsException")) (by decide +kernel))
end START
