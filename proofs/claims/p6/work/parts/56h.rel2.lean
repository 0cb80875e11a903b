/-! method by method: copies, changes, the pile, what is asked, dates -/
section RLT
variable {sp dy cr dr pl : Nat → TR} {la re rf : Int32} {pz : Nat}
theorem va_cm {α : Type} {f : Nat → α} {k j : Nat} {v w : α} (h : k ≠ j) : va_up (va_up f k v) j w = va_up (va_up f j w) k v := by
  funext i
  by_cases a : i = j
  · rw [a, va_up_self, va_up_ne _ _ (Ne.symm h), va_up_self]
  · rw [va_up_ne _ _ a]
    by_cases b : i = k
    · rw [b, va_up_self, va_up_self]
    · rw [va_up_ne _ _ b, va_up_ne _ _ b, va_up_ne _ _ a]
theorem two_c (a1 a2 : Int32) : (v_X4_isNone a1 = 0 ∧ v_X4_isNone a2 = 0 ∧ xo (x_X2_cardAt a1) (xo (x_X2_cardAt a2) none) = none ∧ a1.toNatClampNeg < 4 ∧ a2.toNatClampNeg < 4) ∨ ((¬ v_X4_isNone a1 = 0 ∨ (v_X4_isNone a1 = 0 ∧ ¬ v_X4_isNone a2 = 0)) ∧ xo (x_X2_cardAt a1) (xo (x_X2_cardAt a2) none) = some iobN) := by
  rcases ca_cs a1 with ⟨h1, h2, h3⟩ | ⟨h1, h2⟩
  · rcases ca_cs a2 with ⟨g1, g2, g3⟩ | ⟨g1, g2⟩
    · exact Or.inl ⟨h1, g1, by rw [h2, g2]; rfl, h3, g3⟩
    · exact Or.inr ⟨Or.inr ⟨h1, g1⟩, by rw [h2, g2]; rfl⟩
  · exact Or.inr ⟨Or.inl h1, by rw [h2]; rfl⟩
theorem two_n {α : Type} {a1 a2 : Int32} {x y : α} (h : ¬ v_X4_isNone a1 = 0 ∨ (v_X4_isNone a1 = 0 ∧ ¬ v_X4_isNone a2 = 0)) : (if v_X4_isNone a1 = 0 then (if v_X4_isNone a2 = 0 then x else y) else y) = y := by
  rcases h with h | ⟨h, g⟩
  · rw [if_neg h]
  · rw [if_pos h, if_neg g]
theorem cA_some {i : Nat} {t : TR} (hi : i ≠ 12) : v_X2_actOnCard (va_up sp 12 t) re i 1 = cA sp re i (some t) := act_c (v := some t) hi
theorem cD_some {j : Nat} {t : TR} (hj : j ≠ 4) (h1 : okv (dy j)) (h2 : okv t) : v_X2_actOnDate (va_up dy 4 t) re j 1 = cD dy re j (some t) := act_d (v := some t) hj h1 (fun u hu => by rw [← Option.some.inj hu]; exact h2)
theorem rl_copy {a1 a2 : Int32} (hR : Rq sp dy la re cr dr rf pl pz) : RO (x_X2_copy a1 a2) (v_X4_copy cr a1 a2).2.2 (v_X2_copy sp re a1 a2).1 (v_X4_copy cr a1 a2).1 (Rq (v_X2_copy sp re a1 a2).2.1 dy la (v_X2_copy sp re a1 a2).2.2 (v_X4_copy cr a1 a2).2.1 dr rf pl pz) (Rq sp dy la re (v_X4_copy cr a1 a2).2.1 dr rf pl pz) := by
  have hE := hR.1
  rcases two_c a1 a2 with ⟨h1, h2, hx, h3, h4⟩ | ⟨h1, hx⟩
  · refine pa_c3 (t := cr a2.toNatClampNeg) hR h3 hx ?_ ?_
    · unfold v_X2_copy
      rw [pe3, psp_all, hE _ h4]
      exact cA_some (by omega)
    · unfold v_X4_copy
      rw [if_pos h1, if_pos h2, get_m]
      rfl
  · have e : v_X4_copy cr a1 a2 = (0, cr, 1) := by
      unfold v_X4_copy
      exact two_n h1
    rw [e]
    exact RO_no hx xcd_b.symm hR
theorem rl_change {a1 a2 a3 : Int32} (hR : Rq sp dy la re cr dr rf pl pz) : RO (x_X2_change a1 a2) (v_X4_change cr a1 a2 a3).2.2 (v_X2_change sp re a1 a2 a3).1 (v_X4_change cr a1 a2 a3).1 (Rq (v_X2_change sp re a1 a2 a3).2.1 dy la (v_X2_change sp re a1 a2 a3).2.2 (v_X4_change cr a1 a2 a3).2.1 dr rf pl pz) (Rq sp dy la re (v_X4_change cr a1 a2 a3).2.1 dr rf pl pz) := by
  have hE := hR.1
  have l2 : (lN 2) = (2 : Int64) := rfl
  have i3 : (nI (2 + 1)) = (3 : Int32) := rfl
  rcases wh_cs a2 3 2 rfl (by decide) with ⟨g1, g2, k, hk, rfl⟩ | ⟨g1, g2⟩
  · rw [l2] at g1
    rcases ca_cs a1 with ⟨h1, h2, h3⟩ | ⟨h1, h2⟩
    · refine pa_c3 (t := rwu (cr a1.toNatClampNeg) k a3) hR h3 (by unfold x_X2_change; rw [h2, g2]; simp only [xo_n, ite_self]) ?_ ?_
      · rcases (show k = 0 ∨ k = 1 ∨ k = 2 by omega) with rfl | rfl | rfl
        · unfold v_X2_change
          rw [if_pos (show nI 0 = 0 by decide), if_neg (show ¬ nI 0 = 1 by decide), if_neg (show ¬ nI 0 = 2 by decide)]
          rw [pe3, put_eq, span_32, hE _ h3]
          exact act_c (by omega)
        · unfold v_X2_change
          rw [if_neg (show ¬ nI 1 = 0 by decide), if_pos (show nI 1 = 1 by decide), if_neg (show ¬ nI 1 = 2 by decide)]
          rw [pe3, put_eq, span_32, hE _ h3]
          exact act_c (by omega)
        · unfold v_X2_change
          rw [if_neg (show ¬ nI 2 = 0 by decide), if_neg (show ¬ nI 2 = 1 by decide), if_pos (show nI 2 = 2 by decide)]
          rw [pe3, put_eq, span_32, hE _ h3]
          exact act_c (by omega)
      · unfold v_X4_change
        rw [if_neg g1, if_pos h1, get_m, nI_clamp (by omega)]
        rfl
    · have e : v_X4_change cr a1 (nI k) a3 = (0, cr, 1) := by
        unfold v_X4_change
        rw [if_neg g1, if_neg h1]
      rw [e]
      exact RO_no (by unfold x_X2_change; rw [h2]; rfl) xcd_b.symm hR
  · rw [l2] at g1
    rcases ca_cs a1 with ⟨h1, h2, h3⟩ | ⟨h1, h2⟩
    · have e : v_X4_change cr a1 a2 a3 = (0, cr, 2) := by
        unfold v_X4_change
        rw [if_pos g1, if_pos h1]
      rw [e]
      exact RO_no (E := iaeN) (by unfold x_X2_change; rw [h2, g2]; rfl) xcd_a.symm hR
    · have e : v_X4_change cr a1 a2 a3 = (0, cr, 1) := by
        unfold v_X4_change
        rw [if_pos g1, if_neg h1]
      rw [e]
      exact RO_no (by unfold x_X2_change; rw [h2]; rfl) xcd_b.symm hR
theorem rl_swap {a1 a2 : Int32} (hR : Rq sp dy la re cr dr rf pl pz) : RO (x_X2_swap a1 a2) (v_X4_swap cr a1 a2).2.2 (v_X2_swap sp re a1 a2).1 (v_X4_swap cr a1 a2).1 (Rq (v_X2_swap sp re a1 a2).2.1 dy la (v_X2_swap sp re a1 a2).2.2 (v_X4_swap cr a1 a2).2.1 dr rf pl pz) (Rq sp dy la re (v_X4_swap cr a1 a2).2.1 dr rf pl pz) := by
  obtain ⟨hE, b, c, d, e, f, g⟩ := id hR
  rcases two_c a1 a2 with ⟨h1, h2, hx, h3, h4⟩ | ⟨h1, hx⟩
  · have e4 : v_X4_swap cr a1 a2 = (if cr a1.toNatClampNeg = cr a2.toNatClampNeg then 0 else 1, va_up (va_up cr a1.toNatClampNeg (cr a2.toNatClampNeg)) a2.toNatClampNeg (cr a1.toNatClampNeg), 0) := by
      unfold v_X4_swap
      rw [if_pos h1, if_pos h2]
      have eK : v_X4_getK cr a1 (cr a2.toNatClampNeg) = v_X4_get cr a1 (cr a2.toNatClampNeg) := rfl
      rw [eK, get_m, get_m]
    have e2 : v_X2_swap sp re a1 a2 = cA (va_up sp a2.toNatClampNeg (sp a1.toNatClampNeg)) re a1.toNatClampNeg (some (sp a2.toNatClampNeg)) := by
      unfold v_X2_swap
      rw [pe3, psp_all, psp_all, va_up_ne _ _ (show a1.toNatClampNeg ≠ 12 by omega), va_cm (show 12 ≠ a2.toNatClampNeg by omega)]
      exact cA_some (by omega)
    rw [e4, e2]
    have z1 := hE _ h3
    have z2 := hE _ h4
    generalize a1.toNatClampNeg = i at h3 z1 ⊢
    generalize a2.toNatClampNeg = j at h4 z2 ⊢
    have ei : va_up sp j (sp i) i = cr i := by
      by_cases q : i = j
      · rw [q, va_up_self, hE _ h4]
      · rw [va_up_ne _ _ q]; exact z1
    refine RO_ok hx rfl ?_ ?_
    · show (if va_up sp j (sp i) i = sp j then (0 : Int32) else 1) = if cr i = cr j then 0 else 1
      rw [ei, z2]
    · refine ⟨?_, b, c, ?_, e, f, g⟩
      · show E4 (if va_up sp j (sp i) i = sp j then va_up (va_up sp j (sp i)) 12 (sp j) else va_up (va_up (va_up sp j (sp i)) 12 (sp j)) i (sp j)) (va_up (va_up cr i (cr j)) j (cr i))
        rw [ei, z2]
        intro k hk
        by_cases q : cr i = cr j
        · rw [if_pos q, va_up_ne _ _ (by omega)]
          by_cases kj : k = j
          · rw [kj, va_up_self, va_up_self, z1]
          · rw [va_up_ne _ _ kj, va_up_ne _ _ kj]
            by_cases ki : k = i
            · rw [ki, va_up_self, z1]; exact q
            · rw [va_up_ne _ _ ki]; exact hE k hk
        · rw [if_neg q]
          by_cases ki : k = i
          · rw [ki, va_up_self]
            by_cases ij : i = j
            · exact absurd (by rw [ij]) q
            · rw [va_up_ne _ _ ij, va_up_self]
          · rw [va_up_ne _ _ ki, va_up_ne _ _ (by omega)]
            by_cases kj : k = j
            · rw [kj, va_up_self, va_up_self, z1]
            · rw [va_up_ne _ _ kj, va_up_ne _ _ kj, va_up_ne _ _ ki]; exact hE k hk
      · intro k hk
        show (if va_up sp j (sp i) i = sp j then va_up (va_up sp j (sp i)) 12 (sp j) else va_up (va_up (va_up sp j (sp i)) 12 (sp j)) i (sp j)) (4 + k) = pl k
        by_cases q : va_up sp j (sp i) i = sp j
        · rw [if_pos q, va_up_ne _ _ (by omega), va_up_ne _ _ (by omega)]; exact d k hk
        · rw [if_neg q, va_up_ne _ _ (by omega), va_up_ne _ _ (by omega), va_up_ne _ _ (by omega)]; exact d k hk
  · have e : v_X4_swap cr a1 a2 = (0, cr, 1) := by
      unfold v_X4_swap
      exact two_n h1
    rw [e]
    exact RO_no hx xcd_b.symm hR
theorem pz_n {pz : Nat} (h : pz ≤ 9) : Int32.ofNat (pz - 1) = nI (pz - 1) ∧ pz - 1 ≤ 8 := ⟨rfl, by omega⟩
theorem rl_lay {a1 mc : Int32} (hR : Rq sp dy la re cr dr rf pl pz) : RO (x_X2_lay la a1) (v_X4_lay cr rf pl pz mc a1).2.1 (v_X2_lay sp la re a1).1 (v_X4_lay cr rf pl pz mc a1).1 (Rq (v_X2_lay sp la re a1).2.1 dy (v_X2_lay sp la re a1).2.2.1 (v_X2_lay sp la re a1).2.2.2 cr dr (v_X4_lay cr rf pl pz mc a1).2.2.1 (v_X4_lay cr rf pl pz mc a1).2.2.2.1 (v_X4_lay cr rf pl pz mc a1).2.2.2.2.1) (Rq sp dy la re cr dr (v_X4_lay cr rf pl pz mc a1).2.2.1 (v_X4_lay cr rf pl pz mc a1).2.2.2.1 (v_X4_lay cr rf pl pz mc a1).2.2.2.2.1) := by
  obtain ⟨hE, b, c, d, e, f, g⟩ := id hR
  have hla : la = nI (pz - 1) := c
  rcases ca_cs a1 with ⟨h1, h2, h3⟩ | ⟨h1, h2⟩
  · by_cases q : pz = 9
    · have q8 : la = 8 := by rw [hla, q]; rfl
      have e4 : v_X4_lay cr rf pl pz mc a1 = (-9, 0, rf + 1, pl, pz, mc) := by
        unfold v_X4_lay
        rw [if_pos h1, if_pos (show Int32.ofNat (pz - 1) = 8 by rw [q]; rfl)]; rfl
      have e2 : v_X2_lay sp la re a1 = (-9, sp, la, re + 1) := by
        unfold v_X2_lay
        rw [if_neg (show ¬ la < 8 by rw [q8]; decide)]; rfl
      rw [e4, e2]
      refine RO_ok (by unfold x_X2_lay; rw [h2]; simp only [xo_n, ite_self]) rfl rfl ⟨hE, b, c, d, by show re + 1 = rf + 1; rw [e], f, g⟩
    · have q8 : la < 8 := by rw [hla]; exact nI_lt (b := 8) (by omega) (by decide)
      have e2 : v_X2_lay sp la re a1 = (la + 1, va_up sp (4 + (pz - 1)) (sp a1.toNatClampNeg), la + 1, re) := by
        unfold v_X2_lay
        rw [if_pos q8, psp_all, hla, nI_clamp (by omega)]
      have e4 : v_X4_lay cr rf pl pz mc a1 = (la + 1, 0, rf, va_up pl (pz - 1) (cr a1.toNatClampNeg), if pz = 0 then 2 else pz + 1, mc + 1) := by
        unfold v_X4_lay
        rw [if_pos h1, if_neg (show ¬ Int32.ofNat (pz - 1) = 8 from fun z => by
          have := (nI_eq (a := pz - 1) (b := 8) (by omega) (by omega)).mp z
          omega)]
        by_cases z : pz = 0
        · rw [if_pos z, if_pos z, hla, z]; rfl
        · rw [if_neg z, if_neg z, hla, nI_1]
          have : pz + 1 - 1 = pz - 1 + 1 := by omega
          rw [this]; rfl
      rw [e4, e2]
      refine RO_ok (by unfold x_X2_lay; rw [h2]; simp only [xo_n, ite_self]) rfl rfl ⟨fun j hj => ?_, b, ?_, fun k hk => ?_, e, ?_, g⟩
      · show va_up sp (4 + (pz - 1)) (sp a1.toNatClampNeg) j = cr j
        rw [va_up_ne _ _ (by omega)]; exact hE j hj
      · show la + 1 = Int32.ofNat ((if pz = 0 then 2 else pz + 1) - 1)
        by_cases z : pz = 0
        · rw [if_pos z, hla, z]; rfl
        · rw [if_neg z, hla, nI_1]
          have : pz + 1 - 1 = pz - 1 + 1 := by omega
          rw [this]; rfl
      · show va_up sp (4 + (pz - 1)) (sp a1.toNatClampNeg) (4 + k) = va_up pl (pz - 1) (cr a1.toNatClampNeg) k
        have hk : k + 1 < if pz = 0 then 2 else pz + 1 := hk
        have hk2 : k ≤ pz - 1 := by
          by_cases z : pz = 0
          · rw [if_pos z] at hk; omega
          · rw [if_neg z] at hk; omega
        by_cases z : k = pz - 1
        · rw [z, va_up_self, va_up_self]; exact hE _ h3
        · rw [va_up_ne _ _ (by omega), va_up_ne _ _ z]; exact d k (by omega)
      · show (if pz = 0 then 2 else pz + 1) ≤ 9
        by_cases z : pz = 0
        · rw [if_pos z]; omega
        · rw [if_neg z]; omega
  · have e4 : v_X4_lay cr rf pl pz mc a1 = (0, 1, rf, pl, pz, mc) := by
      unfold v_X4_lay
      rw [if_neg h1]
    rw [e4]
    exact RO_no (E := iobN) (by unfold x_X2_lay; rw [h2]; rfl) xcd_b.symm hR
theorem rl_take {a1 mc : Int32} (hR : Rq sp dy la re cr dr rf pl pz) : RO (x_X2_take la a1) (v_X4_take cr rf pl pz mc a1).2.2.1 (v_X2_take sp la re a1).1 (v_X4_take cr rf pl pz mc a1).1 (Rq (v_X2_take sp la re a1).2.1 dy (v_X2_take sp la re a1).2.2.1 (v_X2_take sp la re a1).2.2.2 (v_X4_take cr rf pl pz mc a1).2.1 dr (v_X4_take cr rf pl pz mc a1).2.2.2.1 pl (v_X4_take cr rf pl pz mc a1).2.2.2.2.1) (Rq sp dy la re (v_X4_take cr rf pl pz mc a1).2.1 dr (v_X4_take cr rf pl pz mc a1).2.2.2.1 pl (v_X4_take cr rf pl pz mc a1).2.2.2.2.1) := by
  obtain ⟨hE, b, c, d, e, f, g⟩ := id hR
  have hla : la = nI (pz - 1) := c
  rcases ca_cs a1 with ⟨h1, h2, h3⟩ | ⟨h1, h2⟩
  · by_cases q : pz - 1 = 0
    · have q8 : la = 0 := by rw [hla, q]; rfl
      have e4 : v_X4_take cr rf pl pz mc a1 = (-9, cr, 0, rf + 1, pz, mc) := by
        unfold v_X4_take
        rw [if_pos h1, if_pos (show Int32.ofNat (pz - 1) = 0 by rw [q]; rfl), if_neg (by decide)]; rfl
      have e2 : v_X2_take sp la re a1 = (-9, sp, la, re + 1) := by
        unfold v_X2_take
        rw [if_neg (show ¬ 1 ≤ la by rw [q8]; decide)]; rfl
      rw [e4, e2]
      exact RO_ok (by unfold x_X2_take; rw [h2]; simp only [xo_n, ite_self]) rfl rfl ⟨hE, b, c, d, by show re + 1 = rf + 1; rw [e], f, g⟩
    · have q8 : 1 ≤ la := by rw [hla]; exact nI_le (a := 1) (by omega) (by omega)
      obtain ⟨m, hm⟩ : ∃ m : Nat, pz - 1 = m + 1 := ⟨pz - 1 - 1, by omega⟩
      have el : la - 1 = nI m := by rw [hla, hm]; exact nI_pred m
      have e2 : v_X2_take sp la re a1 = (nI m, va_up sp a1.toNatClampNeg (sp (4 + m)), nI m, re) := by
        unfold v_X2_take
        rw [if_pos q8, psp_all, el, nI_clamp (by omega)]
      have e4 : v_X4_take cr rf pl pz mc a1 = (nI m, va_up cr a1.toNatClampNeg (pl m), 0, rf, pz - 1, mc + 1) := by
        unfold v_X4_take
        rw [if_pos h1, if_neg (show ¬ Int32.ofNat (pz - 1) = 0 from fun z => by
          have := (nI_eq (a := pz - 1) (b := 0) (by omega) (by omega)).mp z
          omega), if_pos rfl, get_m]
        have : pz - 1 - 1 = m := by omega
        rw [this]; rfl
      rw [e4, e2]
      have em := d m (by omega)
      refine RO_ok (by unfold x_X2_take; rw [h2]; simp only [xo_n, ite_self]) rfl rfl ⟨?_, b, ?_, fun k hk => ?_, e, ?_, g⟩
      · show E4 (va_up sp a1.toNatClampNeg (sp (4 + m))) (va_up cr a1.toNatClampNeg (pl m))
        rw [em]
        exact E4_up hE
      · show nI m = Int32.ofNat (pz - 1 - 1)
        have : pz - 1 - 1 = m := by omega
        rw [this]; rfl
      · show va_up sp a1.toNatClampNeg (sp (4 + m)) (4 + k) = pl k
        have hk : k + 1 < pz - 1 := hk
        rw [va_up_ne _ _ (by omega)]; exact d k (by omega)
      · show pz - 1 ≤ 9
        omega
  · have e4 : v_X4_take cr rf pl pz mc a1 = (0, cr, 1, rf, pz, mc) := by
      unfold v_X4_take
      rw [if_neg h1]
    rw [e4]
    exact RO_no (E := iobN) (by unfold x_X2_take; rw [h2]; rfl) xcd_b.symm hR
/-- the sum's loops: the class's running sum is in the scratch span -/
theorem sum_w {a1 : Int32} (hi : a1.toNatClampNeg < 4) (hP : ∀ k, k + 1 < pz → sp (4 + k) = pl k) (hz : pz ≤ 9) : ∀ (n m : Nat) (t : TR), pz - 1 - m < n → m ≤ pz - 1 →
    ∃ (sp' : Nat → TR) (v : Option TR), (∀ j, j < 12 → sp' j = sp j) ∧ wX2_sum_20 (nI (pz - 1)) re a1 n (nI m) 1 (va_up sp 12 t) = cA sp' re a1.toNatClampNeg v ∧ wX4_sum__20 cr rf pl pz a1 n (nI m) t = m4 (mA cr rf a1.toNatClampNeg v) := by
  intro n
  induction n with
  | zero => intro m t h; omega
  | succ n ih =>
    intro m t hn hm
    have eo : Int32.ofNat (pz - 1) = nI (pz - 1) := rfl
    rw [wX2_sum_20, wX4_sum__20, eo]
    by_cases c : nI (pz - 1) ≤ nI m
    · rw [if_pos c, if_pos c]
      refine ⟨sp, some t, fun _ _ => rfl, cA_some (by omega), ?_⟩
      show ((v_X4_get cr a1 t).1, (v_X4_get cr a1 t).2, 0, rf) = _
      rw [get_m]; rfl
    · rw [if_neg c, if_neg c, if_neg (show ¬ (1 : Int32) = 0 by decide)]
      have c2 : ¬ pz - 1 ≤ m := fun q => c ((nI_leI (by omega) (by omega)).mpr q)
      have e12 : va_up sp 12 t 12 = t := va_up_self _ _ _
      have ek : va_up sp 12 t (4 + m) = pl m := by
        rw [va_up_ne _ _ (by omega)]; exact hP m (by omega)
      rw [psum_eq, nI_clamp (by omega), e12, ek]
      cases e : v_X4_sum t 1 (pl m) with
      | none =>
        refine ⟨va_up sp 12 t, none, fun j hj => va_up_ne _ _ (by omega), ?_, ?_⟩
        · show wX2_sum_20 (nI (pz - 1)) re a1 n (nI m + 1) 0 (va_up sp 12 t) = _
          cases n with
          | zero => omega
          | succ n =>
            rw [wX2_sum_20]
            by_cases d : nI (pz - 1) ≤ nI m + 1
            · rw [if_pos d]; rfl
            · rw [if_neg d, if_pos rfl]; rfl
        · show (if nI (pz - 1) ≤ nI m + 1 then ((v_X4_getN rf).1, cr, (0 : Int32), (v_X4_getN rf).2) else ((v_X4_getN rf).1, cr, 0, (v_X4_getN rf).2)) = _
          by_cases d : nI (pz - 1) ≤ nI m + 1
          · rw [if_pos d]; rfl
          · rw [if_neg d]; rfl
      | some u =>
        have h := ih (m + 1) u (by omega) (by omega)
        rw [← nI_1] at h
        obtain ⟨sp', v, h1, h2, h3⟩ := h
        refine ⟨sp', v, h1, ?_, h3⟩
        show wX2_sum_20 (nI (pz - 1)) re a1 n (nI m + 1) 1 (va_up (va_up sp 12 t) 12 u) = _
        rw [bx_uu]
        exact h2
theorem rl_sum {a1 : Int32} (hR : Rq sp dy la re cr dr rf pl pz) : RO (x_X2_sum a1) (v_X4_sum_ cr rf pl pz a1).2.2.1 (v_X2_sum sp la re a1).1 (v_X4_sum_ cr rf pl pz a1).1 (Rq (v_X2_sum sp la re a1).2.1 dy la (v_X2_sum sp la re a1).2.2 (v_X4_sum_ cr rf pl pz a1).2.1 dr (v_X4_sum_ cr rf pl pz a1).2.2.2 pl pz) (Rq sp dy la re (v_X4_sum_ cr rf pl pz a1).2.1 dr (v_X4_sum_ cr rf pl pz a1).2.2.2 pl pz) := by
  obtain ⟨hE, b, c, d, e, f, g⟩ := id hR
  have hla : la = nI (pz - 1) := c
  rcases ca_cs a1 with ⟨h1, h2, h3⟩ | ⟨h1, h2⟩
  · have e0 : (0 : Int32).toInt = 0 := rfl
    have ef : ((nI (pz - 1)).toInt - (0 : Int32).toInt).toNat + 1 = pz - 1 + 1 := by rw [e0, nI_toInt (by omega)]; omega
    obtain ⟨sp', v, k1, k2, k3⟩ := sum_w (sp := sp) (cr := cr) (re := re) (rf := rf) h3 d f (pz - 1 + 1) 0 (0, 0, 0) (by omega) (by omega)
    have e2 : v_X2_sum sp la re a1 = cA sp' re a1.toNatClampNeg v := by
      unfold v_X2_sum
      rw [hla, ef]
      have ep : v_X1_put sp 12 0 0 0 = (1, va_up sp 12 (0, 0, 0)) := by
        rw [put_eq]
        have : v_X4_span 0 0 0 = some (0, 0, 0) := span_32 0 0 0
        rw [this]; rfl
      rw [ep]
      exact k2
    have e4 : v_X4_sum_ cr rf pl pz a1 = m4 (mA cr rf a1.toNatClampNeg v) := by
      unfold v_X4_sum_
      have eo : Int32.ofNat (pz - 1) = nI (pz - 1) := rfl
      rw [if_pos h1, eo, ef]
      exact k3
    have hR' := RL_far hR k1 (fun j _ => rfl)
    exact pa_c hR' h3 (by unfold x_X2_sum; rw [h2]; rfl) e2 e4
  · have e4 : v_X4_sum_ cr rf pl pz a1 = (0, cr, 1, rf) := by
      unfold v_X4_sum_
      rw [if_neg h1]
    rw [e4]
    exact RO_no (E := iobN) (by unfold x_X2_sum; rw [h2]; rfl) xcd_b.symm hR
/-! what is asked -/
theorem rl_part {a1 a2 : Int32} (hR : Rq sp dy la re cr dr rf pl pz) : RO (x_X2_part a1 a2) (v_X4_part cr a1 a2).2 (v_X2_part sp a1 a2) (v_X4_part cr a1 a2).1 True True := by
  have hE := hR.1
  have l2 : (lN 2) = (2 : Int64) := rfl
  rcases wh_cs a2 3 2 rfl (by decide) with ⟨g1, g2, k, hk, rfl⟩ | ⟨g1, g2⟩
  · rw [l2] at g1
    rcases ca_cs a1 with ⟨h1, h2, h3⟩ | ⟨h1, h2⟩
    · have e : v_X4_part cr a1 (nI k) = (rw3 (cr a1.toNatClampNeg) k, 0) := by
        unfold v_X4_part
        rw [if_neg g1, if_pos h1, nI_clamp (by omega)]
      rw [e]
      refine RO_ok (by unfold x_X2_part; rw [h2, g2]; rfl) rfl ?_ trivial
      unfold v_X2_part v_X1_number rw3
      rw [hE _ h3]
      rcases (show k = 0 ∨ k = 1 ∨ k = 2 by omega) with rfl | rfl | rfl
      · rw [if_pos (show nI 0 = 0 by decide)]; rfl
      · rw [if_neg (show ¬ nI 1 = 0 by decide), if_pos (show nI 1 = 1 by decide)]; rfl
      · rw [if_neg (show ¬ nI 2 = 0 by decide), if_neg (show ¬ nI 2 = 1 by decide)]; rfl
    · have e : v_X4_part cr a1 (nI k) = (0, 1) := by
        unfold v_X4_part
        rw [if_neg g1, if_neg h1]
      rw [e]
      exact RO_no (by unfold x_X2_part; rw [h2]; rfl) xcd_b.symm trivial
  · rw [l2] at g1
    rcases ca_cs a1 with ⟨h1, h2, h3⟩ | ⟨h1, h2⟩
    · have e : v_X4_part cr a1 a2 = (0, 2) := by
        unfold v_X4_part
        rw [if_pos g1, if_pos h1]
      rw [e]
      exact RO_no (E := iaeN) (by unfold x_X2_part; rw [h2, g2]; rfl) xcd_a.symm trivial
    · have e : v_X4_part cr a1 a2 = (0, 1) := by
        unfold v_X4_part
        rw [if_pos g1, if_neg h1]
      rw [e]
      exact RO_no (by unfold x_X2_part; rw [h2]; rfl) xcd_b.symm trivial
theorem zer_eq {i : Nat} (h : sp i = cr i) : v_X1_isNothing sp i = v_X4_isSame (cr i) v_X4_nothing := by
  unfold v_X1_isNothing v_X4_isSame v_X4_nothing
  rw [h]
theorem b01 (x : Int32) (h : x = 0 ∨ x = 1) : (if x = 0 then ((0 : Int32), (0 : Int32)) else (1, 0)) = (x, 0) := by
  rcases h with rfl | rfl <;> rfl
theorem if01 {c : Prop} [Decidable c] : (if c then (1 : Int32) else 0) = 0 ∨ (if c then (1 : Int32) else 0) = 1 := by
  by_cases h : c
  · rw [if_pos h]; exact Or.inr rfl
  · rw [if_neg h]; exact Or.inl rfl
theorem same01 (a b : TR) : v_X4_isSame a b = 0 ∨ v_X4_isSame a b = 1 := by rw [same_eq]; exact if01
theorem neg01 (i : Int32) : v_X4_isNegativeNow cr i = 0 ∨ v_X4_isNegativeNow cr i = 1 := by
  unfold v_X4_isNegativeNow
  by_cases h1 : (cr i.toNatClampNeg).1 < 0
  · rw [if_pos h1]; exact Or.inr rfl
  · rw [if_neg h1]
    by_cases h2 : (cr i.toNatClampNeg).2.1 < 0
    · rw [if_pos h2]; exact Or.inr rfl
    · rw [if_neg h2]
      by_cases h3 : 0 ≤ (cr i.toNatClampNeg).2.2
      · rw [if_pos h3]; exact Or.inl rfl
      · rw [if_neg h3]; exact Or.inr rfl
theorem alike01 (a b : TR) : v_X4_isAlike a b = 0 ∨ v_X4_isAlike a b = 1 := by
  unfold v_X4_isAlike
  by_cases h1 : lg_cmp (v_X4_total a) (v_X4_total b) = 0
  · rw [if_pos h1]; exact if01
  · rw [if_neg h1]; exact Or.inl rfl
theorem neg_eq {i : Int32} (h : sp i.toNatClampNeg = cr i.toNatClampNeg) : v_X1_isBelowZero sp i.toNatClampNeg = v_X4_isNegativeNow cr i := by
  unfold v_X1_isBelowZero v_X4_isNegativeNow
  rw [h]
theorem sam_eq {i j : Nat} (h : sp i = cr i) (g : sp j = cr j) : v_X1_isSameAs sp i j = v_X4_isSame (cr i) (cr j) := by
  unfold v_X1_isSameAs v_X4_isSame
  rw [h, g]
theorem ali_eq {i j : Nat} (h : sp i = cr i) (g : sp j = cr j) : v_X1_isAlikeTo sp i j = v_X4_isAlike (cr i) (cr j) := by
  unfold v_X1_isAlikeTo v_X4_isAlike
  rw [all_tot, all_tot, h, g]
theorem rl_isZero {a1 : Int32} (hR : Rq sp dy la re cr dr rf pl pz) : RO (x_X2_isZero a1) (v_X4_isZero cr a1).2 (v_X2_isZero sp a1) (v_X4_isZero cr a1).1 True True := by
  have hE := hR.1
  rcases ca_cs a1 with ⟨h1, h2, h3⟩ | ⟨h1, h2⟩
  · have e : v_X4_isZero cr a1 = (v_X4_isSame (cr a1.toNatClampNeg) v_X4_nothing, 0) := by
      unfold v_X4_isZero v_X4_isZeroNow
      rw [if_pos h1]
      exact b01 _ (same01 _ _)
    rw [e]
    exact RO_ok (by unfold x_X2_isZero; rw [h2]; rfl) rfl (zer_eq (hE _ h3)) trivial
  · have e : v_X4_isZero cr a1 = (0, 1) := by
      unfold v_X4_isZero
      rw [if_neg h1]
    rw [e]
    exact RO_no (by unfold x_X2_isZero; rw [h2]; rfl) xcd_b.symm trivial
theorem rl_isNegative {a1 : Int32} (hR : Rq sp dy la re cr dr rf pl pz) : RO (x_X2_isNegative a1) (v_X4_isNegative cr a1).2 (v_X2_isNegative sp a1) (v_X4_isNegative cr a1).1 True True := by
  have hE := hR.1
  rcases ca_cs a1 with ⟨h1, h2, h3⟩ | ⟨h1, h2⟩
  · have e : v_X4_isNegative cr a1 = (v_X4_isNegativeNow cr a1, 0) := by
      unfold v_X4_isNegative
      rw [if_pos h1]
      exact b01 _ (neg01 _)
    rw [e]
    exact RO_ok (by unfold x_X2_isNegative; rw [h2]; rfl) rfl (neg_eq (hE _ h3)) trivial
  · have e : v_X4_isNegative cr a1 = (0, 1) := by
      unfold v_X4_isNegative
      rw [if_neg h1]
    rw [e]
    exact RO_no (by unfold x_X2_isNegative; rw [h2]; rfl) xcd_b.symm trivial
theorem rl_areSame {a1 a2 : Int32} (hR : Rq sp dy la re cr dr rf pl pz) : RO (x_X2_areSame a1 a2) (v_X4_areSame cr a1 a2).2 (v_X2_areSame sp a1 a2) (v_X4_areSame cr a1 a2).1 True True := by
  have hE := hR.1
  rcases two_c a1 a2 with ⟨h1, h2, hx, h3, h4⟩ | ⟨h1, hx⟩
  · have e : v_X4_areSame cr a1 a2 = (v_X4_isSame (cr a1.toNatClampNeg) (cr a2.toNatClampNeg), 0) := by
      unfold v_X4_areSame
      rw [if_pos h1, if_pos h2]
      exact b01 _ (same01 _ _)
    rw [e]
    exact RO_ok hx rfl (sam_eq (hE _ h3) (hE _ h4)) trivial
  · have e : v_X4_areSame cr a1 a2 = (0, 1) := by
      unfold v_X4_areSame
      exact two_n h1
    rw [e]
    exact RO_no hx xcd_b.symm trivial
theorem rl_areAlike {a1 a2 : Int32} (hR : Rq sp dy la re cr dr rf pl pz) : RO (x_X2_areAlike a1 a2) (v_X4_areAlike cr a1 a2).2 (v_X2_areAlike sp a1 a2) (v_X4_areAlike cr a1 a2).1 True True := by
  have hE := hR.1
  rcases two_c a1 a2 with ⟨h1, h2, hx, h3, h4⟩ | ⟨h1, hx⟩
  · have e : v_X4_areAlike cr a1 a2 = (v_X4_isAlike (cr a1.toNatClampNeg) (cr a2.toNatClampNeg), 0) := by
      unfold v_X4_areAlike
      rw [if_pos h1, if_pos h2]
      exact b01 _ (alike01 _ _)
    rw [e]
    exact RO_ok hx rfl (ali_eq (hE _ h3) (hE _ h4)) trivial
  · have e : v_X4_areAlike cr a1 a2 = (0, 1) := by
      unfold v_X4_areAlike
      exact two_n h1
    rw [e]
    exact RO_no hx xcd_b.symm trivial
end RLT
