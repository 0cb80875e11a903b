section
/-! method by method: copies, changes, the pile, what is asked, dates -/
section RLT
variable {sp dy cr dr pl : Nat → TR} {la re rf : Int32} {pz : Nat}
theorem va_cm {α : Type} {f : Nat → α} {k j : Nat} {v w : α} (h : k ≠ j) : va_up (va_up f k v) j w = va_up (va_up f j w) k v := by
  funext i
  by_cases a : i = j
  · rw [a, va_up_self, va_up_ne _ _ (Ne.symm h), va_up_self]
  · rw [va_up_ne _ _ a]
    by_cases b : i = k
    · rw [b, va_up_self, va_up_self]
    · rw [va_up_ne _ _ b, va_up_ne _ _ b, va_up_ne _ _ a]
theorem two_c (a1 a2 : Int32) : (v_X4_isNone a1 = 0 ∧ v_X4_isNone a2 = 0 ∧ xo (x_X2_cardAt a1) (xo (x_X2_cardAt a2) none) = none ∧ a1.toNatClampNeg < 4 ∧ a2.toNatClampNeg < 4) ∨ ((¬ v_X4_isNone a1 = 0 ∨ (v_X4_isNone a1 = 0 ∧ ¬ v_X4_isNone a2 = 0)) ∧ xo (x_X2_cardAt a1) (xo (x_X2_cardAt a2) none) = some iobN) := by
  rcases ca_cs a1 with ⟨h1, h2, h3⟩ | ⟨h1, h2⟩
  · rcases ca_cs a2 with ⟨g1, g2, g3⟩ | ⟨g1, g2⟩
    · exact Or.inl ⟨h1, g1, by rw [h2, g2]; rfl, h3, g3⟩
    · exact Or.inr ⟨Or.inr ⟨h1, g1⟩, by rw [h2, g2]; rfl⟩
  · exact Or.inr ⟨Or.inl h1, by rw [h2]; rfl⟩
theorem two_n {α : Type} {a1 a2 : Int32} {x y : α} (h : ¬ v_X4_isNone a1 = 0 ∨ (v_X4_isNone a1 = 0 ∧ ¬ v_X4_isNone a2 = 0)) : (if v_X4_isNone a1 = 0 then (if v_X4_isNone a2 = 0 then x else y) else y) = y := by
  rcases h with h | ⟨h, g⟩
  · rw [if_neg h]
  · rw [if_pos h, if_neg g]
theorem cA_some {i : Nat} {t : TR} (hi : i ≠ 12) : v_X2_actOnCard (va_up sp 12 t) re i 1 = cA sp re i (some t) := act_c (v := some t) hi
theorem cD_some {j : Nat} {t : TR} (hj : j ≠ 4) (h1 : okv (dy j)) (h2 : okv t) : v_X2_actOnDate (va_up dy 4 t) re j 1 = cD dy re j (some t) := act_d (v := some t) hj h1 (fun u hu => by rw [← Option.some.inj hu]; exact h2)
theorem rl_copy {a1 a2 : Int32} (hR : Rq sp dy la re cr dr rf pl pz) : RO (x_X2_copy a1 a2) (v_X4_copy cr a1 a2).2.2 (v_X2_copy sp re a1 a2).1 (v_X4_copy cr a1 a2).1 (Rq (v_X2_copy sp re a1 a2).2.1 dy la (v_X2_copy sp re a1 a2).2.2 (v_X4_copy cr a1 a2).2.1 dr rf pl pz) (Rq sp dy la re (v_X4_copy cr a1 a2).2.1 dr rf pl pz) := by
  have hE := hR.1
  rcases two_c a1 a2 with ⟨h1, h2, hx, h3, h4⟩ | ⟨h1, hx⟩
  · refine pa_c3 (t := cr a2.toNatClampNeg) hR h3 hx ?_ ?_
    · unfold v_X2_copy
      rw [pe3, psp_all, hE _ h4]
      exact cA_some (by omega)
    · unfold v_X4_copy
      rw [if_pos h1, if_pos h2, get_m]
      rfl
  · have e : v_X4_copy cr a1 a2 = (0, cr, 1) := by
      unfold v_X4_copy
      exact two_n h1
    rw [e]
    exact RO_no hx xcd_b.symm hR
theorem rl_change {a1 a2 a3 : Int32} (hR : Rq sp dy la re cr dr rf pl pz) : RO (x_X2_change a1 a2) (v_X4_change cr a1 a2 a3).2.2 (v_X2_change sp re a1 a2 a3).1 (v_X4_change cr a1 a2 a3).1 (Rq (v_X2_change sp re a1 a2 a3).2.1 dy la (v_X2_change sp re a1 a2 a3).2.2 (v_X4_change cr a1 a2 a3).2.1 dr rf pl pz) (Rq sp dy la re (v_X4_change cr a1 a2 a3).2.1 dr rf pl pz) := by
  have hE := hR.1
  have l2 : (lN 2) = (2 : Int64) := rfl
  have i3 : (nI (2 + 1)) = (3 : Int32) := rfl
  rcases wh_cs a2 3 2 rfl (by decide) with ⟨g1, g2, k, hk, rfl⟩ | ⟨g1, g2⟩
  · rw [l2] at g1
    rcases ca_cs a1 with ⟨h1, h2, h3⟩ | ⟨h1, h2⟩
    · refine pa_c3 (t := rwu (cr a1.toNatClampNeg) k a3) hR h3 (by unfold x_X2_change; rw [h2, g2]; simp only [xo_n, ite_self]) ?_ ?_
      · rcases (show k = 0 ∨ k = 1 ∨ k = 2 by omega) with rfl | rfl | rfl
        · unfold v_X2_change
          rw [if_pos (show nI 0 = 0 by decide), if_neg (show ¬ nI 0 = 1 by decide), if_neg (show ¬ nI 0 = 2 by decide)]
          rw [pe3, put_eq, span_32, hE _ h3]
          exact act_c (by omega)
        · unfold v_X2_change
          rw [if_neg (show ¬ nI 1 = 0 by decide), if_pos (show nI 1 = 1 by decide), if_neg (show ¬ nI 1 = 2 by decide)]
          rw [pe3, put_eq, span_32, hE _ h3]
          exact act_c (by omega)
        · unfold v_X2_change
          rw [if_neg (show ¬ nI 2 = 0 by decide), if_neg (show ¬ nI 2 = 1 by decide), if_pos (show nI 2 = 2 by decide)]
          rw [pe3, put_eq, span_32, hE _ h3]
          exact act_c (by omega)
      · unfold v_X4_change
        rw [if_neg g1, if_pos h1, get_m, nI_clamp (by omega)]
        rfl
    · have e : v_X4_change cr a1 (nI k) a3 = (0, cr, 1) := by
        unfold v_X4_change
        rw [if_neg g1, if_neg h1]
      rw [e]
      exact RO_no (by unfold x_X2_change; rw [h2]; rfl) xcd_b.symm hR
  · rw [l2] at g1
    rcases ca_cs a1 with ⟨h1, h2, h3⟩ | ⟨h1, h2⟩
    · have e : v_X4_change cr a1 a2 a3 = (0, cr, 2) := by
        unfold v_X4_change
        rw [if_pos g1, if_pos h1]
      rw [e]
      exact RO_no (E := iaeN) (by unfold x_X2_change; rw [h2, g2]; rfl) xcd_a.symm hR
    · have e : v_X4_change cr a1 a2 a3 = (0, cr, 1) := by
        unfold v_X4_change
        rw [if_pos g1, if_neg h1]
      rw [e]
      exact RO_no (by unfold x_X2_change; rw [h2]; rfl) xcd_b.symm hR
theorem rl_swap {a1 a2 : Int32} (hR : Rq sp dy la re cr dr rf pl pz) : RO (x_X2_swap a1 a2) (v_X4_swap cr a1 a2).2.2 (v_X2_swap sp re a1 a2).1 (v_X4_swap cr a1 a2).1 (Rq (v_X2_swap sp re a1 a2).2.1 dy la (v_X2_swap sp re a1 a2).2.2 (v_X4_swap cr a1 a2).2.1 dr rf pl pz) (Rq sp dy la re (v_X4_swap cr a1 a2).2.1 dr rf pl pz) := by
  obtain ⟨hE, b, c, d, e, f, g⟩ := id hR
  rcases two_c a1 a2 with ⟨h1, h2, hx, h3, h4⟩ | ⟨h1, hx⟩
  · have e4 : v_X4_swap cr a1 a2 = (if cr a1.toNatClampNeg = cr a2.toNatClampNeg then 0 else 1, va_up (va_up cr a1.toNatClampNeg (cr a2.toNatClampNeg)) a2.toNatClampNeg (cr a1.toNatClampNeg), 0) := by
      unfold v_X4_swap
      rw [if_pos h1, if_pos h2]
      have eK : v_X4_getK cr a1 (cr a2.toNatClampNeg) = v_X4_get cr a1 (cr a2.toNatClampNeg) := rfl
      rw [eK, get_m, get_m]
    have e2 : v_X2_swap sp re a1 a2 = cA (va_up sp a2.toNatClampNeg (sp a1.toNatClampNeg)) re a1.toNatClampNeg (some (sp a2.toNatClampNeg)) := by
      unfold v_X2_swap
      rw [pe3, psp_all, psp_all, va_up_ne _ _ (show a1.toNatClampNeg ≠ 12 by omega), va_cm (show 12 ≠ a2.toNatClampNeg by omega)]
      exact cA_some (by omega)
    rw [e4, e2]
    have z1 := hE _ h3
    have z2 := hE _ h4
    generalize a1.toNatClampNeg = i at h3 z1 ⊢
    generalize a2.toNatClampNeg = j at h4 z2 ⊢
    have ei : va_up sp j (sp i) i = cr i := by
      by_cases q : i = j
      · rw [q, va_up_self, hE _ h4]
      · rw [va_up_ne _ _ q]; exact z1
    refine RO_ok hx rfl ?_ ?_
    · show (if va_up sp j (sp i) i = sp j then (0 : Int32) else 1) = if cr i = cr j then 0 else 1
      rw [ei, z2]
    · refine ⟨?_, b, c, ?_, e, f, g⟩
      · show E4 (if va_up sp j (sp i) i = sp j then va_up (va_up sp j (sp i)) 12 (sp j) else va_up (va_up (va_up sp j (sp i)) 12 (sp j)) i (sp j)) (va_up (va_up cr i (cr j)) j (cr i))
        rw [ei, z2]
        intro k hk
        by_cases q : cr i = cr j
        · rw [if_pos q, va_up_ne _ _ (by omega)]
          by_cases kj : k = j
          · rw [kj, va_up_self, va_up_self, z1]
          · rw [va_up_ne _ _ kj, va_up_ne _ _ kj]
            by_cases ki : k = i
            · rw [ki, va_up_self, z1]; exact q
            · rw [va_up_ne _ _ ki]; exact hE k hk
        · rw [if_neg q]
          by_cases ki : k = i
          · rw [ki, va_up_self]
            by_cases ij : i = j
            · exact absurd (by rw [ij]) q
            · rw [va_up_ne _ _ ij, va_up_self]
          · rw [va_up_ne _ _ ki, va_up_ne _ _ (by omega)]
            by_cases kj : k = j
            · rw [kj, va_up_self, va_up_self, z1]
            · rw [va_up_ne _ _ kj, va_up_ne _ _ kj, va_up_ne _ _ ki]; exact hE k hk
      · intro k hk
        show (if va_up sp j (sp i) i = sp j then va_up (va_up sp j (sp i)) 12 (sp j) else va_up (va_up (va_up sp j (sp i)) 12 (sp j)) i (sp j)) (4 + k) = pl k
        by_cases q : va_up sp j (sp i) i = sp j
        · rw [if_pos q, va_up_ne _ _ (by omega), va_up_ne _ _ (by omega)]; exact d k hk
        · rw [if_neg q, va_up_ne _ _ (by omega), va_up_ne _ _ (by omega), va_up_ne _ _ (by omega)]; exact d k hk
  · have e : v_X4_swap cr a1 a2 = (0, cr, 1) := by
      unfold v_X4_swap
      exact two_n h1
    rw [e]
    exact RO_no hx xcd_b.symm hR
theorem pz_n {pz : Nat} (h : pz ≤ 9) : Int32.ofNat (pz - 1) = nI (pz - 1) ∧ pz - 1 ≤ 8 := ⟨rfl, by omega⟩
theorem rl_lay {a1 mc : Int32} (hR : Rq sp dy la re cr dr rf pl pz) : RO (x_X2_lay la a1) (v_X4_lay cr rf pl pz mc a1).2.1 (v_X2_lay sp la re a1).1 (v_X4_lay cr rf pl pz mc a1).1 (Rq (v_X2_lay sp la re a1).2.1 dy (v_X2_lay sp la re a1).2.2.1 (v_X2_lay sp la re a1).2.2.2 cr dr (v_X4_lay cr rf pl pz mc a1).2.2.1 (v_X4_lay cr rf pl pz mc a1).2.2.2.1 (v_X4_lay cr rf pl pz mc a1).2.2.2.2.1) (Rq sp dy la re cr dr (v_X4_lay cr rf pl pz mc a1).2.2.1 (v_X4_lay cr rf pl pz mc a1).2.2.2.1 (v_X4_lay cr rf pl pz mc a1).2.2.2.2.1) := by
  obtain ⟨hE, b, c, d, e, f, g⟩ := id hR
  have hla : la = nI (pz - 1) := c
  rcases ca_cs a1 with ⟨h1, h2, h3⟩ | ⟨h1, h2⟩
  · by_cases q : pz = 9
    · have q8 : la = 8 := by rw [hla, q]; rfl
      have e4 : v_X4_lay cr rf pl pz mc a1 = (-9, 0, rf + 1, pl, pz, mc) := by
        unfold v_X4_lay
        rw [if_pos h1, if_pos (show Int32.ofNat (pz - 1) = 8 by rw [q]; rfl)]; rfl
      have e2 : v_X2_lay sp la re a1 = (-9, sp, la, re + 1) := by
        unfold v_X2_lay
        rw [if_neg (show ¬ la < 8 by rw [q8]; decide)]; rfl
      rw [e4, e2]
      refine RO_ok (by unfold x_X2_lay; rw [h2]; simp only [xo_n, ite_self]) rfl rfl ⟨hE, b, c, d, by show re + 1 = rf + 1; rw [e], f, g⟩
    · have q8 : la < 8 := by rw [hla]; exact nI_lt (b := 8) (by omega) (by decide)
      have e2 : v_X2_lay sp la re a1 = (la + 1, va_up sp (4 + (pz - 1)) (sp a1.toNatClampNeg), la + 1, re) := by
        unfold v_X2_lay
        rw [if_pos q8, psp_all, hla, nI_clamp (by omega)]
      have e4 : v_X4_lay cr rf pl pz mc a1 = (la + 1, 0, rf, va_up pl (pz - 1) (cr a1.toNatClampNeg), if pz = 0 then 2 else pz + 1, mc + 1) := by
        unfold v_X4_lay
        rw [if_pos h1, if_neg (show ¬ Int32.ofNat (pz - 1) = 8 from fun z => by
          have := (nI_eq (a := pz - 1) (b := 8) (by omega) (by omega)).mp z
          omega)]
        by_cases z : pz = 0
        · rw [if_pos z, if_pos z, hla, z]; rfl
        · rw [if_neg z, if_neg z, hla, nI_1]
          have : pz + 1 - 1 = pz - 1 + 1 := by omega
          rw [this]; rfl
      rw [e4, e2]
      refine RO_ok (by unfold x_X2_lay; rw [h2]; simp only [xo_n, ite_self]) rfl rfl ⟨fun j hj => ?_, b, ?_, fun k hk => ?_, e, ?_, g⟩
      · show va_up sp (4 + (pz - 1)) (sp a1.toNatClampNeg) j = cr j
        rw [va_up_ne _ _ (by omega)]; exact hE j hj
      · show la + 1 = Int32.ofNat ((if pz = 0 then 2 else pz + 1) - 1)
        by_cases z : pz = 0
        · rw [if_pos z, hla, z]; rfl
        · rw [if_neg z, hla, nI_1]
          have : pz + 1 - 1 = pz - 1 + 1 := by omega
          rw [this]; rfl
      · show va_up sp (4 + (pz - 1)) (sp a1.toNatClampNeg) (4 + k) = va_up pl (pz - 1) (cr a1.toNatClampNeg) k
        have hk : k + 1 < if pz = 0 then 2 else pz + 1 := hk
        have hk2 : k ≤ pz - 1 := by
          by_cases z : pz = 0
          · rw [if_pos z] at hk; omega
          · rw [if_neg z] at hk; omega
        by_cases z : k = pz - 1
        · rw [z, va_up_self, va_up_self]; exact hE _ h3
        · rw [va_up_ne _ _ (by omega), va_up_ne _ _ z]; exact d k (by omega)
      · show (if pz = 0 then 2 else pz + 1) ≤ 9
        by_cases z : pz = 0
        · rw [if_pos z]; omega
        · rw [if_neg z]; omega
  · have e4 : v_X4_lay cr rf pl pz mc a1 = (0, 1, rf, pl, pz, mc) := by
      unfold v_X4_lay
      rw [if_neg h1]
    rw [e4]
    exact RO_no (E := iobN) (by unfold x_X2_lay; rw [h2]; rfl) xcd_b.symm hR
theorem rl_take {a1 mc : Int32} (hR : Rq sp dy la re cr dr rf pl pz) : RO (x_X2_take la a1) (v_X4_take cr rf pl pz mc a1).2.2.1 (v_X2_take sp la re a1).1 (v_X4_take cr rf pl pz mc a1).1 (Rq (v_X2_take sp la re a1).2.1 dy (v_X2_take sp la re a1).2.2.1 (v_X2_take sp la re a1).2.2.2 (v_X4_take cr rf pl pz mc a1).2.1 dr (v_X4_take cr rf pl pz mc a1).2.2.2.1 pl (v_X4_take cr rf pl pz mc a1).2.2.2.2.1) (Rq sp dy la re (v_X4_take cr rf pl pz mc a1).2.1 dr (v_X4_take cr rf pl pz mc a1).2.2.2.1 pl (v_X4_take cr rf pl pz mc a1).2.2.2.2.1) := by
  obtain ⟨hE, b, c, d, e, f, g⟩ := id hR
  have hla : la = nI (pz - 1) := c
  rcases ca_cs a1 with ⟨h1, h2, h3⟩ | ⟨h1, h2⟩
  · by_cases q : pz - 1 = 0
    · have q8 : la = 0 := by rw [hla, q]; rfl
      have e4 : v_X4_take cr rf pl pz mc a1 = (-9, cr, 0, rf + 1, pz, mc) := by
        unfold v_X4_take
        rw [if_pos h1, if_pos (show Int32.ofNat (pz - 1) = 0 by rw [q]; rfl), if_neg (by decide)]; rfl
      have e2 : v_X2_take sp la re a1 = (-9, sp, la, re + 1) := by
        unfold v_X2_take
        rw [if_neg (show ¬ 1 ≤ la by rw [q8]; decide)]; rfl
      rw [e4, e2]
      exact RO_ok (by unfold x_X2_take; rw [h2]; simp only [xo_n, ite_self]) rfl rfl ⟨hE, b, c, d, by show re + 1 = rf + 1; rw [e], f, g⟩
    · have q8 : 1 ≤ la := by rw [hla]; exact nI_le (a := 1) (by omega) (by omega)
      obtain ⟨m, hm⟩ : ∃ m : Nat, pz - 1 = m + 1 := ⟨pz - 1 - 1, by omega⟩
      have el : la - 1 = nI m := by rw [hla, hm]; exact nI_pred m
      have e2 : v_X2_take sp la re a1 = (nI m, va_up sp a1.toNatClampNeg (sp (4 + m)), nI m, re) := by
        unfold v_X2_take
        rw [if_pos q8, psp_all, el, nI_clamp (by omega)]
      have e4 : v_X4_take cr rf pl pz mc a1 = (nI m, va_up cr a1.toNatClampNeg (pl m), 0, rf, pz - 1, mc + 1) := by
        unfold v_X4_take
        rw [if_pos h1, if_neg (show ¬ Int32.ofNat (pz - 1) = 0 from fun z => by
          have := (nI_eq (a := pz - 1) (b := 0) (by omega) (by omega)).mp z
          omega), if_pos rfl, get_m]
        have : pz - 1 - 1 = m := by omega
        rw [this]; rfl
      rw [e4, e2]
      have em := d m (by omega)
      refine RO_ok (by unfold x_X2_take; rw [h2]; simp only [xo_n, ite_self]) rfl rfl ⟨?_, b, ?_, fun k hk => ?_, e, ?_, g⟩
      · show E4 (va_up sp a1.toNatClampNeg (sp (4 + m))) (va_up cr a1.toNatClampNeg (pl m))
        rw [em]
        exact E4_up hE
      · show nI m = Int32.ofNat (pz - 1 - 1)
        have : pz - 1 - 1 = m := by omega
        rw [this]; rfl
      · show va_up sp a1.toNatClampNeg (sp (4 + m)) (4 + k) = pl k
        have hk : k + 1 < pz - 1 := hk
        rw [va_up_ne _ _ (by omega)]; exact d k (by omega)
      · show pz - 1 ≤ 9
        omega
  · have e4 : v_X4_take cr rf pl pz mc a1 = (0, cr, 1, rf, pz, mc) := by
      unfold v_X4_take
      rw [if_neg h1]
    rw [e4]
    exact RO_no (E := iobN) (by unfold x_X2_take; rw [h2]; rfl) xcd_b.symm hR
/-- the sum's loops: the class's running sum is in the scratch span -/
theorem sum_w {a1 : Int32} (hi : a1.toNatClampNeg < 4) (hP : ∀ k, k + 1 < pz → sp (4 + k) = pl k) (hz : pz ≤ 9) : ∀ (n m : Nat) (t : TR), pz - 1 - m < n → m ≤ pz - 1 →
    ∃ (sp' : Nat → TR) (v : Option TR), (∀ j, j < 12 → sp' j = sp j) ∧ wX2_sum_20 (nI (pz - 1)) re a1 n (nI m) 1 (va_up sp 12 t) = cA sp' re a1.toNatClampNeg v ∧ wX4_sum__20 cr rf pl pz a1 n (nI m) t = m4 (mA cr rf a1.toNatClampNeg v) := by
  intro n
  induction n with
  | zero => intro m t h; omega
  | succ n ih =>
    intro m t hn hm
    have eo : Int32.ofNat (pz - 1) = nI (pz - 1) := rfl
    rw [wX2_sum_20, wX4_sum__20, eo]
    by_cases c : nI (pz - 1) ≤ nI m
    · rw [if_pos c, if_pos c]
      refine ⟨sp, some t, fun _ _ => rfl, cA_some (by omega), ?_⟩
      show ((v_X4_get cr a1 t).1, (v_X4_get cr a1 t).2, 0, rf) = _
      rw [get_m]; rfl
    · rw [if_neg c, if_neg c, if_neg (show ¬ (1 : Int32) = 0 by decide)]
      have c2 : ¬ pz - 1 ≤ m := fun q => c ((nI_leI (by omega) (by omega)).mpr q)
      have e12 : va_up sp 12 t 12 = t := va_up_self _ _ _
      have ek : va_up sp 12 t (4 + m) = pl m := by
        rw [va_up_ne _ _ (by omega)]; exact hP m (by omega)
      rw [psum_eq, nI_clamp (by omega), e12, ek]
      cases e : v_X4_sum t 1 (pl m) with
      | none =>
        refine ⟨va_up sp 12 t, none, fun j hj => va_up_ne _ _ (by omega), ?_, ?_⟩
        · show wX2_sum_20 (nI (pz - 1)) re a1 n (nI m + 1) 0 (va_up sp 12 t) = _
          cases n with
          | zero => omega
          | succ n =>
            rw [wX2_sum_20]
            by_cases d : nI (pz - 1) ≤ nI m + 1
            · rw [if_pos d]; rfl
            · rw [if_neg d, if_pos rfl]; rfl
        · show (if nI (pz - 1) ≤ nI m + 1 then ((v_X4_getN rf).1, cr, (0 : Int32), (v_X4_getN rf).2) else ((v_X4_getN rf).1, cr, 0, (v_X4_getN rf).2)) = _
          by_cases d : nI (pz - 1) ≤ nI m + 1
          · rw [if_pos d]; rfl
          · rw [if_neg d]; rfl
      | some u =>
        have h := ih (m + 1) u (by omega) (by omega)
        rw [← nI_1] at h
        obtain ⟨sp', v, h1, h2, h3⟩ := h
        refine ⟨sp', v, h1, ?_, h3⟩
        show wX2_sum_20 (nI (pz - 1)) re a1 n (nI m + 1) 1 (va_up (va_up sp 12 t) 12 u) = _
        rw [bx_uu]
        exact h2
theorem rl_sum {a1 : Int32} (hR : Rq sp dy la re cr dr rf pl pz) : RO (x_X2_sum a1) (v_X4_sum_ cr rf pl pz a1).2.2.1 (v_X2_sum sp la re a1).1 (v_X4_sum_ cr rf pl pz a1).1 (Rq (v_X2_sum sp la re a1).2.1 dy la (v_X2_sum sp la re a1).2.2 (v_X4_sum_ cr rf pl pz a1).2.1 dr (v_X4_sum_ cr rf pl pz a1).2.2.2 pl pz) (Rq sp dy la re (v_X4_sum_ cr rf pl pz a1).2.1 dr (v_X4_sum_ cr rf pl pz a1).2.2.2 pl pz) := by
  obtain ⟨hE, b, c, d, e, f, g⟩ := id hR
  have hla : la = nI (pz - 1) := c
  rcases ca_cs a1 with ⟨h1, h2, h3⟩ | ⟨h1, h2⟩
  · have e0 : (0 : Int32).toInt = 0 := rfl
    have ef : ((nI (pz - 1)).toInt - (0 : Int32).toInt).toNat + 1 = pz - 1 + 1 := by rw [e0, nI_toInt (by omega)]; omega
    obtain ⟨sp', v, k1, k2, k3⟩ := sum_w (sp := sp) (cr := cr) (re := re) (rf := rf) h3 d f (pz - 1 + 1) 0 (0, 0, 0) (by omega) (by omega)
    have e2 : v_X2_sum sp la re a1 = cA sp' re a1.toNatClampNeg v := by
      unfold v_X2_sum
      rw [hla, ef]
      have ep : v_X1_put sp 12 0 0 0 = (1, va_up sp 12 (0, 0, 0)) := by
        rw [put_eq]
        have : v_X4_span 0 0 0 = some (0, 0, 0) := span_32 0 0 0
        rw [this]; rfl
      rw [ep]
      exact k2
    have e4 : v_X4_sum_ cr rf pl pz a1 = m4 (mA cr rf a1.toNatClampNeg v) := by
      unfold v_X4_sum_
      have eo : Int32.ofNat (pz - 1) = nI (pz - 1) := rfl
      rw [if_pos h1, eo, ef]
      exact k3
    have hR' := RL_far hR k1 (fun j _ => rfl)
    exact pa_c hR' h3 (by unfold x_X2_sum; rw [h2]; rfl) e2 e4
  · have e4 : v_X4_sum_ cr rf pl pz a1 = (0, cr, 1, rf) := by
      unfold v_X4_sum_
      rw [if_neg h1]
    rw [e4]
    exact RO_no (E := iobN) (by unfold x_X2_sum; rw [h2]; rfl) xcd_b.symm hR
/-! what is asked -/
theorem rl_part {a1 a2 : Int32} (hR : Rq sp dy la re cr dr rf pl pz) : RO (x_X2_part a1 a2) (v_X4_part cr a1 a2).2 (v_X2_part sp a1 a2) (v_X4_part cr a1 a2).1 True True := by
  have hE := hR.1
  have l2 : (lN 2) = (2 : Int64) := rfl
  rcases wh_cs a2 3 2 rfl (by decide) with ⟨g1, g2, k, hk, rfl⟩ | ⟨g1, g2⟩
  · rw [l2] at g1
    rcases ca_cs a1 with ⟨h1, h2, h3⟩ | ⟨h1, h2⟩
    · have e : v_X4_part cr a1 (nI k) = (rw3 (cr a1.toNatClampNeg) k, 0) := by
        unfold v_X4_part
        rw [if_neg g1, if_pos h1, nI_clamp (by omega)]
      rw [e]
      refine RO_ok (by unfold x_X2_part; rw [h2, g2]; rfl) rfl ?_ trivial
      unfold v_X2_part v_X1_number rw3
      rw [hE _ h3]
      rcases (show k = 0 ∨ k = 1 ∨ k = 2 by omega) with rfl | rfl | rfl
      · rw [if_pos (show nI 0 = 0 by decide)]; rfl
      · rw [if_neg (show ¬ nI 1 = 0 by decide), if_pos (show nI 1 = 1 by decide)]; rfl
      · rw [if_neg (show ¬ nI 2 = 0 by decide), if_neg (show ¬ nI 2 = 1 by decide)]; rfl
    · have e : v_X4_part cr a1 (nI k) = (0, 1) := by
        unfold v_X4_part
        rw [if_neg g1, if_neg h1]
      rw [e]
      exact RO_no (by unfold x_X2_part; rw [h2]; rfl) xcd_b.symm trivial
  · rw [l2] at g1
    rcases ca_cs a1 with ⟨h1, h2, h3⟩ | ⟨h1, h2⟩
    · have e : v_X4_part cr a1 a2 = (0, 2) := by
        unfold v_X4_part
        rw [if_pos g1, if_pos h1]
      rw [e]
      exact RO_no (E := iaeN) (by unfold x_X2_part; rw [h2, g2]; rfl) xcd_a.symm trivial
    · have e : v_X4_part cr a1 a2 = (0, 1) := by
        unfold v_X4_part
        rw [if_pos g1, if_neg h1]
      rw [e]
      exact RO_no (by unfold x_X2_part; rw [h2]; rfl) xcd_b.symm trivial
theorem zer_eq {i : Nat} (h : sp i = cr i) : v_X1_isNothing sp i = v_X4_isSame (cr i) v_X4_nothing := by
  unfold v_X1_isNothing v_X4_isSame v_X4_nothing
  rw [h]
theorem b01 (x : Int32) (h : x = 0 ∨ x = 1) : (if x = 0 then ((0 : Int32), (0 : Int32)) else (1, 0)) = (x, 0) := by
  rcases h with rfl | rfl <;> rfl
theorem if01 {c : Prop} [Decidable c] : (if c then (1 : Int32) else 0) = 0 ∨ (if c then (1 : Int32) else 0) = 1 := by
  by_cases h : c
  · rw [if_pos h]; exact Or.inr rfl
  · rw [if_neg h]; exact Or.inl rfl
theorem same01 (a b : TR) : v_X4_isSame a b = 0 ∨ v_X4_isSame a b = 1 := by rw [same_eq]; exact if01
theorem neg01 (i : Int32) : v_X4_isNegativeNow cr i = 0 ∨ v_X4_isNegativeNow cr i = 1 := by
  unfold v_X4_isNegativeNow
  by_cases h1 : (cr i.toNatClampNeg).1 < 0
  · rw [if_pos h1]; exact Or.inr rfl
  · rw [if_neg h1]
    by_cases h2 : (cr i.toNatClampNeg).2.1 < 0
    · rw [if_pos h2]; exact Or.inr rfl
    · rw [if_neg h2]
      by_cases h3 : 0 ≤ (cr i.toNatClampNeg).2.2
      · rw [if_pos h3]; exact Or.inl rfl
      · rw [if_neg h3]; exact Or.inr rfl
theorem alike01 (a b : TR) : v_X4_isAlike a b = 0 ∨ v_X4_isAlike a b = 1 := by
  unfold v_X4_isAlike
  by_cases h1 : lg_cmp (v_X4_total a) (v_X4_total b) = 0
  · rw [if_pos h1]; exact if01
  · rw [if_neg h1]; exact Or.inl rfl
theorem neg_eq {i : Int32} (h : sp i.toNatClampNeg = cr i.toNatClampNeg) : v_X1_isBelowZero sp i.toNatClampNeg = v_X4_isNegativeNow cr i := by
  unfold v_X1_isBelowZero v_X4_isNegativeNow
  rw [h]
theorem sam_eq {i j : Nat} (h : sp i = cr i) (g : sp j = cr j) : v_X1_isSameAs sp i j = v_X4_isSame (cr i) (cr j) := by
  unfold v_X1_isSameAs v_X4_isSame
  rw [h, g]
theorem ali_eq {i j : Nat} (h : sp i = cr i) (g : sp j = cr j) : v_X1_isAlikeTo sp i j = v_X4_isAlike (cr i) (cr j) := by
  unfold v_X1_isAlikeTo v_X4_isAlike
  rw [all_tot, all_tot, h, g]
theorem rl_isZero {a1 : Int32} (hR : Rq sp dy la re cr dr rf pl pz) : RO (x_X2_isZero a1) (v_X4_isZero cr a1).2 (v_X2_isZero sp a1) (v_X4_isZero cr a1).1 True True := by
  have hE := hR.1
  rcases ca_cs a1 with ⟨h1, h2, h3⟩ | ⟨h1, h2⟩
  · have e : v_X4_isZero cr a1 = (v_X4_isSame (cr a1.toNatClampNeg) v_X4_nothing, 0) := by
      unfold v_X4_isZero v_X4_isZeroNow
      rw [if_pos h1]
      exact b01 _ (same01 _ _)
    rw [e]
    exact RO_ok (by unfold x_X2_isZero; rw [h2]; rfl) rfl (zer_eq (hE _ h3)) trivial
  · have e : v_X4_isZero cr a1 = (0, 1) := by
      unfold v_X4_isZero
      rw [if_neg h1]
    rw [e]
    exact RO_no (by unfold x_X2_isZero; rw [h2]; rfl) xcd_b.symm trivial
theorem rl_isNegative {a1 : Int32} (hR : Rq sp dy la re cr dr rf pl pz) : RO (x_X2_isNegative a1) (v_X4_isNegative cr a1).2 (v_X2_isNegative sp a1) (v_X4_isNegative cr a1).1 True True := by
  have hE := hR.1
  rcases ca_cs a1 with ⟨h1, h2, h3⟩ | ⟨h1, h2⟩
  · have e : v_X4_isNegative cr a1 = (v_X4_isNegativeNow cr a1, 0) := by
      unfold v_X4_isNegative
      rw [if_pos h1]
      exact b01 _ (neg01 _)
    rw [e]
    exact RO_ok (by unfold x_X2_isNegative; rw [h2]; rfl) rfl (neg_eq (hE _ h3)) trivial
  · have e : v_X4_isNegative cr a1 = (0, 1) := by
      unfold v_X4_isNegative
      rw [if_neg h1]
    rw [e]
    exact RO_no (by unfold x_X2_isNegative; rw [h2]; rfl) xcd_b.symm trivial
theorem rl_areSame {a1 a2 : Int32} (hR : Rq sp dy la re cr dr rf pl pz) : RO (x_X2_areSame a1 a2) (v_X4_areSame cr a1 a2).2 (v_X2_areSame sp a1 a2) (v_X4_areSame cr a1 a2).1 True True := by
  have hE := hR.1
  rcases two_c a1 a2 with ⟨h1, h2, hx, h3, h4⟩ | ⟨h1, hx⟩
  · have e : v_X4_areSame cr a1 a2 = (v_X4_isSame (cr a1.toNatClampNeg) (cr a2.toNatClampNeg), 0) := by
      unfold v_X4_areSame
      rw [if_pos h1, if_pos h2]
      exact b01 _ (same01 _ _)
    rw [e]
    exact RO_ok hx rfl (sam_eq (hE _ h3) (hE _ h4)) trivial
  · have e : v_X4_areSame cr a1 a2 = (0, 1) := by
      unfold v_X4_areSame
      exact two_n h1
    rw [e]
    exact RO_no hx xcd_b.symm trivial
theorem rl_areAlike {a1 a2 : Int32} (hR : Rq sp dy la re cr dr rf pl pz) : RO (x_X2_areAlike a1 a2) (v_X4_areAlike cr a1 a2).2 (v_X2_areAlike sp a1 a2) (v_X4_areAlike cr a1 a2).1 True True := by
  have hE := hR.1
  rcases two_c a1 a2 with ⟨h1, h2, hx, h3, h4⟩ | ⟨h1, hx⟩
  · have e : v_X4_areAlike cr a1 a2 = (v_X4_isAlike (cr a1.toNatClampNeg) (cr a2.toNatClampNeg), 0) := by
      unfold v_X4_areAlike
      rw [if_pos h1, if_pos h2]
      exact b01 _ (alike01 _ _)
    rw [e]
    exact RO_ok hx rfl (ali_eq (hE _ h3) (hE _ h4)) trivial
  · have e : v_X4_areAlike cr a1 a2 = (0, 1) := by
      unfold v_X4_areAlike
      exact two_n h1
    rw [e]
    exact RO_no hx xcd_b.symm trivial
end RLT
end
section
/-! method by method: dates, the whole -/
section RLU
variable {sp dy cr dr pl : Nat → TR} {la re rf : Int32} {pz : Nat}
theorem pdy_all {j k : Nat} : v_X0_putDay dy j k = va_up dy j (dy k) := rfl
theorem cal_eq {a2 a3 a4 : Int32} : v_X2_isInCalendar a2 a3 a4 = 0 ↔ ¬ (¬ v_X4_isIn a2.toInt64 1600 2400 = 0 ∧ ¬ v_X4_isIn a3.toInt64 1 12 = 0 ∧ ¬ v_X4_isIn a4.toInt64 1 (v_X4_length a2 a3).toInt64 = 0) := by
  have i1 := in_iff (x := a2.toInt64) (a := 1600) (b := 2400)
  have i2 := in_iff (x := a3.toInt64) (a := 1) (b := 12)
  have i3 := in_iff (x := a4.toInt64) (a := 1) (b := (v_X4_length a2 a3).toInt64)
  rw [Int64.le_iff_toInt_le, Int64.le_iff_toInt_le, Int32.toInt_toInt64] at i1 i2 i3
  rw [Int32.toInt_toInt64] at i3
  have z1 : (1600 : Int64).toInt = 1600 := rfl
  have z2 : (2400 : Int64).toInt = 2400 := rfl
  have z3 : (1 : Int64).toInt = 1 := rfl
  have z4 : (12 : Int64).toInt = 12 := rfl
  have y1 : (1600 : Int32).toInt = 1600 := rfl
  have y2 : (2400 : Int32).toInt = 2400 := rfl
  have y3 : (1 : Int32).toInt = 1 := rfl
  have y4 : (12 : Int32).toInt = 12 := rfl
  rw [i1, i2, i3, z1, z2, z3, z4]
  unfold v_X2_isInCalendar
  by_cases h1 : a2 < 1600
  · rw [if_pos h1]
    rw [Int32.lt_iff_toInt_lt] at h1
    exact ⟨fun _ q => by omega, fun _ => rfl⟩
  · rw [if_neg h1]
    rw [Int32.lt_iff_toInt_lt] at h1
    by_cases h2 : 2400 < a2
    · rw [if_pos h2]
      rw [Int32.lt_iff_toInt_lt] at h2
      exact ⟨fun _ q => by omega, fun _ => rfl⟩
    · rw [if_neg h2]
      rw [Int32.lt_iff_toInt_lt] at h2
      by_cases h3 : a3 < 1
      · rw [if_pos h3]
        rw [Int32.lt_iff_toInt_lt] at h3
        exact ⟨fun _ q => by omega, fun _ => rfl⟩
      · rw [if_neg h3]
        rw [Int32.lt_iff_toInt_lt] at h3
        by_cases h4 : a3 ≤ 12
        · rw [if_pos h4]
          rw [Int32.le_iff_toInt_le] at h4
          rw [dom_len' (by omega) (by omega)]
          by_cases h5 : a4 < 1
          · rw [if_pos h5]
            rw [Int32.lt_iff_toInt_lt] at h5
            exact ⟨fun _ q => by omega, fun _ => rfl⟩
          · rw [if_neg h5]
            rw [Int32.lt_iff_toInt_lt] at h5
            by_cases h6 : v_X4_length a2 a3 < a4
            · rw [if_pos h6]
              rw [Int32.lt_iff_toInt_lt] at h6
              exact ⟨fun _ q => by omega, fun _ => rfl⟩
            · rw [if_neg h6]
              rw [Int32.lt_iff_toInt_lt] at h6
              exact ⟨fun q => absurd q (by decide), fun q => absurd ⟨by omega, by omega, by omega⟩ q⟩
        · rw [if_neg h4]
          rw [Int32.le_iff_toInt_le] at h4
          exact ⟨fun _ q => by omega, fun _ => rfl⟩
theorem rl_date {a1 a2 a3 a4 : Int32} (hR : Rq sp dy la re cr dr rf pl pz) : RO (x_X2_date a1 a2 a3 a4) (v_X4_date dr a1 a2 a3 a4).2.2 (v_X2_date dy re a1 a2 a3 a4).1 (v_X4_date dr a1 a2 a3 a4).1 (Rq sp (v_X2_date dy re a1 a2 a3 a4).2.1 la (v_X2_date dy re a1 a2 a3 a4).2.2 cr (v_X4_date dr a1 a2 a3 a4).2.1 rf pl pz) (Rq sp dy la re cr (v_X4_date dr a1 a2 a3 a4).2.1 rf pl pz) := by
  have hc := cal_eq (a2 := a2) (a3 := a3) (a4 := a4)
  by_cases q : ¬ v_X4_isIn a2.toInt64 1600 2400 = 0 ∧ ¬ v_X4_isIn a3.toInt64 1 12 = 0 ∧ ¬ v_X4_isIn a4.toInt64 1 (v_X4_length a2 a3).toInt64 = 0
  · obtain ⟨q1, q2, q3⟩ := id q
    have hc2 : ¬ v_X2_isInCalendar a2 a3 a4 = 0 := fun z => hc.mp z q
    have ho : okv (a2, a3, a4) := by
      refine ⟨isin_okd q1 q2 q3, ?_⟩
      have := (in_iff.mp q3).2
      rw [Int64.le_iff_toInt_le, Int32.toInt_toInt64, Int32.toInt_toInt64] at this
      exact this
    rcases da_cs a1 with ⟨h1, h2, h3⟩ | ⟨h1, h2⟩
    · obtain ⟨r1, r2, r3⟩ := RL_d hR h3
      refine pa_d3 (t := (a2, a3, a4)) hR h3 ho (by unfold x_X2_date; rw [h2]; show (if v_X2_isInCalendar a2 a3 a4 = 0 then some iaeN else none) = none; rw [if_neg hc2]) ?_ ?_
      · unfold v_X2_date
        rw [if_neg hc2, pe3]
        exact cD_some (by omega) r1 ho
      · unfold v_X4_date
        rw [if_neg q1, if_neg q2, if_neg q3, if_pos h1, bec_m r2 ho]
        rfl
    · have e : v_X4_date dr a1 a2 a3 a4 = (0, dr, 1) := by
        unfold v_X4_date
        rw [if_neg q1, if_neg q2, if_neg q3, if_neg h1]
      rw [e]
      exact RO_no (E := iobN) (by unfold x_X2_date; rw [h2]; rfl) xcd_b.symm hR
  · have hc2 : v_X2_isInCalendar a2 a3 a4 = 0 := hc.mpr q
    rcases da_cs a1 with ⟨h1, h2, h3⟩ | ⟨h1, h2⟩
    · have e : v_X4_date dr a1 a2 a3 a4 = (0, dr, 2) := by
        unfold v_X4_date
        by_cases q1 : v_X4_isIn a2.toInt64 1600 2400 = 0
        · rw [if_pos q1, if_pos h1]
        · rw [if_neg q1]
          by_cases q2 : v_X4_isIn a3.toInt64 1 12 = 0
          · rw [if_pos q2, if_pos h1]
          · rw [if_neg q2]
            by_cases q3 : v_X4_isIn a4.toInt64 1 (v_X4_length a2 a3).toInt64 = 0
            · rw [if_pos q3, if_pos h1]
            · exact absurd ⟨q1, q2, q3⟩ q
      rw [e]
      exact RO_no (E := iaeN) (by unfold x_X2_date; rw [h2]; show (if v_X2_isInCalendar a2 a3 a4 = 0 then some iaeN else none) = some iaeN; rw [if_pos hc2]) xcd_a.symm hR
    · have e : v_X4_date dr a1 a2 a3 a4 = (0, dr, 1) := by
        unfold v_X4_date
        by_cases q1 : v_X4_isIn a2.toInt64 1600 2400 = 0
        · rw [if_pos q1, if_neg h1]
        · rw [if_neg q1]
          by_cases q2 : v_X4_isIn a3.toInt64 1 12 = 0
          · rw [if_pos q2, if_neg h1]
          · rw [if_neg q2]
            by_cases q3 : v_X4_isIn a4.toInt64 1 (v_X4_length a2 a3).toInt64 = 0
            · rw [if_pos q3, if_neg h1]
            · exact absurd ⟨q1, q2, q3⟩ q
      rw [e]
      exact RO_no (E := iobN) (by unfold x_X2_date; rw [h2]; rfl) xcd_b.symm hR
theorem two_d (a1 a2 : Int32) : (v_X4_isNone a1 = 0 ∧ v_X4_isNone a2 = 0 ∧ xo (x_X2_dateAt a1) (xo (x_X2_dateAt a2) none) = none ∧ a1.toNatClampNeg < 4 ∧ a2.toNatClampNeg < 4) ∨ ((¬ v_X4_isNone a1 = 0 ∨ (v_X4_isNone a1 = 0 ∧ ¬ v_X4_isNone a2 = 0)) ∧ xo (x_X2_dateAt a1) (xo (x_X2_dateAt a2) none) = some iobN) := two_c a1 a2
theorem two_m (a1 a2 : Int32) : (v_X4_isNone a1 = 0 ∧ v_X4_isNone a2 = 0 ∧ xo (x_X2_dateAt a1) (xo (x_X2_cardAt a2) none) = none ∧ a1.toNatClampNeg < 4 ∧ a2.toNatClampNeg < 4) ∨ ((¬ v_X4_isNone a1 = 0 ∨ (v_X4_isNone a1 = 0 ∧ ¬ v_X4_isNone a2 = 0)) ∧ xo (x_X2_dateAt a1) (xo (x_X2_cardAt a2) none) = some iobN) := two_c a1 a2
theorem rl_copyDate {a1 a2 : Int32} (hR : Rq sp dy la re cr dr rf pl pz) : RO (x_X2_copyDate a1 a2) (v_X4_copyDate dr a1 a2).2.2 (v_X2_copyDate dy re a1 a2).1 (v_X4_copyDate dr a1 a2).1 (Rq sp (v_X2_copyDate dy re a1 a2).2.1 la (v_X2_copyDate dy re a1 a2).2.2 cr (v_X4_copyDate dr a1 a2).2.1 rf pl pz) (Rq sp dy la re cr (v_X4_copyDate dr a1 a2).2.1 rf pl pz) := by
  rcases two_d a1 a2 with ⟨h1, h2, hx, h3, h4⟩ | ⟨h1, hx⟩
  · obtain ⟨r1, r2, r3⟩ := RL_d hR h3
    obtain ⟨s1, s2, s3⟩ := RL_d hR h4
    refine pa_d3 (t := dr a2.toNatClampNeg) hR h3 s2 hx ?_ ?_
    · unfold v_X2_copyDate
      rw [pe3, pdy_all, s3]
      exact cD_some (by omega) r1 s2
    · unfold v_X4_copyDate
      rw [if_pos h1, if_pos h2, bec_m r2 s2]
      rfl
  · have e : v_X4_copyDate dr a1 a2 = (0, dr, 1) := by
      unfold v_X4_copyDate
      exact two_n h1
    rw [e]
    exact RO_no hx xcd_b.symm hR
theorem sgn_0 : sgn 0 = 1 := rfl
theorem sgn_1 : sgn 1 = -1 := rfl
theorem rl_move {a1 a2 : Int32} (hR : Rq sp dy la re cr dr rf pl pz) : RO (x_X2_move a1 a2) (v_X4_move cr dr rf a1 a2).2.2.1 (v_X2_move sp dy re a1 a2).1 (v_X4_move cr dr rf a1 a2).1 (Rq sp (v_X2_move sp dy re a1 a2).2.1 la (v_X2_move sp dy re a1 a2).2.2 cr (v_X4_move cr dr rf a1 a2).2.1 (v_X4_move cr dr rf a1 a2).2.2.2 pl pz) (Rq sp dy la re cr (v_X4_move cr dr rf a1 a2).2.1 (v_X4_move cr dr rf a1 a2).2.2.2 pl pz) := by
  have hE := hR.1
  rcases two_m a1 a2 with ⟨h1, h2, hx, h3, h4⟩ | ⟨h1, hx⟩
  · obtain ⟨r1, r2, r3⟩ := RL_d hR h3
    have hv : ∀ t, v_X4_onBy (dr a1.toNatClampNeg) (cr a2.toNatClampNeg) 1 = some t → okv t := fun t h => onBy_okv h r2.1 (Or.inl rfl)
    refine pa_d (v := v_X4_onBy (dr a1.toNatClampNeg) (cr a2.toNatClampNeg) 1) hR h3 hv hx ?_ ?_
    · unfold v_X2_move
      rw [pe3, rch_eq r1.1, sgn_0, r3, hE _ h4]
      exact act_d (by omega) r1 hv
    · unfold v_X4_move
      rw [if_pos h1, if_pos h2]
      exact om_bec r2 hv
  · have e : v_X4_move cr dr rf a1 a2 = (0, dr, 1, rf) := by
      unfold v_X4_move
      exact two_n h1
    rw [e]
    exact RO_no hx xcd_b.symm hR
theorem rl_back {a1 a2 : Int32} (hR : Rq sp dy la re cr dr rf pl pz) : RO (x_X2_back a1 a2) (v_X4_back cr dr rf a1 a2).2.2.1 (v_X2_back sp dy re a1 a2).1 (v_X4_back cr dr rf a1 a2).1 (Rq sp (v_X2_back sp dy re a1 a2).2.1 la (v_X2_back sp dy re a1 a2).2.2 cr (v_X4_back cr dr rf a1 a2).2.1 (v_X4_back cr dr rf a1 a2).2.2.2 pl pz) (Rq sp dy la re cr (v_X4_back cr dr rf a1 a2).2.1 (v_X4_back cr dr rf a1 a2).2.2.2 pl pz) := by
  have hE := hR.1
  rcases two_m a1 a2 with ⟨h1, h2, hx, h3, h4⟩ | ⟨h1, hx⟩
  · obtain ⟨r1, r2, r3⟩ := RL_d hR h3
    have hv : ∀ t, v_X4_onBy (dr a1.toNatClampNeg) (cr a2.toNatClampNeg) (-1) = some t → okv t := fun t h => onBy_okv h r2.1 (Or.inr rfl)
    refine pa_d (v := v_X4_onBy (dr a1.toNatClampNeg) (cr a2.toNatClampNeg) (-1)) hR h3 hv hx ?_ ?_
    · unfold v_X2_back
      rw [pe3, rch_eq r1.1, sgn_1, r3, hE _ h4]
      exact act_d (by omega) r1 hv
    · unfold v_X4_back
      rw [if_pos h1, if_pos h2]
      exact om_bec r2 hv
  · have e : v_X4_back cr dr rf a1 a2 = (0, dr, 1, rf) := by
      unfold v_X4_back
      exact two_n h1
    rw [e]
    exact RO_no hx xcd_b.symm hR
/-- walking -/
theorem walk_w {a1 a2 a3 : Int32} (hi : a1.toNatClampNeg < 4) (hk : a2.toNatClampNeg < 4) (hE : E4 sp cr) {N : Nat} (h3 : a3 = nI N) (hN : N ≤ 12) : ∀ (n m : Nat) (dy dr : Nat → TR), N - m < n → m ≤ N → E4 dy dr → (∀ i, i < 4 → okv (dr i)) →
    (wX2_walk_38 sp a1 a2 a3 n (nI m) dy).1 = (wX4_walk_48 cr a1 a2 a3 n (nI m) dr).1 ∧ E4 (wX2_walk_38 sp a1 a2 a3 n (nI m) dy).2 (wX4_walk_48 cr a1 a2 a3 n (nI m) dr).2.1 ∧ (wX4_walk_48 cr a1 a2 a3 n (nI m) dr).2.2 = 0 ∧ ∀ i, i < 4 → okv ((wX4_walk_48 cr a1 a2 a3 n (nI m) dr).2.1 i) := by
  intro n
  induction n with
  | zero => intro m dy dr h; omega
  | succ n ih =>
    intro m dy dr hn hm hD hv
    have r2 := hv _ hi
    have r3 := hD _ hi
    have r1 : okv (dy a1.toNatClampNeg) := by rw [r3]; exact r2
    rw [wX2_walk_38, wX4_walk_48, h3]
    by_cases c : nI N ≤ nI m
    · rw [if_pos c, if_pos c]
      exact ⟨rfl, hD, rfl, hv⟩
    · rw [if_neg c, if_neg c, rch_eq r1.1, sgn_0, r3, hE _ hk]
      have c2 : ¬ N ≤ m := fun q => c ((nI_leI (by omega) (by omega)).mpr q)
      cases e : v_X4_onBy (dr a1.toNatClampNeg) (cr a2.toNatClampNeg) 1 with
      | none =>
        show (if (0 : Int32) = 0 then (nI m, dy) else _).1 = nI m ∧ E4 (if (0 : Int32) = 0 then (nI m, dy) else _).2 dr ∧ (0 : Int32) = 0 ∧ ∀ i, i < 4 → okv (dr i)
        rw [if_pos rfl]
        exact ⟨rfl, hD, rfl, hv⟩
      | some t =>
        have ht := onBy_okv e r2.1 (Or.inl rfl)
        rw [om_s, om_s, if_neg (show ¬ ((1 : Int32), va_up dy 4 t).1 = 0 from (by decide : ¬ (1 : Int32) = 0)), bec_m r2 ht, nI_1, ← h3]
        have ep : v_X0_putDay (va_up dy 4 t) a1.toNatClampNeg 4 = va_up (va_up dy 4 t) a1.toNatClampNeg t := by
          rw [pdy_all, va_up_self]
        show (wX2_walk_38 sp a1 a2 a3 n (nI (m + 1)) (v_X0_putDay (va_up dy 4 t) a1.toNatClampNeg 4)).1 = _ ∧ E4 (wX2_walk_38 sp a1 a2 a3 n (nI (m + 1)) (v_X0_putDay (va_up dy 4 t) a1.toNatClampNeg 4)).2 _ ∧ _
        rw [ep]
        refine ih (m + 1) _ _ (by omega) (by omega) (E4_up (E4_far hD (by omega))) (fun i hi => ?_)
        by_cases q : i = a1.toNatClampNeg
        · show okv (va_up dr a1.toNatClampNeg t i)
          rw [q, va_up_self]; exact ht
        · show okv (va_up dr a1.toNatClampNeg t i)
          rw [va_up_ne _ _ q]; exact hv i hi
theorem many_cs (a : Int32) : (¬ v_X4_isIn a.toInt64 1 12 = 0 ∧ ¬ a < 1 ∧ a ≤ 12 ∧ ∃ N : Nat, N ≤ 12 ∧ a = nI N) ∨ (v_X4_isIn a.toInt64 1 12 = 0 ∧ (a < 1 ∨ (¬ a < 1 ∧ ¬ a ≤ 12))) := by
  have hi := in_iff (x := a.toInt64) (a := 1) (b := 12)
  have z3 : (1 : Int64).toInt = 1 := rfl
  have z4 : (12 : Int64).toInt = 12 := rfl
  have y3 : (1 : Int32).toInt = 1 := rfl
  have y4 : (12 : Int32).toInt = 12 := rfl
  rw [Int64.le_iff_toInt_le, Int64.le_iff_toInt_le, Int32.toInt_toInt64, z3, z4] at hi
  by_cases h1 : a < 1
  · have h := h1
    rw [Int32.lt_iff_toInt_lt] at h
    exact Or.inr ⟨Classical.byContradiction fun q => by have := hi.mp q; omega, Or.inl h1⟩
  · have h := h1
    rw [Int32.lt_iff_toInt_lt] at h
    by_cases h2 : a ≤ 12
    · have g := h2
      rw [Int32.le_iff_toInt_le] at g
      exact Or.inl ⟨hi.mpr (by omega), h1, h2, a.toInt.toNat, by omega, Int32.toInt_inj.mp (by rw [nI_toInt (by omega)]; omega)⟩
    · have g := h2
      rw [Int32.le_iff_toInt_le] at g
      exact Or.inr ⟨Classical.byContradiction fun q => by have := hi.mp q; omega, Or.inr ⟨h1, h2⟩⟩
theorem rl_walk {a1 a2 a3 : Int32} (hR : Rq sp dy la re cr dr rf pl pz) : RO (x_X2_walk a1 a2 a3) (v_X4_walk cr dr a1 a2 a3).2.2 (v_X2_walk sp dy a1 a2 a3).1 (v_X4_walk cr dr a1 a2 a3).1 (Rq sp (v_X2_walk sp dy a1 a2 a3).2 la re cr (v_X4_walk cr dr a1 a2 a3).2.1 rf pl pz) (Rq sp dy la re cr (v_X4_walk cr dr a1 a2 a3).2.1 rf pl pz) := by
  obtain ⟨hE, b, c, d, e, f, g⟩ := id hR
  rcases da_cs a1 with ⟨h1, h2, h3⟩ | ⟨h1, h2⟩
  · rcases ca_cs a2 with ⟨g1, g2, g3⟩ | ⟨g1, g2⟩
    · rcases many_cs a3 with ⟨m1, m2, m3, N, hN, eN⟩ | ⟨m1, m2⟩
      · have e0 : (0 : Int32).toInt = 0 := rfl
        have ef : (a3.toInt - (0 : Int32).toInt).toNat + 1 = N + 1 := by rw [e0, eN, nI_toInt (by omega)]; omega
        have e2 : v_X2_walk sp dy a1 a2 a3 = wX2_walk_38 sp a1 a2 a3 (N + 1) (nI 0) dy := by
          unfold v_X2_walk
          rw [if_neg m2, if_pos m3, ef]; rfl
        have e4 : v_X4_walk cr dr a1 a2 a3 = wX4_walk_48 cr a1 a2 a3 (N + 1) (nI 0) dr := by
          unfold v_X4_walk
          rw [if_pos h1, if_pos g1, if_neg m1, ef]; rfl
        obtain ⟨k1, k2, k3, k4⟩ := walk_w (sp := sp) (cr := cr) h3 g3 hE eN hN (N + 1) 0 dy dr (by omega) (by omega) b g
        rw [e2, e4]
        exact RO_ok (by unfold x_X2_walk; rw [h2, g2, xo_n, xo_n, if_neg m2, if_pos m3]) k3 k1 ⟨hE, k2, c, d, e, f, k4⟩
      · have e4 : v_X4_walk cr dr a1 a2 a3 = (0, dr, 2) := by
          unfold v_X4_walk
          rw [if_pos h1, if_pos g1, if_pos m1]
        rw [e4]
        refine RO_no (E := iaeN) ?_ xcd_a.symm hR
        unfold x_X2_walk
        rw [h2, g2, xo_n, xo_n]
        rcases m2 with m2 | ⟨m2, m3⟩
        · rw [if_pos m2]
        · rw [if_neg m2, if_neg m3]
    · have e4 : v_X4_walk cr dr a1 a2 a3 = (0, dr, 1) := by
        unfold v_X4_walk
        rw [if_pos h1, if_neg g1]
        by_cases q : v_X4_isIn a3.toInt64 1 12 = 0
        · rw [if_pos q]
        · rw [if_neg q]
      rw [e4]
      exact RO_no (E := iobN) (by unfold x_X2_walk; rw [h2, g2]; rfl) xcd_b.symm hR
  · have e4 : v_X4_walk cr dr a1 a2 a3 = (0, dr, 1) := by
      unfold v_X4_walk
      rw [if_neg h1]
      by_cases q : v_X4_isIn a3.toInt64 1 12 = 0
      · rw [if_pos q]
      · rw [if_neg q]
    rw [e4]
    exact RO_no (E := iobN) (by unfold x_X2_walk; rw [h2]; rfl) xcd_b.symm hR
theorem rl_between {a1 a2 a3 : Int32} (hR : Rq sp dy la re cr dr rf pl pz) : RO (x_X2_between a1 a2 a3) (v_X4_between cr dr rf a1 a2 a3).2.2.1 (v_X2_between sp dy re a1 a2 a3).1 (v_X4_between cr dr rf a1 a2 a3).1 (Rq (v_X2_between sp dy re a1 a2 a3).2.1 dy la (v_X2_between sp dy re a1 a2 a3).2.2 (v_X4_between cr dr rf a1 a2 a3).2.1 dr (v_X4_between cr dr rf a1 a2 a3).2.2.2 pl pz) (Rq sp dy la re (v_X4_between cr dr rf a1 a2 a3).2.1 dr (v_X4_between cr dr rf a1 a2 a3).2.2.2 pl pz) := by
  rcases ca_cs a1 with ⟨h1, h2, h3⟩ | ⟨h1, h2⟩
  · rcases two_d a2 a3 with ⟨g1, g2, gx, g3, g4⟩ | ⟨g1, gx⟩
    · obtain ⟨r1, r2, r3⟩ := RL_d hR g3
      obtain ⟨s1, s2, s3⟩ := RL_d hR g4
      refine pa_c (v := v_X4_apart (dr a2.toNatClampNeg) (dr a3.toNatClampNeg)) hR h3 (by unfold x_X2_between x_X2_actByBetween; rw [h2, gx]; rfl) ?_ ?_
      · unfold v_X2_between
        rw [pe3]
        unfold v_X2_actByBetween
        rw [pe3, btw_eq r1.1 s1.1, r3, s3]
        exact act_c (by omega)
      · unfold v_X4_between
        rw [if_pos h1, if_pos g1, if_pos g2]
        exact om_get
    · have e4 : v_X4_between cr dr rf a1 a2 a3 = (0, cr, 1, rf) := by
        unfold v_X4_between
        rw [if_pos h1]
        exact two_n g1
      rw [e4]
      exact RO_no (E := iobN) (by unfold x_X2_between x_X2_actByBetween; rw [h2, gx]; rfl) xcd_b.symm hR
  · have e4 : v_X4_between cr dr rf a1 a2 a3 = (0, cr, 1, rf) := by
      unfold v_X4_between
      rw [if_neg h1]
    rw [e4]
    exact RO_no (E := iobN) (by unfold x_X2_between x_X2_actByBetween; rw [h2]; rfl) xcd_b.symm hR
theorem rl_until {a1 a2 a3 : Int32} (hR : Rq sp dy la re cr dr rf pl pz) : RO (x_X2_until a1 a2 a3) (v_X4_until cr dr rf a1 a2 a3).2.2.1 (v_X2_until sp dy re a1 a2 a3).1 (v_X4_until cr dr rf a1 a2 a3).1 (Rq (v_X2_until sp dy re a1 a2 a3).2.1 dy la (v_X2_until sp dy re a1 a2 a3).2.2 (v_X4_until cr dr rf a1 a2 a3).2.1 dr (v_X4_until cr dr rf a1 a2 a3).2.2.2 pl pz) (Rq sp dy la re (v_X4_until cr dr rf a1 a2 a3).2.1 dr (v_X4_until cr dr rf a1 a2 a3).2.2.2 pl pz) := by
  have h := rl_between (a1 := a1) (a2 := a2) (a3 := a3) hR
  unfold v_X4_until
  rw [pe4]
  unfold v_X2_until x_X2_until
  unfold v_X2_between x_X2_between at h
  exact h
theorem rl_ofDate {a1 a2 : Int32} (hR : Rq sp dy la re cr dr rf pl pz) : RO (x_X2_ofDate a1 a2) (v_X4_ofDate dr a1 a2).2 (v_X2_ofDate dy a1 a2) (v_X4_ofDate dr a1 a2).1 True True := by
  have l3 : (lN 3) = (3 : Int64) := rfl
  rcases wh_cs a2 4 3 rfl (by decide) with ⟨g1, g2, k, hk, rfl⟩ | ⟨g1, g2⟩
  · rw [l3] at g1
    rcases da_cs a1 with ⟨h1, h2, h3⟩ | ⟨h1, h2⟩
    · obtain ⟨r1, r2, r3⟩ := RL_d hR h3
      have e : v_X4_ofDate dr a1 (nI k) = (v_X4_ofDateNow dr a1 (nI k), 0) := by
        unfold v_X4_ofDate
        rw [if_neg g1, if_pos h1]
      rw [e]
      refine RO_ok (by unfold x_X2_ofDate; rw [h2, g2]; rfl) rfl ?_ trivial
      unfold v_X2_ofDate v_X0_number v_X4_ofDateNow v_X0_dayNumber
      rw [num_t r1.1, r3, nI_clamp (by omega)]
      unfold rw3
      rcases (show k = 0 ∨ k = 1 ∨ k = 2 ∨ k = 3 by omega) with rfl | rfl | rfl | rfl
      · rw [if_pos (show nI 0 = 0 by decide), if_neg (show ¬ nI 0 = 3 by decide)]; rfl
      · rw [if_neg (show ¬ nI 1 = 0 by decide), if_pos (show nI 1 = 1 by decide), if_neg (show ¬ nI 1 = 3 by decide)]; rfl
      · rw [if_neg (show ¬ nI 2 = 0 by decide), if_neg (show ¬ nI 2 = 1 by decide), if_pos (show nI 2 = 2 by decide), if_neg (show ¬ nI 2 = 3 by decide)]; rfl
      · rw [if_neg (show ¬ nI 3 = 0 by decide), if_neg (show ¬ nI 3 = 1 by decide), if_neg (show ¬ nI 3 = 2 by decide), if_pos (show nI 3 = 3 by decide)]
    · have e : v_X4_ofDate dr a1 (nI k) = (0, 1) := by
        unfold v_X4_ofDate
        rw [if_neg g1, if_neg h1]
      rw [e]
      exact RO_no (E := iobN) (by unfold x_X2_ofDate; rw [h2]; rfl) xcd_b.symm trivial
  · rw [l3] at g1
    rcases da_cs a1 with ⟨h1, h2, h3⟩ | ⟨h1, h2⟩
    · have e : v_X4_ofDate dr a1 a2 = (0, 2) := by
        unfold v_X4_ofDate
        rw [if_pos g1, if_pos h1]
      rw [e]
      exact RO_no (E := iaeN) (by unfold x_X2_ofDate; rw [h2, g2]; rfl) xcd_a.symm trivial
    · have e : v_X4_ofDate dr a1 a2 = (0, 1) := by
        unfold v_X4_ofDate
        rw [if_pos g1, if_neg h1]
      rw [e]
      exact RO_no (E := iobN) (by unfold x_X2_ofDate; rw [h2]; rfl) xcd_b.symm trivial
theorem ordn_eq {i j : Int32} (hi : okv (dy i.toNatClampNeg)) (hj : okv (dy j.toNatClampNeg)) (ei : dy i.toNatClampNeg = dr i.toNatClampNeg) (ej : dy j.toNatClampNeg = dr j.toNatClampNeg) : v_X0_orderTo dy i.toNatClampNeg j.toNatClampNeg = v_X4_orderNow dr i j := by
  have b1 := num_bd hi
  have b2 := num_bd hj
  rw [ord_eq hi.1 hj.1]
  unfold v_X4_orderNow
  rw [ei, ej] at *
  generalize v_X4_number (dr i.toNatClampNeg) = x at *
  generalize v_X4_number (dr j.toNatClampNeg) = y at *
  have e := sub_i (x := x) (y := y) (by omega) (by omega)
  have e0 : (0 : Int32).toInt = 0 := rfl
  by_cases h1 : y ≤ x
  · have g1 := h1
    rw [Int32.le_iff_toInt_le] at g1
    rw [if_pos h1, if_pos (show 0 ≤ x - y by rw [Int32.le_iff_toInt_le]; omega)]
    by_cases h2 : x ≤ y
    · have g2 := h2
      rw [Int32.le_iff_toInt_le] at g2
      rw [if_pos h2, if_pos (show x - y ≤ 0 by rw [Int32.le_iff_toInt_le]; omega)]
      rfl
    · have g2 := h2
      rw [Int32.le_iff_toInt_le] at g2
      rw [if_neg h2, if_neg (show ¬ x - y ≤ 0 by rw [Int32.le_iff_toInt_le]; omega)]
      rfl
  · have g1 := h1
    rw [Int32.le_iff_toInt_le] at g1
    rw [if_neg h1, if_neg (show ¬ 0 ≤ x - y by rw [Int32.le_iff_toInt_le]; omega)]
theorem rl_order {a1 a2 : Int32} (hR : Rq sp dy la re cr dr rf pl pz) : RO (x_X2_order a1 a2) (v_X4_order dr a1 a2).2 (v_X2_order dy a1 a2) (v_X4_order dr a1 a2).1 True True := by
  rcases two_d a1 a2 with ⟨h1, h2, hx, h3, h4⟩ | ⟨h1, hx⟩
  · obtain ⟨r1, r2, r3⟩ := RL_d hR h3
    obtain ⟨s1, s2, s3⟩ := RL_d hR h4
    have e : v_X4_order dr a1 a2 = (v_X4_orderNow dr a1 a2, 0) := by
      unfold v_X4_order
      rw [if_pos h1, if_pos h2]
    rw [e]
    exact RO_ok hx rfl (ordn_eq r1 s1 r3 s3) trivial
  · have e : v_X4_order dr a1 a2 = (0, 1) := by
      unfold v_X4_order
      exact two_n h1
    rw [e]
    exact RO_no hx xcd_b.symm trivial
theorem told_eq {i j : Nat} (hi : okv (dy i)) (hj : okv (dy j)) (h4 : j ≠ 4) (a1 a2 : Int32) (e1 : dy i = dr a1.toNatClampNeg) (e2 : dy j = dr a2.toNatClampNeg) :
    (if (v_X1_putBetween sp dy 12 i j).1 = 0 then (0 : Int32) else if (v_X2_leads (v_X1_putBetween sp dy 12 i j).2 dy i 12 j).1 = 0 then 0 else 1) = v_X4_leadsBack dr a1 a2 := by
  rw [btw_eq hi.1 hj.1]
  unfold v_X4_leadsBack
  rw [← e1, ← e2]
  cases e : v_X4_apart (dy i) (dy j) with
  | none => rfl
  | some t =>
    show (if (1 : Int32) = 0 then (0 : Int32) else if (v_X2_leads (va_up sp 12 t) dy i 12 j).1 = 0 then 0 else 1) = _
    rw [if_neg (by decide), lds_eq hi.1 hj.1 h4, va_up_self]
    show _ = om (v_X4_onBy (dy i) t 1) 0 (fun t7 => if v_X4_number t7 = v_X4_number (dy j) then 1 else 0)
    cases e2 : v_X4_onBy (dy i) t 1 with
    | none => rfl
    | some u =>
      show (if (if v_X4_number u = v_X4_number (dy j) then (1 : Int32) else 0) = 0 then (0 : Int32) else 1) = if v_X4_number u = v_X4_number (dy j) then 1 else 0
      by_cases c : v_X4_number u = v_X4_number (dy j)
      · rw [if_pos c, if_neg (by decide)]
      · rw [if_neg c, if_pos rfl]
theorem lb01 (a1 a2 : Int32) : v_X4_leadsBack dr a1 a2 = 0 ∨ v_X4_leadsBack dr a1 a2 = 1 := by
  unfold v_X4_leadsBack
  cases v_X4_apart (dr a1.toNatClampNeg) (dr a2.toNatClampNeg) with
  | none => exact Or.inl rfl
  | some t =>
    show om (v_X4_onBy (dr a1.toNatClampNeg) t 1) 0 (fun t7 => if v_X4_number t7 = v_X4_number (dr a2.toNatClampNeg) then (1 : Int32) else 0) = 0 ∨ om (v_X4_onBy (dr a1.toNatClampNeg) t 1) 0 (fun t7 => if v_X4_number t7 = v_X4_number (dr a2.toNatClampNeg) then (1 : Int32) else 0) = 1
    cases v_X4_onBy (dr a1.toNatClampNeg) t 1 with
    | none => exact Or.inl rfl
    | some u => exact if01
theorem rl_isToldBack {a1 a2 : Int32} (hR : Rq sp dy la re cr dr rf pl pz) : RO (x_X2_isToldBack sp dy a1 a2) (v_X4_isToldBack dr a1 a2).2 (v_X2_isToldBack sp dy a1 a2).1 (v_X4_isToldBack dr a1 a2).1 (Rq (v_X2_isToldBack sp dy a1 a2).2.1 (v_X2_isToldBack sp dy a1 a2).2.2 la re cr dr rf pl pz) True := by
  rcases two_d a1 a2 with ⟨h1, h2, hx, h3, h4⟩ | ⟨h1, hx⟩
  · obtain ⟨r1, r2, r3⟩ := RL_d hR h3
    obtain ⟨s1, s2, s3⟩ := RL_d hR h4
    have e : v_X4_isToldBack dr a1 a2 = (v_X4_leadsBack dr a1 a2, 0) := by
      unfold v_X4_isToldBack
      rw [if_pos h1, if_pos h2]
      exact b01 _ (lb01 _ _)
    have et := told_eq (sp := sp) r1 s1 (by omega) a1 a2 r3 s3
    rw [e]
    have q1 : ∀ j, j < 12 → (v_X1_putBetween sp dy 12 a1.toNatClampNeg a2.toNatClampNeg).2 j = sp j := by
      rw [btw_eq r1.1 s1.1]
      cases v_X4_apart (dy a1.toNatClampNeg) (dy a2.toNatClampNeg) with
      | none => exact fun _ _ => rfl
      | some t => exact fun j hj => va_up_ne _ _ (by omega)
    have q2 : ∀ (sp' : Nat → TR) (j : Nat), j < 4 → (v_X2_leads sp' dy a1.toNatClampNeg 12 a2.toNatClampNeg).2 j = dy j := by
      intro sp'
      rw [lds_eq r1.1 s1.1 (by omega)]
      cases v_X4_onBy (dy a1.toNatClampNeg) (sp' 12) 1 with
      | none => exact fun _ _ => rfl
      | some t => exact fun j hj => va_up_ne _ _ (by omega)
    have ex : x_X2_isToldBack sp dy a1 a2 = none := by
      have : x_X2_isToldBack sp dy a1 a2 = xo (x_X2_dateAt a1) (xo (x_X2_dateAt a2) none) := by
        unfold x_X2_isToldBack
        simp only [ite_self]
      rw [this]; exact hx
    refine RO_ok ex rfl ?_ ?_
    · show (v_X2_isToldBack sp dy a1 a2).1 = v_X4_leadsBack dr a1 a2
      rw [← et]
      unfold v_X2_isToldBack
      by_cases c : (v_X1_putBetween sp dy 12 a1.toNatClampNeg a2.toNatClampNeg).1 = 0
      · rw [if_pos c, if_pos c]
      · rw [if_neg c, if_neg c]
        by_cases c2 : (v_X2_leads (v_X1_putBetween sp dy 12 a1.toNatClampNeg a2.toNatClampNeg).2 dy a1.toNatClampNeg 12 a2.toNatClampNeg).1 = 0
        · rw [if_pos c2, if_pos c2]
        · rw [if_neg c2, if_neg c2]
    · unfold v_X2_isToldBack
      have q2 := q2 (v_X1_putBetween sp dy 12 a1.toNatClampNeg a2.toNatClampNeg).2
      generalize v_X1_putBetween sp dy 12 a1.toNatClampNeg a2.toNatClampNeg = B at q1 q2 ⊢
      generalize v_X2_leads B.2 dy a1.toNatClampNeg 12 a2.toNatClampNeg = L at q2 ⊢
      by_cases c : B.1 = 0
      · rw [if_pos c]
        exact RL_far hR q1 (fun _ _ => rfl)
      · rw [if_neg c]
        by_cases c2 : L.1 = 0
        · rw [if_pos c2]
          exact RL_far hR q1 q2
        · rw [if_neg c2]
          exact RL_far hR q1 q2
  · have e : v_X4_isToldBack dr a1 a2 = (0, 1) := by
      unfold v_X4_isToldBack
      exact two_n h1
    rw [e]
    refine RO_no (E := iobN) ?_ xcd_b.symm trivial
    have : x_X2_isToldBack sp dy a1 a2 = xo (x_X2_dateAt a1) (xo (x_X2_dateAt a2) none) := by
      unfold x_X2_isToldBack
      simp only [ite_self]
    rw [this]; exact hx
/-! the house -/
def hs5 (kn rf la zz nn : Int32) (k : Nat) : Int32 := if k = 4 then nn else if k = 3 then zz else if k = 2 then la else if k = 1 then rf else if k = 0 then kn else 0
theorem hs5_eq (kn rf la zz nn : Int32) (k : Nat) : upd (upd (upd (upd (upd (fun _ => 0) (0 : Int32).toNatClampNeg kn) (1 : Int32).toNatClampNeg rf) (2 : Int32).toNatClampNeg la) (3 : Int32).toNatClampNeg zz) (4 : Int32).toNatClampNeg nn k = hs5 kn rf la zz nn k := by
  have t0 : (0 : Int32).toNatClampNeg = 0 := rfl
  have t1 : (1 : Int32).toNatClampNeg = 1 := rfl
  have t2 : (2 : Int32).toNatClampNeg = 2 := rfl
  have t3 : (3 : Int32).toNatClampNeg = 3 := rfl
  have t4 : (4 : Int32).toNatClampNeg = 4 := rfl
  rw [t0, t1, t2, t3, t4]
  rfl
theorem house_w {kn a1 : Int32} (hE : E4 sp cr) : ∀ (n i : Nat) (nn zz : Int32), 4 - i < n → i ≤ 4 → wX4_houseNow_7 cr kn rf pz a1 n (nI i) nn zz = hs5 kn rf (Int32.ofNat (pz - 1)) (wX2_zeroCards_4 sp n (nI i) zz) (wX2_negativeCards_4 sp n (nI i) nn) a1.toNatClampNeg := by
  intro n
  induction n with
  | zero => intro i nn zz h; omega
  | succ n ih =>
    intro i nn zz hn hi
    rw [wX4_houseNow_7, wX2_zeroCards_4, wX2_negativeCards_4]
    by_cases c : 4 ≤ nI i
    · rw [if_pos c, if_pos c, if_pos c]
      exact hs5_eq _ _ _ _ _ _
    · rw [if_neg c, if_neg c, if_neg c, nI_1]
      have c2 : ¬ 4 ≤ i := fun q => c (nI_le (a := 4) q (by omega))
      have ec : (nI i).toNatClampNeg = i := nI_clamp (by omega)
      have h0 := hE i (by omega)
      have e1 : v_X1_isNothing sp (nI i).toNatClampNeg = v_X4_isZeroNow cr (nI i) := by
        rw [ec]
        show _ = v_X4_isSame (cr (nI i).toNatClampNeg) v_X4_nothing
        rw [ec]
        exact zer_eq h0
      have e2 : v_X1_isBelowZero sp (nI i).toNatClampNeg = v_X4_isNegativeNow cr (nI i) := neg_eq (by rw [ec]; exact h0)
      rw [ih (i + 1) _ _ (by omega) (by omega), e1, e2]
      have k : ∀ (x z : Int32) (F : Int32 → Int32), (if x = 0 then F (z + 0) else F (z + 1)) = F (z + v_X4_one x) := by
        intro x z F
        unfold v_X4_one
        by_cases q : x = 0
        · rw [if_pos q, if_pos q]
        · rw [if_neg q, if_neg q]
      rw [k (v_X4_isZeroNow cr (nI i)) zz (fun y => wX2_zeroCards_4 sp n (nI (i + 1)) y), k (v_X4_isNegativeNow cr (nI i)) nn (fun y => wX2_negativeCards_4 sp n (nI (i + 1)) y)]
theorem fu_40 : ((4 : Int32).toInt - (0 : Int32).toInt).toNat + 1 = 4 + 1 := by decide
theorem ofh_eq {kn : Int32} {k : Nat} (hk : k ≤ 4) (hR : Rq sp dy la re cr dr rf pl pz) : v_X2_ofHouse sp la kn re (nI k) = v_X4_houseNow cr kn rf pz (nI k) := by
  obtain ⟨hE, b, c, d, e, f, g⟩ := id hR
  have h := house_w (rf := rf) (pz := pz) (kn := kn) (a1 := nI k) hE (4 + 1) 0 0 0 (by omega) (by omega)
  unfold v_X4_houseNow
  rw [show (0 : Int32) = nI 0 from rfl] at h ⊢
  rw [h, nI_clamp (by omega)]
  unfold v_X2_ofHouse v_X2_zeroCards v_X2_negativeCards
  rw [fu_40, show (0 : Int32) = nI 0 from rfl, c, e]
  unfold hs5
  rcases (show k = 0 ∨ k = 1 ∨ k = 2 ∨ k = 3 ∨ k = 4 by omega) with rfl | rfl | rfl | rfl | rfl
  · rw [if_pos (show nI 0 = nI 0 by decide), if_neg (show ¬ (0 : Nat) = 4 by decide), if_neg (show ¬ (0 : Nat) = 3 by decide), if_neg (show ¬ (0 : Nat) = 2 by decide), if_neg (show ¬ (0 : Nat) = 1 by decide), if_pos (rfl : (0 : Nat) = 0)]
  · rw [if_neg (show ¬ nI 1 = nI 0 by decide), if_pos (show nI 1 = 1 by decide), if_neg (show ¬ (1 : Nat) = 4 by decide), if_neg (show ¬ (1 : Nat) = 3 by decide), if_neg (show ¬ (1 : Nat) = 2 by decide), if_pos (rfl : (1 : Nat) = 1)]
  · rw [if_neg (show ¬ nI 2 = nI 0 by decide), if_neg (show ¬ nI 2 = 1 by decide), if_pos (show nI 2 = 2 by decide), if_neg (show ¬ (2 : Nat) = 4 by decide), if_neg (show ¬ (2 : Nat) = 3 by decide), if_pos (rfl : (2 : Nat) = 2)]
  · rw [if_neg (show ¬ nI 3 = nI 0 by decide), if_neg (show ¬ nI 3 = 1 by decide), if_neg (show ¬ nI 3 = 2 by decide), if_pos (show nI 3 = 3 by decide), if_neg (show ¬ (3 : Nat) = 4 by decide), if_pos (rfl : (3 : Nat) = 3)]
  · rw [if_neg (show ¬ nI 4 = nI 0 by decide), if_neg (show ¬ nI 4 = 1 by decide), if_neg (show ¬ nI 4 = 2 by decide), if_neg (show ¬ nI 4 = 3 by decide), if_pos (rfl : (4 : Nat) = 4)]
theorem rl_house {a1 kn : Int32} (hR : Rq sp dy la re cr dr rf pl pz) : (x_X2_house a1 = none → (v_X4_house cr kn rf pz a1).2 = 0 ∧ v_X2_house sp la kn re a1 = (v_X4_house cr kn rf pz a1).1) ∧ ∀ E, x_X2_house a1 = some E → (v_X4_house cr kn rf pz a1).2 = 1 := by
  have l4 : (lN 4) = (4 : Int64) := rfl
  rcases wh_cs a1 5 4 rfl (by decide) with ⟨g1, g2, k, hk, rfl⟩ | ⟨g1, g2⟩
  · rw [l4] at g1
    have e : v_X4_house cr kn rf pz (nI k) = (v_X4_houseNow cr kn rf pz (nI k), 0) := by
      unfold v_X4_house
      rw [if_neg g1]
    rw [e]
    refine ⟨fun _ => ⟨rfl, ofh_eq hk hR⟩, fun E h => ?_⟩
    unfold x_X2_house at h
    rw [g2] at h
    exact (nomatch h)
  · rw [l4] at g1
    have e : v_X4_house cr kn rf pz a1 = (0, 1) := by
      unfold v_X4_house
      rw [if_pos g1]
    rw [e]
    refine ⟨fun h => ?_, fun _ _ => rfl⟩
    unfold x_X2_house at h
    rw [g2] at h
    exact (nomatch h)
/-! texts and the like leave the relation -/
theorem rl_times {a1 a2 : Int32} (hR : Rq sp dy la re cr dr rf pl pz) : Rq (v_X2_times sp a1 a2) dy la re cr dr rf pl pz := by
  unfold v_X2_times
  rw [ptim_eq]
  exact RL_12 hR
theorem rl_tidy {a1 : Int32} (hR : Rq sp dy la re cr dr rf pl pz) : Rq (v_X2_tidy sp a1) dy la re cr dr rf pl pz := by
  unfold v_X2_tidy
  rw [ptid_eq]
  exact RL_12 hR
theorem rl_opposite {a1 : Int32} (hR : Rq sp dy la re cr dr rf pl pz) : Rq (v_X2_opposite sp a1) dy la re cr dr rf pl pz := by
  unfold v_X2_opposite
  rw [popp_eq]
  exact RL_12 hR
theorem rl_with {a1 a2 a3 : Int32} (hR : Rq sp dy la re cr dr rf pl pz) : Rq (v_X2_with sp a1 a2 a3) dy la re cr dr rf pl pz := by
  unfold v_X2_with
  by_cases c : a3 = 0
  · rw [if_pos c, psum_eq]
    exact RL_12 hR
  · rw [if_neg c, pdif_eq]
    exact RL_12 hR
theorem rl_addw {a1 a2 : Int32} : ∀ (n : Nat) (kk ok : Int32) (sp : Nat → TR), Rq sp dy la re cr dr rf pl pz → Rq (wX2_added_41 a1 a2 n kk ok sp) dy la re cr dr rf pl pz := by
  intro n
  induction n with
  | zero => intro kk ok sp h; exact h
  | succ n ih =>
    intro kk ok sp h
    rw [wX2_added_41]
    by_cases c : a2 ≤ kk
    · rw [if_pos c]; exact h
    · rw [if_neg c]
      by_cases d : ok = 0
      · rw [if_pos d]; exact h
      · rw [if_neg d, psum_eq]
        exact ih _ _ _ (RL_12 h)
theorem rl_added {a1 a2 : Int32} (hR : Rq sp dy la re cr dr rf pl pz) : Rq (v_X2_added sp a1 a2) dy la re cr dr rf pl pz := by
  unfold v_X2_added
  by_cases c : a2 < 0
  · rw [if_pos c]; exact hR
  · rw [if_neg c]
    by_cases d : a2 ≤ 9
    · rw [if_pos d, put_eq]
      exact rl_addw _ _ _ _ (RL_12 hR)
    · rw [if_neg d]; exact hR
theorem rl_moved {a1 a2 a3 : Int32} (h1 : a1.toNatClampNeg < 4) (hR : Rq sp dy la re cr dr rf pl pz) : Rq sp (v_X2_moved sp dy a1 a2 a3) la re cr dr rf pl pz := by
  obtain ⟨r1, r2, r3⟩ := RL_d hR h1
  have e : v_X2_moved sp dy a1 a2 a3 = (v_X2_reach sp dy a1.toNatClampNeg a2.toNatClampNeg a3).2 := by
    unfold v_X2_moved
    by_cases c : (v_X2_reach sp dy a1.toNatClampNeg a2.toNatClampNeg a3).1 = 0
    · rw [if_pos c]
    · rw [if_neg c]
  rw [e, rch_eq r1.1]
  exact RL_4 hR
theorem rl_apart {a1 a2 : Int32} (h1 : a1.toNatClampNeg < 4) (h2 : a2.toNatClampNeg < 4) (hR : Rq sp dy la re cr dr rf pl pz) : Rq (v_X2_apart sp dy a1 a2) dy la re cr dr rf pl pz := by
  obtain ⟨r1, r2, r3⟩ := RL_d hR h1
  obtain ⟨s1, s2, s3⟩ := RL_d hR h2
  unfold v_X2_apart
  rw [btw_eq r1.1 s1.1]
  exact RL_12 hR
/-- what a date's place that is there says of its number -/
theorem x_da {a : Int32} {b : Option String} (h : xo (x_X2_dateAt a) b = none) : a.toNatClampNeg < 4 ∧ b = none := by
  rcases da_cs a with ⟨h1, h2, h3⟩ | ⟨h1, h2⟩
  · rw [h2] at h; exact ⟨h3, h⟩
  · rw [h2] at h; exact (nomatch h)
end RLU
end
