section
/-! method by method: copies, changes, the pile, what is asked, dates -/
section RLT
variable {sp dy cr dr pl : Nat → TR} {la re rf : Int32} {pz : Nat}
theorem va_cm {α : Type} {f : Nat → α} {k j : Nat} {v w : α} (h : k ≠ j) : va_up (va_up f k v) j w = va_up (va_up f j w) k v := by
  funext i
  by_cases a : i = j
  · rw [a, va_up_self, va_up_ne _ _ (Ne.symm h), va_up_self]
  · rw [va_up_ne _ _ a]
    by_cases b : i = k
    · rw [b, va_up_self, va_up_self]
    · rw [va_up_ne _ _ b, va_up_ne _ _ b, va_up_ne _ _ a]
theorem two_c (a1 a2 : Int32) : (v_X4_isNone a1 = 0 ∧ v_X4_isNone a2 = 0 ∧ xo (x_X2_cardAt a1) (xo (x_X2_cardAt a2) none) = none ∧ a1.toNatClampNeg < 4 ∧ a2.toNatClampNeg < 4) ∨ ((¬ v_X4_isNone a1 = 0 ∨ (v_X4_isNone a1 = 0 ∧ ¬ v_X4_isNone a2 = 0)) ∧ xo (x_X2_cardAt a1) (xo (x_X2_cardAt a2) none) = some iobN) := by
  rcases ca_cs a1 with ⟨h1, h2, h3⟩ | ⟨h1, h2⟩
  · rcases ca_cs a2 with ⟨g1, g2, g3⟩ | ⟨g1, g2⟩
    · exact Or.inl ⟨h1, g1, by rw [h2, g2]; rfl, h3, g3⟩
    · exact Or.inr ⟨Or.inr ⟨h1, g1⟩, by rw [h2, g2]; rfl⟩
  · exact Or.inr ⟨Or.inl h1, by rw [h2]; rfl⟩
theorem two_n {α : Type} {a1 a2 : Int32} {x y : α} (h : ¬ v_X4_isNone a1 = 0 ∨ (v_X4_isNone a1 = 0 ∧ ¬ v_X4_isNone a2 = 0)) : (if v_X4_isNone a1 = 0 then (if v_X4_isNone a2 = 0 then x else y) else y) = y := by
  rcases h with h | ⟨h, g⟩
  · rw [if_neg h]
  · rw [if_pos h, if_neg g]
theorem cA_some {i : Nat} {t : TR} (hi : i ≠ 12) : v_X2_actOnCard (va_up sp 12 t) re i 1 = cA sp re i (some t) := act_c (v := some t) hi
theorem cD_some {j : Nat} {t : TR} (hj : j ≠ 4) (h1 : okv (dy j)) (h2 : okv t) : v_X2_actOnDate (va_up dy 4 t) re j 1 = cD dy re j (some t) := act_d (v := some t) hj h1 (fun u hu => by rw [← Option.some.inj hu]; exact h2)
theorem rl_copy {a1 a2 : Int32} (hR : Rq sp dy la re cr dr rf pl pz) : RO (x_X2_copy a1 a2) (v_X4_copy cr a1 a2).2.2 (v_X2_copy sp re a1 a2).1 (v_X4_copy cr a1 a2).1 (Rq (v_X2_copy sp re a1 a2).2.1 dy la (v_X2_copy sp re a1 a2).2.2 (v_X4_copy cr a1 a2).2.1 dr rf pl pz) (Rq sp dy la re (v_X4_copy cr a1 a2).2.1 dr rf pl pz) := by
  have hE := hR.1
  rcases two_c a1 a2 with ⟨h1, h2, hx, h3, h4⟩ | ⟨h1, hx⟩
  · refine pa_c3 (t := cr a2.toNatClampNeg) hR h3 hx ?_ ?_
    · unfold v_X2_copy
      rw [pe3, psp_all, hE _ h4]
      exact cA_some (by omega)
    · unfold v_X4_copy
      rw [if_pos h1, if_pos h2, get_m]
      rfl
  · have e : v_X4_copy cr a1 a2 = (0, cr, 1) := by
      unfold v_X4_copy
      exact two_n h1
    rw [e]
    exact RO_no hx xcd_b.symm hR
theorem rl_change {a1 a2 a3 : Int32} (hR : Rq sp dy la re cr dr rf pl pz) : RO (x_X2_change a1 a2) (v_X4_change cr a1 a2 a3).2.2 (v_X2_change sp re a1 a2 a3).1 (v_X4_change cr a1 a2 a3).1 (Rq (v_X2_change sp re a1 a2 a3).2.1 dy la (v_X2_change sp re a1 a2 a3).2.2 (v_X4_change cr a1 a2 a3).2.1 dr rf pl pz) (Rq sp dy la re (v_X4_change cr a1 a2 a3).2.1 dr rf pl pz) := by
  have hE := hR.1
  have l2 : (lN 2) = (2 : Int64) := rfl
  have i3 : (nI (2 + 1)) = (3 : Int32) := rfl
  rcases wh_cs a2 3 2 rfl (by decide) with ⟨g1, g2, k, hk, rfl⟩ | ⟨g1, g2⟩
  · rw [l2] at g1
    rcases ca_cs a1 with ⟨h1, h2, h3⟩ | ⟨h1, h2⟩
    · refine pa_c3 (t := rwu (cr a1.toNatClampNeg) k a3) hR h3 (by unfold x_X2_change; rw [h2, g2]; simp only [xo_n, ite_self]) ?_ ?_
      · rcases (show k = 0 ∨ k = 1 ∨ k = 2 by omega) with rfl | rfl | rfl
        · unfold v_X2_change
          rw [if_pos (show nI 0 = 0 by decide), if_neg (show ¬ nI 0 = 1 by decide), if_neg (show ¬ nI 0 = 2 by decide)]
          rw [pe3, put_eq, span_32, hE _ h3]
          exact act_c (by omega)
        · unfold v_X2_change
          rw [if_neg (show ¬ nI 1 = 0 by decide), if_pos (show nI 1 = 1 by decide), if_neg (show ¬ nI 1 = 2 by decide)]
          rw [pe3, put_eq, span_32, hE _ h3]
          exact act_c (by omega)
        · unfold v_X2_change
          rw [if_neg (show ¬ nI 2 = 0 by decide), if_neg (show ¬ nI 2 = 1 by decide), if_pos (show nI 2 = 2 by decide)]
          rw [pe3, put_eq, span_32, hE _ h3]
          exact act_c (by omega)
      · unfold v_X4_change
        rw [if_neg g1, if_pos h1, get_m, nI_clamp (by omega)]
        rfl
    · have e : v_X4_change cr a1 (nI k) a3 = (0, cr, 1) := by
        unfold v_X4_change
        rw [if_neg g1, if_neg h1]
      rw [e]
      exact RO_no (by unfold x_X2_change; rw [h2]; rfl) xcd_b.symm hR
  · rw [l2] at g1
    rcases ca_cs a1 with ⟨h1, h2, h3⟩ | ⟨h1, h2⟩
    · have e : v_X4_change cr a1 a2 a3 = (0, cr, 2) := by
        unfold v_X4_change
        rw [if_pos g1, if_pos h1]
      rw [e]
      exact RO_no (E := iaeN) (by unfold x_X2_change; rw [h2, g2]; rfl) xcd_a.symm hR
    · have e : v_X4_change cr a1 a2 a3 = (0, cr, 1) := by
        unfold v_X4_change
        rw [if_pos g1, if_neg h1]
      rw [e]
      exact RO_no (by unfold x_X2_change; rw [h2]; rfl) xcd_b.symm hR
theorem rl_swap {a1 a2 : Int32} (hR : Rq sp dy la re cr dr rf pl pz) : RO (x_X2_swap a1 a2) (v_X4_swap cr a1 a2).2.2 (v_X2_swap sp re a1 a2).1 (v_X4_swap cr a1 a2).1 (Rq (v_X2_swap sp re a1 a2).2.1 dy la (v_X2_swap sp re a1 a2).2.2 (v_X4_swap cr a1 a2).2.1 dr rf pl pz) (Rq sp dy la re (v_X4_swap cr a1 a2).2.1 dr rf pl pz) := by
  obtain ⟨hE, b, c, d, e, f, g⟩ := id hR
  rcases two_c a1 a2 with ⟨h1, h2, hx, h3, h4⟩ | ⟨h1, hx⟩
  · have e4 : v_X4_swap cr a1 a2 = (if cr a1.toNatClampNeg = cr a2.toNatClampNeg then 0 else 1, va_up (va_up cr a1.toNatClampNeg (cr a2.toNatClampNeg)) a2.toNatClampNeg (cr a1.toNatClampNeg), 0) := by
      unfold v_X4_swap
      rw [if_pos h1, if_pos h2]
      have eK : v_X4_getK cr a1 (cr a2.toNatClampNeg) = v_X4_get cr a1 (cr a2.toNatClampNeg) := rfl
      rw [eK, get_m, get_m]
    have e2 : v_X2_swap sp re a1 a2 = cA (va_up sp a2.toNatClampNeg (sp a1.toNatClampNeg)) re a1.toNatClampNeg (some (sp a2.toNatClampNeg)) := by
      unfold v_X2_swap
      rw [pe3, psp_all, psp_all, va_up_ne _ _ (show a1.toNatClampNeg ≠ 12 by omega), va_cm (show 12 ≠ a2.toNatClampNeg by omega)]
      exact cA_some (by omega)
    rw [e4, e2]
    have z1 := hE _ h3
    have z2 := hE _ h4
    generalize a1.toNatClampNeg = i at h3 z1 ⊢
    generalize a2.toNatClampNeg = j at h4 z2 ⊢
    have ei : va_up sp j (sp i) i = cr i := by
      by_cases q : i = j
      · rw [q, va_up_self, hE _ h4]
      · rw [va_up_ne _ _ q]; exact z1
    refine RO_ok hx rfl ?_ ?_
    · show (if va_up sp j (sp i) i = sp j then (0 : Int32) else 1) = if cr i = cr j then 0 else 1
      rw [ei, z2]
    · refine ⟨?_, b, c, ?_, e, f, g⟩
      · show E4 (if va_up sp j (sp i) i = sp j then va_up (va_up sp j (sp i)) 12 (sp j) else va_up (va_up (va_up sp j (sp i)) 12 (sp j)) i (sp j)) (va_up (va_up cr i (cr j)) j (cr i))
        rw [ei, z2]
        intro k hk
        by_cases q : cr i = cr j
        · rw [if_pos q, va_up_ne _ _ (by omega)]
          by_cases kj : k = j
          · rw [kj, va_up_self, va_up_self, z1]
          · rw [va_up_ne _ _ kj, va_up_ne _ _ kj]
            by_cases ki : k = i
            · rw [ki, va_up_self, z1]; exact q
            · rw [va_up_ne _ _ ki]; exact hE k hk
        · rw [if_neg q]
          by_cases ki : k = i
          · rw [ki, va_up_self]
            by_cases ij : i = j
            · exact absurd (by rw [ij]) q
            · rw [va_up_ne _ _ ij, va_up_self]
          · rw [va_up_ne _ _ ki, va_up_ne _ _ (by omega)]
            by_cases kj : k = j
            · rw [kj, va_up_self, va_up_self, z1]
            · rw [va_up_ne _ _ kj, va_up_ne _ _ kj, va_up_ne _ _ ki]; exact hE k hk
      · intro k hk
        show (if va_up sp j (sp i) i = sp j then va_up (va_up sp j (sp i)) 12 (sp j) else va_up (va_up (va_up sp j (sp i)) 12 (sp j)) i (sp j)) (4 + k) = pl k
        by_cases q : va_up sp j (sp i) i = sp j
        · rw [if_pos q, va_up_ne _ _ (by omega), va_up_ne _ _ (by omega)]; exact d k hk
        · rw [if_neg q, va_up_ne _ _ (by omega), va_up_ne _ _ (by omega), va_up_ne _ _ (by omega)]; exact d k hk
  · have e : v_X4_swap cr a1 a2 = (0, cr, 1) := by
      unfold v_X4_swap
      exact two_n h1
    rw [e]
    exact RO_no hx xcd_b.symm hR
theorem pz_n {pz : Nat} (h : pz ≤ 9) : Int32.ofNat (pz - 1) = nI (pz - 1) ∧ pz - 1 ≤ 8 := ⟨rfl, by omega⟩
theorem rl_lay {a1 mc : Int32} (hR : Rq sp dy la re cr dr rf pl pz) : RO (x_X2_lay la a1) (v_X4_lay cr rf pl pz mc a1).2.1 (v_X2_lay sp la re a1).1 (v_X4_lay cr rf pl pz mc a1).1 (Rq (v_X2_lay sp la re a1).2.1 dy (v_X2_lay sp la re a1).2.2.1 (v_X2_lay sp la re a1).2.2.2 cr dr (v_X4_lay cr rf pl pz mc a1).2.2.1 (v_X4_lay cr rf pl pz mc a1).2.2.2.1 (v_X4_lay cr rf pl pz mc a1).2.2.2.2.1) (Rq sp dy la re cr dr (v_X4_lay cr rf pl pz mc a1).2.2.1 (v_X4_lay cr rf pl pz mc a1).2.2.2.1 (v_X4_lay cr rf pl pz mc a1).2.2.2.2.1) := by
  obtain ⟨hE, b, c, d, e, f, g⟩ := id hR
  have hla : la = nI (pz - 1) := c
  rcases ca_cs a1 with ⟨h1, h2, h3⟩ | ⟨h1, h2⟩
  · by_cases q : pz = 9
    · have q8 : la = 8 := by rw [hla, q]; rfl
      have e4 : v_X4_lay cr rf pl pz mc a1 = (-9, 0, rf + 1, pl, pz, mc) := by
        unfold v_X4_lay
        rw [if_pos h1, if_pos (show Int32.ofNat (pz - 1) = 8 by rw [q]; rfl)]; rfl
      have e2 : v_X2_lay sp la re a1 = (-9, sp, la, re + 1) := by
        unfold v_X2_lay
        rw [if_neg (show ¬ la < 8 by rw [q8]; decide)]; rfl
      rw [e4, e2]
      refine RO_ok (by unfold x_X2_lay; rw [h2]; simp only [xo_n, ite_self]) rfl rfl ⟨hE, b, c, d, by show re + 1 = rf + 1; rw [e], f, g⟩
    · have q8 : la < 8 := by rw [hla]; exact nI_lt (b := 8) (by omega) (by decide)
      have e2 : v_X2_lay sp la re a1 = (la + 1, va_up sp (4 + (pz - 1)) (sp a1.toNatClampNeg), la + 1, re) := by
        unfold v_X2_lay
        rw [if_pos q8, psp_all, hla, nI_clamp (by omega)]
      have e4 : v_X4_lay cr rf pl pz mc a1 = (la + 1, 0, rf, va_up pl (pz - 1) (cr a1.toNatClampNeg), if pz = 0 then 2 else pz + 1, mc + 1) := by
        unfold v_X4_lay
        rw [if_pos h1, if_neg (show ¬ Int32.ofNat (pz - 1) = 8 from fun z => by
          have := (nI_eq (a := pz - 1) (b := 8) (by omega) (by omega)).mp z
          omega)]
        by_cases z : pz = 0
        · rw [if_pos z, if_pos z, hla, z]; rfl
        · rw [if_neg z, if_neg z, hla, nI_1]
          have : pz + 1 - 1 = pz - 1 + 1 := by omega
          rw [this]; rfl
      rw [e4, e2]
      refine RO_ok (by unfold x_X2_lay; rw [h2]; simp only [xo_n, ite_self]) rfl rfl ⟨fun j hj => ?_, b, ?_, fun k hk => ?_, e, ?_, g⟩
      · show va_up sp (4 + (pz - 1)) (sp a1.toNatClampNeg) j = cr j
        rw [va_up_ne _ _ (by omega)]; exact hE j hj
      · show la + 1 = Int32.ofNat ((if pz = 0 then 2 else pz + 1) - 1)
        by_cases z : pz = 0
        · rw [if_pos z, hla, z]; rfl
        · rw [if_neg z, hla, nI_1]
          have : pz + 1 - 1 = pz - 1 + 1 := by omega
          rw [this]; rfl
      · show va_up sp (4 + (pz - 1)) (sp a1.toNatClampNeg) (4 + k) = va_up pl (pz - 1) (cr a1.toNatClampNeg) k
        have hk : k + 1 < if pz = 0 then 2 else pz + 1 := hk
        have hk2 : k ≤ pz - 1 := by
          by_cases z : pz = 0
          · rw [if_pos z] at hk; omega
          · rw [if_neg z] at hk; omega
        by_cases z : k = pz - 1
        · rw [z, va_up_self, va_up_self]; exact hE _ h3
        · rw [va_up_ne _ _ (by omega), va_up_ne _ _ z]; exact d k (by omega)
      · show (if pz = 0 then 2 else pz + 1) ≤ 9
        by_cases z : pz = 0
        · rw [if_pos z]; omega
        · rw [if_neg z]; omega
  · have e4 : v_X4_lay cr rf pl pz mc a1 = (0, 1, rf, pl, pz, mc) := by
      unfold v_X4_lay
      rw [if_neg h1]
    rw [e4]
    exact RO_no (E := iobN) (by unfold x_X2_lay; rw [h2]; rfl) xcd_b.symm hR
theorem rl_take {a1 mc : Int32} (hR : Rq sp dy la re cr dr rf pl pz) : RO (x_X2_take la a1) (v_X4_take cr rf pl pz mc a1).2.2.1 (v_X2_take sp la re a1).1 (v_X4_take cr rf pl pz mc a1).1 (Rq (v_X2_take sp la re a1).2.1 dy (v_X2_take sp la re a1).2.2.1 (v_X2_take sp la re a1).2.2.2 (v_X4_take cr rf pl pz mc a1).2.1 dr (v_X4_take cr rf pl pz mc a1).2.2.2.1 pl (v_X4_take cr rf pl pz mc a1).2.2.2.2.1) (Rq sp dy la re (v_X4_take cr rf pl pz mc a1).2.1 dr (v_X4_take cr rf pl pz mc a1).2.2.2.1 pl (v_X4_take cr rf pl pz mc a1).2.2.2.2.1) := by
  obtain ⟨hE, b, c, d, e, f, g⟩ := id hR
  have hla : la = nI (pz - 1) := c
  rcases ca_cs a1 with ⟨h1, h2, h3⟩ | ⟨h1, h2⟩
  · by_cases q : pz - 1 = 0
    · have q8 : la = 0 := by rw [hla, q]; rfl
      have e4 : v_X4_take cr rf pl pz mc a1 = (-9, cr, 0, rf + 1, pz, mc) := by
        unfold v_X4_take
        rw [if_pos h1, if_pos (show Int32.ofNat (pz - 1) = 0 by rw [q]; rfl), if_neg (by decide)]; rfl
      have e2 : v_X2_take sp la re a1 = (-9, sp, la, re + 1) := by
        unfold v_X2_take
        rw [if_neg (show ¬ 1 ≤ la by rw [q8]; decide)]; rfl
      rw [e4, e2]
      exact RO_ok (by unfold x_X2_take; rw [h2]; simp only [xo_n, ite_self]) rfl rfl ⟨hE, b, c, d, by show re + 1 = rf + 1; rw [e], f, g⟩
    · have q8 : 1 ≤ la := by rw [hla]; exact nI_le (a := 1) (by omega) (by omega)
      obtain ⟨m, hm⟩ : ∃ m : Nat, pz - 1 = m + 1 := ⟨pz - 1 - 1, by omega⟩
      have el : la - 1 = nI m := by rw [hla, hm]; exact nI_pred m
      have e2 : v_X2_take sp la re a1 = (nI m, va_up sp a1.toNatClampNeg (sp (4 + m)), nI m, re) := by
        unfold v_X2_take
        rw [if_pos q8, psp_all, el, nI_clamp (by omega)]
      have e4 : v_X4_take cr rf pl pz mc a1 = (nI m, va_up cr a1.toNatClampNeg (pl m), 0, rf, pz - 1, mc + 1) := by
        unfold v_X4_take
        rw [if_pos h1, if_neg (show ¬ Int32.ofNat (pz - 1) = 0 from fun z => by
          have := (nI_eq (a := pz - 1) (b := 0) (by omega) (by omega)).mp z
          omega), if_pos rfl, get_m]
        have : pz - 1 - 1 = m := by omega
        rw [this]; rfl
      rw [e4, e2]
      have em := d m (by omega)
      refine RO_ok (by unfold x_X2_take; rw [h2]; simp only [xo_n, ite_self]) rfl rfl ⟨?_, b, ?_, fun k hk => ?_, e, ?_, g⟩
      · show E4 (va_up sp a1.toNatClampNeg (sp (4 + m))) (va_up cr a1.toNatClampNeg (pl m))
        rw [em]
        exact E4_up hE
      · show nI m = Int32.ofNat (pz - 1 - 1)
        have : pz - 1 - 1 = m := by omega
        rw [this]; rfl
      · show va_up sp a1.toNatClampNeg (sp (4 + m)) (4 + k) = pl k
        have hk : k + 1 < pz - 1 := hk
        rw [va_up_ne _ _ (by omega)]; exact d k (by omega)
      · show pz - 1 ≤ 9
        omega
  · have e4 : v_X4_take cr rf pl pz mc a1 = (0, cr, 1, rf, pz, mc) := by
      unfold v_X4_take
      rw [if_neg h1]
    rw [e4]
    exact RO_no (E := iobN) (by unfold x_X2_take; rw [h2]; rfl) xcd_b.symm hR
/-- the sum's loops: the class's running sum is in the scratch span -/
theorem sum_w {a1 : Int32} (hi : a1.toNatClampNeg < 4) (hP : ∀ k, k + 1 < pz → sp (4 + k) = pl k) (hz : pz ≤ 9) : ∀ (n m : Nat) (t : TR), pz - 1 - m < n → m ≤ pz - 1 →
    ∃ (sp' : Nat → TR) (v : Option TR), (∀ j, j < 12 → sp' j = sp j) ∧ wX2_sum_20 (nI (pz - 1)) re a1 n (nI m) 1 (va_up sp 12 t) = cA sp' re a1.toNatClampNeg v ∧ wX4_sum__20 cr rf pl pz a1 n (nI m) t = m4 (mA cr rf a1.toNatClampNeg v) := by
  intro n
  induction n with
  | zero => intro m t h; omega
  | succ n ih =>
    intro m t hn hm
    have eo : Int32.ofNat (pz - 1) = nI (pz - 1) := rfl
    rw [wX2_sum_20, wX4_sum__20, eo]
    by_cases c : nI (pz - 1) ≤ nI m
    · rw [if_pos c, if_pos c]
      refine ⟨sp, some t, fun _ _ => rfl, cA_some (by omega), ?_⟩
      show ((v_X4_get cr a1 t).1, (v_X4_get cr a1 t).2, 0, rf) = _
      rw [get_m]; rfl
    · rw [if_neg c, if_neg c, if_neg (show ¬ (1 : Int32) = 0 by decide)]
      have c2 : ¬ pz - 1 ≤ m := fun q => c ((nI_leI (by omega) (by omega)).mpr q)
      have e12 : va_up sp 12 t 12 = t := va_up_self _ _ _
      have ek : va_up sp 12 t (4 + m) = pl m := by
        rw [va_up_ne _ _ (by omega)]; exact hP m (by omega)
      rw [psum_eq, nI_clamp (by omega), e12, ek]
      cases e : v_X4_sum t 1 (pl m) with
      | none =>
        refine ⟨va_up sp 12 t, none, fun j hj => va_up_ne _ _ (by omega), ?_, ?_⟩
        · show wX2_sum_20 (nI (pz - 1)) re a1 n (nI m + 1) 0 (va_up sp 12 t) = _
          cases n with
          | zero => omega
          | succ n =>
            rw [wX2_sum_20]
            by_cases d : nI (pz - 1) ≤ nI m + 1
            · rw [if_pos d]; rfl
            · rw [if_neg d, if_pos rfl]; rfl
        · show (if nI (pz - 1) ≤ nI m + 1 then ((v_X4_getN rf).1, cr, (0 : Int32), (v_X4_getN rf).2) else ((v_X4_getN rf).1, cr, 0, (v_X4_getN rf).2)) = _
          by_cases d : nI (pz - 1) ≤ nI m + 1
          · rw [if_pos d]; rfl
          · rw [if_neg d]; rfl
      | some u =>
        have h := ih (m + 1) u (by omega) (by omega)
        rw [← nI_1] at h
        obtain ⟨sp', v, h1, h2, h3⟩ := h
        refine ⟨sp', v, h1, ?_, h3⟩
        show wX2_sum_20 (nI (pz - 1)) re a1 n (nI m + 1) 1 (va_up (va_up sp 12 t) 12 u) = _
        rw [bx_uu]
        exact h2
theorem rl_sum {a1 : Int32} (hR : Rq sp dy la re cr dr rf pl pz) : RO (x_X2_sum a1) (v_X4_sum_ cr rf pl pz a1).2.2.1 (v_X2_sum sp la re a1).1 (v_X4_sum_ cr rf pl pz a1).1 (Rq (v_X2_sum sp la re a1).2.1 dy la (v_X2_sum sp la re a1).2.2 (v_X4_sum_ cr rf pl pz a1).2.1 dr (v_X4_sum_ cr rf pl pz a1).2.2.2 pl pz) (Rq sp dy la re (v_X4_sum_ cr rf pl pz a1).2.1 dr (v_X4_sum_ cr rf pl pz a1).2.2.2 pl pz) := by
  obtain ⟨hE, b, c, d, e, f, g⟩ := id hR
  have hla : la = nI (pz - 1) := c
  rcases ca_cs a1 with ⟨h1, h2, h3⟩ | ⟨h1, h2⟩
  · have e0 : (0 : Int32).toInt = 0 := rfl
    have ef : ((nI (pz - 1)).toInt - (0 : Int32).toInt).toNat + 1 = pz - 1 + 1 := by rw [e0, nI_toInt (by omega)]; omega
    obtain ⟨sp', v, k1, k2, k3⟩ := sum_w (sp := sp) (cr := cr) (re := re) (rf := rf) h3 d f (pz - 1 + 1) 0 (0, 0, 0) (by omega) (by omega)
    have e2 : v_X2_sum sp la re a1 = cA sp' re a1.toNatClampNeg v := by
      unfold v_X2_sum
      rw [hla, ef]
      have ep : v_X1_put sp 12 0 0 0 = (1, va_up sp 12 (0, 0, 0)) := by
        rw [put_eq]
        have : v_X4_span 0 0 0 = some (0, 0, 0) := span_32 0 0 0
        rw [this]; rfl
      rw [ep]
      exact k2
    have e4 : v_X4_sum_ cr rf pl pz a1 = m4 (mA cr rf a1.toNatClampNeg v) := by
      unfold v_X4_sum_
      have eo : Int32.ofNat (pz - 1) = nI (pz - 1) := rfl
      rw [if_pos h1, eo, ef]
      exact k3
    have hR' := RL_far hR k1 (fun j _ => rfl)
    exact pa_c hR' h3 (by unfold x_X2_sum; rw [h2]; rfl) e2 e4
  · have e4 : v_X4_sum_ cr rf pl pz a1 = (0, cr, 1, rf) := by
      unfold v_X4_sum_
      rw [if_neg h1]
    rw [e4]
    exact RO_no (E := iobN) (by unfold x_X2_sum; rw [h2]; rfl) xcd_b.symm hR
/-! what is asked -/
theorem rl_part {a1 a2 : Int32} (hR : Rq sp dy la re cr dr rf pl pz) : RO (x_X2_part a1 a2) (v_X4_part cr a1 a2).2 (v_X2_part sp a1 a2) (v_X4_part cr a1 a2).1 True True := by
  have hE := hR.1
  have l2 : (lN 2) = (2 : Int64) := rfl
  rcases wh_cs a2 3 2 rfl (by decide) with ⟨g1, g2, k, hk, rfl⟩ | ⟨g1, g2⟩
  · rw [l2] at g1
    rcases ca_cs a1 with ⟨h1, h2, h3⟩ | ⟨h1, h2⟩
    · have e : v_X4_part cr a1 (nI k) = (rw3 (cr a1.toNatClampNeg) k, 0) := by
        unfold v_X4_part
        rw [if_neg g1, if_pos h1, nI_clamp (by omega)]
      rw [e]
      refine RO_ok (by unfold x_X2_part; rw [h2, g2]; rfl) rfl ?_ trivial
      unfold v_X2_part v_X1_number rw3
      rw [hE _ h3]
      rcases (show k = 0 ∨ k = 1 ∨ k = 2 by omega) with rfl | rfl | rfl
      · rw [if_pos (show nI 0 = 0 by decide)]; rfl
      · rw [if_neg (show ¬ nI 1 = 0 by decide), if_pos (show nI 1 = 1 by decide)]; rfl
      · rw [if_neg (show ¬ nI 2 = 0 by decide), if_neg (show ¬ nI 2 = 1 by decide)]; rfl
    · have e : v_X4_part cr a1 (nI k) = (0, 1) := by
        unfold v_X4_part
        rw [if_neg g1, if_neg h1]
      rw [e]
      exact RO_no (by unfold x_X2_part; rw [h2]; rfl) xcd_b.symm trivial
  · rw [l2] at g1
    rcases ca_cs a1 with ⟨h1, h2, h3⟩ | ⟨h1, h2⟩
    · have e : v_X4_part cr a1 a2 = (0, 2) := by
        unfold v_X4_part
        rw [if_pos g1, if_pos h1]
      rw [e]
      exact RO_no (E := iaeN) (by unfold x_X2_part; rw [h2, g2]; rfl) xcd_a.symm trivial
    · have e : v_X4_part cr a1 a2 = (0, 1) := by
        unfold v_X4_part
        rw [if_pos g1, if_neg h1]
      rw [e]
      exact RO_no (by unfold x_X2_part; rw [h2]; rfl) xcd_b.symm trivial
theorem zer_eq {i : Nat} (h : sp i = cr i) : v_X1_isNothing sp i = v_X4_isSame (cr i) v_X4_nothing := by
  unfold v_X1_isNothing v_X4_isSame v_X4_nothing
  rw [h]
theorem b01 (x : Int32) (h : x = 0 ∨ x = 1) : (if x = 0 then ((0 : Int32), (0 : Int32)) else (1, 0)) = (x, 0) := by
  rcases h with rfl | rfl <;> rfl
theorem if01 {c : Prop} [Decidable c] : (if c then (1 : Int32) else 0) = 0 ∨ (if c then (1 : Int32) else 0) = 1 := by
  by_cases h : c
  · rw [if_pos h]; exact Or.inr rfl
  · rw [if_neg h]; exact Or.inl rfl
theorem same01 (a b : TR) : v_X4_isSame a b = 0 ∨ v_X4_isSame a b = 1 := by rw [same_eq]; exact if01
theorem neg01 (i : Int32) : v_X4_isNegativeNow cr i = 0 ∨ v_X4_isNegativeNow cr i = 1 := by
  unfold v_X4_isNegativeNow
  by_cases h1 : (cr i.toNatClampNeg).1 < 0
  · rw [if_pos h1]; exact Or.inr rfl
  · rw [if_neg h1]
    by_cases h2 : (cr i.toNatClampNeg).2.1 < 0
    · rw [if_pos h2]; exact Or.inr rfl
    · rw [if_neg h2]
      by_cases h3 : 0 ≤ (cr i.toNatClampNeg).2.2
      · rw [if_pos h3]; exact Or.inl rfl
      · rw [if_neg h3]; exact Or.inr rfl
theorem alike01 (a b : TR) : v_X4_isAlike a b = 0 ∨ v_X4_isAlike a b = 1 := by
  unfold v_X4_isAlike
  by_cases h1 : lg_cmp (v_X4_total a) (v_X4_total b) = 0
  · rw [if_pos h1]; exact if01
  · rw [if_neg h1]; exact Or.inl rfl
theorem neg_eq {i : Int32} (h : sp i.toNatClampNeg = cr i.toNatClampNeg) : v_X1_isBelowZero sp i.toNatClampNeg = v_X4_isNegativeNow cr i := by
  unfold v_X1_isBelowZero v_X4_isNegativeNow
  rw [h]
theorem sam_eq {i j : Nat} (h : sp i = cr i) (g : sp j = cr j) : v_X1_isSameAs sp i j = v_X4_isSame (cr i) (cr j) := by
  unfold v_X1_isSameAs v_X4_isSame
  rw [h, g]
theorem ali_eq {i j : Nat} (h : sp i = cr i) (g : sp j = cr j) : v_X1_isAlikeTo sp i j = v_X4_isAlike (cr i) (cr j) := by
  unfold v_X1_isAlikeTo v_X4_isAlike
  rw [all_tot, all_tot, h, g]
theorem rl_isZero {a1 : Int32} (hR : Rq sp dy la re cr dr rf pl pz) : RO (x_X2_isZero a1) (v_X4_isZero cr a1).2 (v_X2_isZero sp a1) (v_X4_isZero cr a1).1 True True := by
  have hE := hR.1
  rcases ca_cs a1 with ⟨h1, h2, h3⟩ | ⟨h1, h2⟩
  · have e : v_X4_isZero cr a1 = (v_X4_isSame (cr a1.toNatClampNeg) v_X4_nothing, 0) := by
      unfold v_X4_isZero v_X4_isZeroNow
      rw [if_pos h1]
      exact b01 _ (same01 _ _)
    rw [e]
    exact RO_ok (by unfold x_X2_isZero; rw [h2]; rfl) rfl (zer_eq (hE _ h3)) trivial
  · have e : v_X4_isZero cr a1 = (0, 1) := by
      unfold v_X4_isZero
      rw [if_neg h1]
    rw [e]
    exact RO_no (by unfold x_X2_isZero; rw [h2]; rfl) xcd_b.symm trivial
theorem rl_isNegative {a1 : Int32} (hR : Rq sp dy la re cr dr rf pl pz) : RO (x_X2_isNegative a1) (v_X4_isNegative cr a1).2 (v_X2_isNegative sp a1) (v_X4_isNegative cr a1).1 True True := by
  have hE := hR.1
  rcases ca_cs a1 with ⟨h1, h2, h3⟩ | ⟨h1, h2⟩
  · have e : v_X4_isNegative cr a1 = (v_X4_isNegativeNow cr a1, 0) := by
      unfold v_X4_isNegative
      rw [if_pos h1]
      exact b01 _ (neg01 _)
    rw [e]
    exact RO_ok (by unfold x_X2_isNegative; rw [h2]; rfl) rfl (neg_eq (hE _ h3)) trivial
  · have e : v_X4_isNegative cr a1 = (0, 1) := by
      unfold v_X4_isNegative
      rw [if_neg h1]
    rw [e]
    exact RO_no (by unfold x_X2_isNegative; rw [h2]; rfl) xcd_b.symm trivial
theorem rl_areSame {a1 a2 : Int32} (hR : Rq sp dy la re cr dr rf pl pz) : RO (x_X2_areSame a1 a2) (v_X4_areSame cr a1 a2).2 (v_X2_areSame sp a1 a2) (v_X4_areSame cr a1 a2).1 True True := by
  have hE := hR.1
  rcases two_c a1 a2 with ⟨h1, h2, hx, h3, h4⟩ | ⟨h1, hx⟩
  · have e : v_X4_areSame cr a1 a2 = (v_X4_isSame (cr a1.toNatClampNeg) (cr a2.toNatClampNeg), 0) := by
      unfold v_X4_areSame
      rw [if_pos h1, if_pos h2]
      exact b01 _ (same01 _ _)
    rw [e]
    exact RO_ok hx rfl (sam_eq (hE _ h3) (hE _ h4)) trivial
  · have e : v_X4_areSame cr a1 a2 = (0, 1) := by
      unfold v_X4_areSame
      exact two_n h1
    rw [e]
    exact RO_no hx xcd_b.symm trivial
theorem rl_areAlike {a1 a2 : Int32} (hR : Rq sp dy la re cr dr rf pl pz) : RO (x_X2_areAlike a1 a2) (v_X4_areAlike cr a1 a2).2 (v_X2_areAlike sp a1 a2) (v_X4_areAlike cr a1 a2).1 True True := by
  have hE := hR.1
  rcases two_c a1 a2 with ⟨h1, h2, hx, h3, h4⟩ | ⟨h1, hx⟩
  · have e : v_X4_areAlike cr a1 a2 = (v_X4_isAlike (cr a1.toNatClampNeg) (cr a2.toNatClampNeg), 0) := by
      unfold v_X4_areAlike
      rw [if_pos h1, if_pos h2]
      exact b01 _ (alike01 _ _)
    rw [e]
    exact RO_ok hx rfl (ali_eq (hE _ h3) (hE _ h4)) trivial
  · have e : v_X4_areAlike cr a1 a2 = (0, 1) := by
      unfold v_X4_areAlike
      exact two_n h1
    rw [e]
    exact RO_no hx xcd_b.symm trivial
end RLT
end
section
/-! method by method: dates, the whole -/
section RLU
variable {sp dy cr dr pl : Nat → TR} {la re rf : Int32} {pz : Nat}
theorem pdy_all {j k : Nat} : v_X0_putDay dy j k = va_up dy j (dy k) := rfl
theorem cal_eq {a2 a3 a4 : Int32} : v_X2_isInCalendar a2 a3 a4 = 0 ↔ ¬ (¬ v_X4_isIn a2.toInt64 1600 2400 = 0 ∧ ¬ v_X4_isIn a3.toInt64 1 12 = 0 ∧ ¬ v_X4_isIn a4.toInt64 1 (v_X4_length a2 a3).toInt64 = 0) := by
  have i1 := in_iff (x := a2.toInt64) (a := 1600) (b := 2400)
  have i2 := in_iff (x := a3.toInt64) (a := 1) (b := 12)
  have i3 := in_iff (x := a4.toInt64) (a := 1) (b := (v_X4_length a2 a3).toInt64)
  rw [Int64.le_iff_toInt_le, Int64.le_iff_toInt_le, Int32.toInt_toInt64] at i1 i2 i3
  rw [Int32.toInt_toInt64] at i3
  have z1 : (1600 : Int64).toInt = 1600 := rfl
  have z2 : (2400 : Int64).toInt = 2400 := rfl
  have z3 : (1 : Int64).toInt = 1 := rfl
  have z4 : (12 : Int64).toInt = 12 := rfl
  have y1 : (1600 : Int32).toInt = 1600 := rfl
  have y2 : (2400 : Int32).toInt = 2400 := rfl
  have y3 : (1 : Int32).toInt = 1 := rfl
  have y4 : (12 : Int32).toInt = 12 := rfl
  rw [i1, i2, i3, z1, z2, z3, z4]
  unfold v_X2_isInCalendar
  by_cases h1 : a2 < 1600
  · rw [if_pos h1]
    rw [Int32.lt_iff_toInt_lt] at h1
    exact ⟨fun _ q => by omega, fun _ => rfl⟩
  · rw [if_neg h1]
    rw [Int32.lt_iff_toInt_lt] at h1
    by_cases h2 : 2400 < a2
    · rw [if_pos h2]
      rw [Int32.lt_iff_toInt_lt] at h2
      exact ⟨fun _ q => by omega, fun _ => rfl⟩
    · rw [if_neg h2]
      rw [Int32.lt_iff_toInt_lt] at h2
      by_cases h3 : a3 < 1
      · rw [if_pos h3]
        rw [Int32.lt_iff_toInt_lt] at h3
        exact ⟨fun _ q => by omega, fun _ => rfl⟩
      · rw [if_neg h3]
        rw [Int32.lt_iff_toInt_lt] at h3
        by_cases h4 : a3 ≤ 12
        · rw [if_pos h4]
          rw [Int32.le_iff_toInt_le] at h4
          rw [dom_len' (by omega) (by omega)]
          by_cases h5 : a4 < 1
          · rw [if_pos h5]
            rw [Int32.lt_iff_toInt_lt] at h5
            exact ⟨fun _ q => by omega, fun _ => rfl⟩
          · rw [if_neg h5]
            rw [Int32.lt_iff_toInt_lt] at h5
            by_cases h6 : v_X4_length a2 a3 < a4
            · rw [if_pos h6]
              rw [Int32.lt_iff_toInt_lt] at h6
              exact ⟨fun _ q => by omega, fun _ => rfl⟩
            · rw [if_neg h6]
              rw [Int32.lt_iff_toInt_lt] at h6
              exact ⟨fun q => absurd q (by decide), fun q => absurd ⟨by omega, by omega, by omega⟩ q⟩
        · rw [if_neg h4]
          rw [Int32.le_iff_toInt_le] at h4
          exact ⟨fun _ q => by omega, fun _ => rfl⟩
theorem rl_date {a1 a2 a3 a4 : Int32} (hR : Rq sp dy la re cr dr rf pl pz) : RO (x_X2_date a1 a2 a3 a4) (v_X4_date dr a1 a2 a3 a4).2.2 (v_X2_date dy re a1 a2 a3 a4).1 (v_X4_date dr a1 a2 a3 a4).1 (Rq sp (v_X2_date dy re a1 a2 a3 a4).2.1 la (v_X2_date dy re a1 a2 a3 a4).2.2 cr (v_X4_date dr a1 a2 a3 a4).2.1 rf pl pz) (Rq sp dy la re cr (v_X4_date dr a1 a2 a3 a4).2.1 rf pl pz) := by
  have hc := cal_eq (a2 := a2) (a3 := a3) (a4 := a4)
  by_cases q : ¬ v_X4_isIn a2.toInt64 1600 2400 = 0 ∧ ¬ v_X4_isIn a3.toInt64 1 12 = 0 ∧ ¬ v_X4_isIn a4.toInt64 1 (v_X4_length a2 a3).toInt64 = 0
  · obtain ⟨q1, q2, q3⟩ := id q
    have hc2 : ¬ v_X2_isInCalendar a2 a3 a4 = 0 := fun z => hc.mp z q
    have ho : okv (a2, a3, a4) := by
      refine ⟨isin_okd q1 q2 q3, ?_⟩
      have := (in_iff.mp q3).2
      rw [Int64.le_iff_toInt_le, Int32.toInt_toInt64, Int32.toInt_toInt64] at this
      exact this
    rcases da_cs a1 with ⟨h1, h2, h3⟩ | ⟨h1, h2⟩
    · obtain ⟨r1, r2, r3⟩ := RL_d hR h3
      refine pa_d3 (t := (a2, a3, a4)) hR h3 ho (by unfold x_X2_date; rw [h2]; show (if v_X2_isInCalendar a2 a3 a4 = 0 then some iaeN else none) = none; rw [if_neg hc2]) ?_ ?_
      · unfold v_X2_date
        rw [if_neg hc2, pe3]
        exact cD_some (by omega) r1 ho
      · unfold v_X4_date
        rw [if_neg q1, if_neg q2, if_neg q3, if_pos h1, bec_m r2 ho]
        rfl
    · have e : v_X4_date dr a1 a2 a3 a4 = (0, dr, 1) := by
        unfold v_X4_date
        rw [if_neg q1, if_neg q2, if_neg q3, if_neg h1]
      rw [e]
      exact RO_no (E := iobN) (by unfold x_X2_date; rw [h2]; rfl) xcd_b.symm hR
  · have hc2 : v_X2_isInCalendar a2 a3 a4 = 0 := hc.mpr q
    rcases da_cs a1 with ⟨h1, h2, h3⟩ | ⟨h1, h2⟩
    · have e : v_X4_date dr a1 a2 a3 a4 = (0, dr, 2) := by
        unfold v_X4_date
        by_cases q1 : v_X4_isIn a2.toInt64 1600 2400 = 0
        · rw [if_pos q1, if_pos h1]
        · rw [if_neg q1]
          by_cases q2 : v_X4_isIn a3.toInt64 1 12 = 0
          · rw [if_pos q2, if_pos h1]
          · rw [if_neg q2]
            by_cases q3 : v_X4_isIn a4.toInt64 1 (v_X4_length a2 a3).toInt64 = 0
            · rw [if_pos q3, if_pos h1]
            · exact absurd ⟨q1, q2, q3⟩ q
      rw [e]
      exact RO_no (E := iaeN) (by unfold x_X2_date; rw [h2]; show (if v_X2_isInCalendar a2 a3 a4 = 0 then some iaeN else none) = some iaeN; rw [if_pos hc2]) xcd_a.symm hR
    · have e : v_X4_date dr a1 a2 a3 a4 = (0, dr, 1) := by
        unfold v_X4_date
        by_cases q1 : v_X4_isIn a2.toInt64 1600 2400 = 0
        · rw [if_pos q1, if_neg h1]
        · rw [if_neg q1]
          by_cases q2 : v_X4_isIn a3.toInt64 1 12 = 0
          · rw [if_pos q2, if_neg h1]
          · rw [if_neg q2]
            by_cases q3 : v_X4_isIn a4.toInt64 1 (v_X4_length a2 a3).toInt64 = 0
            · rw [if_pos q3, if_neg h1]
            · exact absurd ⟨q1, q2, q3⟩ q
      rw [e]
      exact RO_no (E := iobN) (by unfold x_X2_date; rw [h2]; rfl) xcd_b.symm hR
theorem two_d (a1 a2 : Int32) : (v_X4_isNone a1 = 0 ∧ v_X4_isNone a2 = 0 ∧ xo (x_X2_dateAt a1) (xo (x_X2_dateAt a2) none) = none ∧ a1.toNatClampNeg < 4 ∧ a2.toNatClampNeg < 4) ∨ ((¬ v_X4_isNone a1 = 0 ∨ (v_X4_isNone a1 = 0 ∧ ¬ v_X4_isNone a2 = 0)) ∧ xo (x_X2_dateAt a1) (xo (x_X2_dateAt a2) none) = some iobN) := two_c a1 a2
theorem two_m (a1 a2 : Int32) : (v_X4_isNone a1 = 0 ∧ v_X4_isNone a2 = 0 ∧ xo (x_X2_dateAt a1) (xo (x_X2_cardAt a2) none) = none ∧ a1.toNatClampNeg < 4 ∧ a2.toNatClampNeg < 4) ∨ ((¬ v_X4_isNone a1 = 0 ∨ (v_X4_isNone a1 = 0 ∧ ¬ v_X4_isNone a2 = 0)) ∧ xo (x_X2_dateAt a1) (xo (x_X2_cardAt a2) none) = some iobN) := two_c a1 a2
theorem rl_copyDate {a1 a2 : Int32} (hR : Rq sp dy la re cr dr rf pl pz) : RO (x_X2_copyDate a1 a2) (v_X4_copyDate dr a1 a2).2.2 (v_X2_copyDate dy re a1 a2).1 (v_X4_copyDate dr a1 a2).1 (Rq sp (v_X2_copyDate dy re a1 a2).2.1 la (v_X2_copyDate dy re a1 a2).2.2 cr (v_X4_copyDate dr a1 a2).2.1 rf pl pz) (Rq sp dy la re cr (v_X4_copyDate dr a1 a2).2.1 rf pl pz) := by
  rcases two_d a1 a2 with ⟨h1, h2, hx, h3, h4⟩ | ⟨h1, hx⟩
  · obtain ⟨r1, r2, r3⟩ := RL_d hR h3
    obtain ⟨s1, s2, s3⟩ := RL_d hR h4
    refine pa_d3 (t := dr a2.toNatClampNeg) hR h3 s2 hx ?_ ?_
    · unfold v_X2_copyDate
      rw [pe3, pdy_all, s3]
      exact cD_some (by omega) r1 s2
    · unfold v_X4_copyDate
      rw [if_pos h1, if_pos h2, bec_m r2 s2]
      rfl
  · have e : v_X4_copyDate dr a1 a2 = (0, dr, 1) := by
      unfold v_X4_copyDate
      exact two_n h1
    rw [e]
    exact RO_no hx xcd_b.symm hR
theorem sgn_0 : sgn 0 = 1 := rfl
theorem sgn_1 : sgn 1 = -1 := rfl
theorem rl_move {a1 a2 : Int32} (hR : Rq sp dy la re cr dr rf pl pz) : RO (x_X2_move a1 a2) (v_X4_move cr dr rf a1 a2).2.2.1 (v_X2_move sp dy re a1 a2).1 (v_X4_move cr dr rf a1 a2).1 (Rq sp (v_X2_move sp dy re a1 a2).2.1 la (v_X2_move sp dy re a1 a2).2.2 cr (v_X4_move cr dr rf a1 a2).2.1 (v_X4_move cr dr rf a1 a2).2.2.2 pl pz) (Rq sp dy la re cr (v_X4_move cr dr rf a1 a2).2.1 (v_X4_move cr dr rf a1 a2).2.2.2 pl pz) := by
  have hE := hR.1
  rcases two_m a1 a2 with ⟨h1, h2, hx, h3, h4⟩ | ⟨h1, hx⟩
  · obtain ⟨r1, r2, r3⟩ := RL_d hR h3
    have hv : ∀ t, v_X4_onBy (dr a1.toNatClampNeg) (cr a2.toNatClampNeg) 1 = some t → okv t := fun t h => onBy_okv h r2.1 (Or.inl rfl)
    refine pa_d (v := v_X4_onBy (dr a1.toNatClampNeg) (cr a2.toNatClampNeg) 1) hR h3 hv hx ?_ ?_
    · unfold v_X2_move
      rw [pe3, rch_eq r1.1, sgn_0, r3, hE _ h4]
      exact act_d (by omega) r1 hv
    · unfold v_X4_move
      rw [if_pos h1, if_pos h2]
      exact om_bec r2 hv
  · have e : v_X4_move cr dr rf a1 a2 = (0, dr, 1, rf) := by
      unfold v_X4_move
      exact two_n h1
    rw [e]
    exact RO_no hx xcd_b.symm hR
theorem rl_back {a1 a2 : Int32} (hR : Rq sp dy la re cr dr rf pl pz) : RO (x_X2_back a1 a2) (v_X4_back cr dr rf a1 a2).2.2.1 (v_X2_back sp dy re a1 a2).1 (v_X4_back cr dr rf a1 a2).1 (Rq sp (v_X2_back sp dy re a1 a2).2.1 la (v_X2_back sp dy re a1 a2).2.2 cr (v_X4_back cr dr rf a1 a2).2.1 (v_X4_back cr dr rf a1 a2).2.2.2 pl pz) (Rq sp dy la re cr (v_X4_back cr dr rf a1 a2).2.1 (v_X4_back cr dr rf a1 a2).2.2.2 pl pz) := by
  have hE := hR.1
  rcases two_m a1 a2 with ⟨h1, h2, hx, h3, h4⟩ | ⟨h1, hx⟩
  · obtain ⟨r1, r2, r3⟩ := RL_d hR h3
    have hv : ∀ t, v_X4_onBy (dr a1.toNatClampNeg) (cr a2.toNatClampNeg) (-1) = some t → okv t := fun t h => onBy_okv h r2.1 (Or.inr rfl)
    refine pa_d (v := v_X4_onBy (dr a1.toNatClampNeg) (cr a2.toNatClampNeg) (-1)) hR h3 hv hx ?_ ?_
    · unfold v_X2_back
      rw [pe3, rch_eq r1.1, sgn_1, r3, hE _ h4]
      exact act_d (by omega) r1 hv
    · unfold v_X4_back
      rw [if_pos h1, if_pos h2]
      exact om_bec r2 hv
  · have e : v_X4_back cr dr rf a1 a2 = (0, dr, 1, rf) := by
      unfold v_X4_back
      exact two_n h1
    rw [e]
    exact RO_no hx xcd_b.symm hR
/-- walking -/
theorem walk_w {a1 a2 a3 : Int32} (hi : a1.toNatClampNeg < 4) (hk : a2.toNatClampNeg < 4) (hE : E4 sp cr) {N : Nat} (h3 : a3 = nI N) (hN : N ≤ 12) : ∀ (n m : Nat) (dy dr : Nat → TR), N - m < n → m ≤ N → E4 dy dr → (∀ i, i < 4 → okv (dr i)) →
    (wX2_walk_38 sp a1 a2 a3 n (nI m) dy).1 = (wX4_walk_48 cr a1 a2 a3 n (nI m) dr).1 ∧ E4 (wX2_walk_38 sp a1 a2 a3 n (nI m) dy).2 (wX4_walk_48 cr a1 a2 a3 n (nI m) dr).2.1 ∧ (wX4_walk_48 cr a1 a2 a3 n (nI m) dr).2.2 = 0 ∧ ∀ i, i < 4 → okv ((wX4_walk_48 cr a1 a2 a3 n (nI m) dr).2.1 i) := by
  intro n
  induction n with
  | zero => intro m dy dr h; omega
  | succ n ih =>
    intro m dy dr hn hm hD hv
    have r2 := hv _ hi
    have r3 := hD _ hi
    have r1 : okv (dy a1.toNatClampNeg) := by rw [r3]; exact r2
    rw [wX2_walk_38, wX4_walk_48, h3]
    by_cases c : nI N ≤ nI m
    · rw [if_pos c, if_pos c]
      exact ⟨rfl, hD, rfl, hv⟩
    · rw [if_neg c, if_neg c, rch_eq r1.1, sgn_0, r3, hE _ hk]
      have c2 : ¬ N ≤ m := fun q => c ((nI_leI (by omega) (by omega)).mpr q)
      cases e : v_X4_onBy (dr a1.toNatClampNeg) (cr a2.toNatClampNeg) 1 with
      | none =>
        show (if (0 : Int32) = 0 then (nI m, dy) else _).1 = nI m ∧ E4 (if (0 : Int32) = 0 then (nI m, dy) else _).2 dr ∧ (0 : Int32) = 0 ∧ ∀ i, i < 4 → okv (dr i)
        rw [if_pos rfl]
        exact ⟨rfl, hD, rfl, hv⟩
      | some t =>
        have ht := onBy_okv e r2.1 (Or.inl rfl)
        rw [om_s, om_s, if_neg (show ¬ ((1 : Int32), va_up dy 4 t).1 = 0 from (by decide : ¬ (1 : Int32) = 0)), bec_m r2 ht, nI_1, ← h3]
        have ep : v_X0_putDay (va_up dy 4 t) a1.toNatClampNeg 4 = va_up (va_up dy 4 t) a1.toNatClampNeg t := by
          rw [pdy_all, va_up_self]
        show (wX2_walk_38 sp a1 a2 a3 n (nI (m + 1)) (v_X0_putDay (va_up dy 4 t) a1.toNatClampNeg 4)).1 = _ ∧ E4 (wX2_walk_38 sp a1 a2 a3 n (nI (m + 1)) (v_X0_putDay (va_up dy 4 t) a1.toNatClampNeg 4)).2 _ ∧ _
        rw [ep]
        refine ih (m + 1) _ _ (by omega) (by omega) (E4_up (E4_far hD (by omega))) (fun i hi => ?_)
        by_cases q : i = a1.toNatClampNeg
        · show okv (va_up dr a1.toNatClampNeg t i)
          rw [q, va_up_self]; exact ht
        · show okv (va_up dr a1.toNatClampNeg t i)
          rw [va_up_ne _ _ q]; exact hv i hi
theorem many_cs (a : Int32) : (¬ v_X4_isIn a.toInt64 1 12 = 0 ∧ ¬ a < 1 ∧ a ≤ 12 ∧ ∃ N : Nat, N ≤ 12 ∧ a = nI N) ∨ (v_X4_isIn a.toInt64 1 12 = 0 ∧ (a < 1 ∨ (¬ a < 1 ∧ ¬ a ≤ 12))) := by
  have hi := in_iff (x := a.toInt64) (a := 1) (b := 12)
  have z3 : (1 : Int64).toInt = 1 := rfl
  have z4 : (12 : Int64).toInt = 12 := rfl
  have y3 : (1 : Int32).toInt = 1 := rfl
  have y4 : (12 : Int32).toInt = 12 := rfl
  rw [Int64.le_iff_toInt_le, Int64.le_iff_toInt_le, Int32.toInt_toInt64, z3, z4] at hi
  by_cases h1 : a < 1
  · have h := h1
    rw [Int32.lt_iff_toInt_lt] at h
    exact Or.inr ⟨Classical.byContradiction fun q => by have := hi.mp q; omega, Or.inl h1⟩
  · have h := h1
    rw [Int32.lt_iff_toInt_lt] at h
    by_cases h2 : a ≤ 12
    · have g := h2
      rw [Int32.le_iff_toInt_le] at g
      exact Or.inl ⟨hi.mpr (by omega), h1, h2, a.toInt.toNat, by omega, Int32.toInt_inj.mp (by rw [nI_toInt (by omega)]; omega)⟩
    · have g := h2
      rw [Int32.le_iff_toInt_le] at g
      exact Or.inr ⟨Classical.byContradiction fun q => by have := hi.mp q; omega, Or.inr ⟨h1, h2⟩⟩
theorem rl_walk {a1 a2 a3 : Int32} (hR : Rq sp dy la re cr dr rf pl pz) : RO (x_X2_walk a1 a2 a3) (v_X4_walk cr dr a1 a2 a3).2.2 (v_X2_walk sp dy a1 a2 a3).1 (v_X4_walk cr dr a1 a2 a3).1 (Rq sp (v_X2_walk sp dy a1 a2 a3).2 la re cr (v_X4_walk cr dr a1 a2 a3).2.1 rf pl pz) (Rq sp dy la re cr (v_X4_walk cr dr a1 a2 a3).2.1 rf pl pz) := by
  obtain ⟨hE, b, c, d, e, f, g⟩ := id hR
  rcases da_cs a1 with ⟨h1, h2, h3⟩ | ⟨h1, h2⟩
  · rcases ca_cs a2 with ⟨g1, g2, g3⟩ | ⟨g1, g2⟩
    · rcases many_cs a3 with ⟨m1, m2, m3, N, hN, eN⟩ | ⟨m1, m2⟩
      · have e0 : (0 : Int32).toInt = 0 := rfl
        have ef : (a3.toInt - (0 : Int32).toInt).toNat + 1 = N + 1 := by rw [e0, eN, nI_toInt (by omega)]; omega
        have e2 : v_X2_walk sp dy a1 a2 a3 = wX2_walk_38 sp a1 a2 a3 (N + 1) (nI 0) dy := by
          unfold v_X2_walk
          rw [if_neg m2, if_pos m3, ef]; rfl
        have e4 : v_X4_walk cr dr a1 a2 a3 = wX4_walk_48 cr a1 a2 a3 (N + 1) (nI 0) dr := by
          unfold v_X4_walk
          rw [if_pos h1, if_pos g1, if_neg m1, ef]; rfl
        obtain ⟨k1, k2, k3, k4⟩ := walk_w (sp := sp) (cr := cr) h3 g3 hE eN hN (N + 1) 0 dy dr (by omega) (by omega) b g
        rw [e2, e4]
        exact RO_ok (by unfold x_X2_walk; rw [h2, g2, xo_n, xo_n, if_neg m2, if_pos m3]) k3 k1 ⟨hE, k2, c, d, e, f, k4⟩
      · have e4 : v_X4_walk cr dr a1 a2 a3 = (0, dr, 2) := by
          unfold v_X4_walk
          rw [if_pos h1, if_pos g1, if_pos m1]
        rw [e4]
        refine RO_no (E := iaeN) ?_ xcd_a.symm hR
        unfold x_X2_walk
        rw [h2, g2, xo_n, xo_n]
        rcases m2 with m2 | ⟨m2, m3⟩
        · rw [if_pos m2]
        · rw [if_neg m2, if_neg m3]
    · have e4 : v_X4_walk cr dr a1 a2 a3 = (0, dr, 1) := by
        unfold v_X4_walk
        rw [if_pos h1, if_neg g1]
        by_cases q : v_X4_isIn a3.toInt64 1 12 = 0
        · rw [if_pos q]
        · rw [if_neg q]
      rw [e4]
      exact RO_no (E := iobN) (by unfold x_X2_walk; rw [h2, g2]; rfl) xcd_b.symm hR
  · have e4 : v_X4_walk cr dr a1 a2 a3 = (0, dr, 1) := by
      unfold v_X4_walk
      rw [if_neg h1]
      by_cases q : v_X4_isIn a3.toInt64 1 12 = 0
      · rw [if_pos q]
      · rw [if_neg q]
    rw [e4]
    exact RO_no (E := iobN) (by unfold x_X2_walk; rw [h2]; rfl) xcd_b.symm hR
theorem rl_between {a1 a2 a3 : Int32} (hR : Rq sp dy la re cr dr rf pl pz) : RO (x_X2_between a1 a2 a3) (v_X4_between cr dr rf a1 a2 a3).2.2.1 (v_X2_between sp dy re a1 a2 a3).1 (v_X4_between cr dr rf a1 a2 a3).1 (Rq (v_X2_between sp dy re a1 a2 a3).2.1 dy la (v_X2_between sp dy re a1 a2 a3).2.2 (v_X4_between cr dr rf a1 a2 a3).2.1 dr (v_X4_between cr dr rf a1 a2 a3).2.2.2 pl pz) (Rq sp dy la re (v_X4_between cr dr rf a1 a2 a3).2.1 dr (v_X4_between cr dr rf a1 a2 a3).2.2.2 pl pz) := by
  rcases ca_cs a1 with ⟨h1, h2, h3⟩ | ⟨h1, h2⟩
  · rcases two_d a2 a3 with ⟨g1, g2, gx, g3, g4⟩ | ⟨g1, gx⟩
    · obtain ⟨r1, r2, r3⟩ := RL_d hR g3
      obtain ⟨s1, s2, s3⟩ := RL_d hR g4
      refine pa_c (v := v_X4_apart (dr a2.toNatClampNeg) (dr a3.toNatClampNeg)) hR h3 (by unfold x_X2_between x_X2_actByBetween; rw [h2, gx]; rfl) ?_ ?_
      · unfold v_X2_between
        rw [pe3]
        unfold v_X2_actByBetween
        rw [pe3, btw_eq r1.1 s1.1, r3, s3]
        exact act_c (by omega)
      · unfold v_X4_between
        rw [if_pos h1, if_pos g1, if_pos g2]
        exact om_get
    · have e4 : v_X4_between cr dr rf a1 a2 a3 = (0, cr, 1, rf) := by
        unfold v_X4_between
        rw [if_pos h1]
        exact two_n g1
      rw [e4]
      exact RO_no (E := iobN) (by unfold x_X2_between x_X2_actByBetween; rw [h2, gx]; rfl) xcd_b.symm hR
  · have e4 : v_X4_between cr dr rf a1 a2 a3 = (0, cr, 1, rf) := by
      unfold v_X4_between
      rw [if_neg h1]
    rw [e4]
    exact RO_no (E := iobN) (by unfold x_X2_between x_X2_actByBetween; rw [h2]; rfl) xcd_b.symm hR
theorem rl_until {a1 a2 a3 : Int32} (hR : Rq sp dy la re cr dr rf pl pz) : RO (x_X2_until a1 a2 a3) (v_X4_until cr dr rf a1 a2 a3).2.2.1 (v_X2_until sp dy re a1 a2 a3).1 (v_X4_until cr dr rf a1 a2 a3).1 (Rq (v_X2_until sp dy re a1 a2 a3).2.1 dy la (v_X2_until sp dy re a1 a2 a3).2.2 (v_X4_until cr dr rf a1 a2 a3).2.1 dr (v_X4_until cr dr rf a1 a2 a3).2.2.2 pl pz) (Rq sp dy la re (v_X4_until cr dr rf a1 a2 a3).2.1 dr (v_X4_until cr dr rf a1 a2 a3).2.2.2 pl pz) := by
  have h := rl_between (a1 := a1) (a2 := a2) (a3 := a3) hR
  unfold v_X4_until
  rw [pe4]
  unfold v_X2_until x_X2_until
  unfold v_X2_between x_X2_between at h
  exact h
theorem rl_ofDate {a1 a2 : Int32} (hR : Rq sp dy la re cr dr rf pl pz) : RO (x_X2_ofDate a1 a2) (v_X4_ofDate dr a1 a2).2 (v_X2_ofDate dy a1 a2) (v_X4_ofDate dr a1 a2).1 True True := by
  have l3 : (lN 3) = (3 : Int64) := rfl
  rcases wh_cs a2 4 3 rfl (by decide) with ⟨g1, g2, k, hk, rfl⟩ | ⟨g1, g2⟩
  · rw [l3] at g1
    rcases da_cs a1 with ⟨h1, h2, h3⟩ | ⟨h1, h2⟩
    · obtain ⟨r1, r2, r3⟩ := RL_d hR h3
      have e : v_X4_ofDate dr a1 (nI k) = (v_X4_ofDateNow dr a1 (nI k), 0) := by
        unfold v_X4_ofDate
        rw [if_neg g1, if_pos h1]
      rw [e]
      refine RO_ok (by unfold x_X2_ofDate; rw [h2, g2]; rfl) rfl ?_ trivial
      unfold v_X2_ofDate v_X0_number v_X4_ofDateNow v_X0_dayNumber
      rw [num_t r1.1, r3, nI_clamp (by omega)]
      unfold rw3
      rcases (show k = 0 ∨ k = 1 ∨ k = 2 ∨ k = 3 by omega) with rfl | rfl | rfl | rfl
      · rw [if_pos (show nI 0 = 0 by decide), if_neg (show ¬ nI 0 = 3 by decide)]; rfl
      · rw [if_neg (show ¬ nI 1 = 0 by decide), if_pos (show nI 1 = 1 by decide), if_neg (show ¬ nI 1 = 3 by decide)]; rfl
      · rw [if_neg (show ¬ nI 2 = 0 by decide), if_neg (show ¬ nI 2 = 1 by decide), if_pos (show nI 2 = 2 by decide), if_neg (show ¬ nI 2 = 3 by decide)]; rfl
      · rw [if_neg (show ¬ nI 3 = 0 by decide), if_neg (show ¬ nI 3 = 1 by decide), if_neg (show ¬ nI 3 = 2 by decide), if_pos (show nI 3 = 3 by decide)]
    · have e : v_X4_ofDate dr a1 (nI k) = (0, 1) := by
        unfold v_X4_ofDate
        rw [if_neg g1, if_neg h1]
      rw [e]
      exact RO_no (E := iobN) (by unfold x_X2_ofDate; rw [h2]; rfl) xcd_b.symm trivial
  · rw [l3] at g1
    rcases da_cs a1 with ⟨h1, h2, h3⟩ | ⟨h1, h2⟩
    · have e : v_X4_ofDate dr a1 a2 = (0, 2) := by
        unfold v_X4_ofDate
        rw [if_pos g1, if_pos h1]
      rw [e]
      exact RO_no (E := iaeN) (by unfold x_X2_ofDate; rw [h2, g2]; rfl) xcd_a.symm trivial
    · have e : v_X4_ofDate dr a1 a2 = (0, 1) := by
        unfold v_X4_ofDate
        rw [if_pos g1, if_neg h1]
      rw [e]
      exact RO_no (E := iobN) (by unfold x_X2_ofDate; rw [h2]; rfl) xcd_b.symm trivial
theorem ordn_eq {i j : Int32} (hi : okv (dy i.toNatClampNeg)) (hj : okv (dy j.toNatClampNeg)) (ei : dy i.toNatClampNeg = dr i.toNatClampNeg) (ej : dy j.toNatClampNeg = dr j.toNatClampNeg) : v_X0_orderTo dy i.toNatClampNeg j.toNatClampNeg = v_X4_orderNow dr i j := by
  have b1 := num_bd hi
  have b2 := num_bd hj
  rw [ord_eq hi.1 hj.1]
  unfold v_X4_orderNow
  rw [ei, ej] at *
  generalize v_X4_number (dr i.toNatClampNeg) = x at *
  generalize v_X4_number (dr j.toNatClampNeg) = y at *
  have e := sub_i (x := x) (y := y) (by omega) (by omega)
  have e0 : (0 : Int32).toInt = 0 := rfl
  by_cases h1 : y ≤ x
  · have g1 := h1
    rw [Int32.le_iff_toInt_le] at g1
    rw [if_pos h1, if_pos (show 0 ≤ x - y by rw [Int32.le_iff_toInt_le]; omega)]
    by_cases h2 : x ≤ y
    · have g2 := h2
      rw [Int32.le_iff_toInt_le] at g2
      rw [if_pos h2, if_pos (show x - y ≤ 0 by rw [Int32.le_iff_toInt_le]; omega)]
      rfl
    · have g2 := h2
      rw [Int32.le_iff_toInt_le] at g2
      rw [if_neg h2, if_neg (show ¬ x - y ≤ 0 by rw [Int32.le_iff_toInt_le]; omega)]
      rfl
  · have g1 := h1
    rw [Int32.le_iff_toInt_le] at g1
    rw [if_neg h1, if_neg (show ¬ 0 ≤ x - y by rw [Int32.le_iff_toInt_le]; omega)]
theorem rl_order {a1 a2 : Int32} (hR : Rq sp dy la re cr dr rf pl pz) : RO (x_X2_order a1 a2) (v_X4_order dr a1 a2).2 (v_X2_order dy a1 a2) (v_X4_order dr a1 a2).1 True True := by
  rcases two_d a1 a2 with ⟨h1, h2, hx, h3, h4⟩ | ⟨h1, hx⟩
  · obtain ⟨r1, r2, r3⟩ := RL_d hR h3
    obtain ⟨s1, s2, s3⟩ := RL_d hR h4
    have e : v_X4_order dr a1 a2 = (v_X4_orderNow dr a1 a2, 0) := by
      unfold v_X4_order
      rw [if_pos h1, if_pos h2]
    rw [e]
    exact RO_ok hx rfl (ordn_eq r1 s1 r3 s3) trivial
  · have e : v_X4_order dr a1 a2 = (0, 1) := by
      unfold v_X4_order
      exact two_n h1
    rw [e]
    exact RO_no hx xcd_b.symm trivial
theorem told_eq {i j : Nat} (hi : okv (dy i)) (hj : okv (dy j)) (h4 : j ≠ 4) (a1 a2 : Int32) (e1 : dy i = dr a1.toNatClampNeg) (e2 : dy j = dr a2.toNatClampNeg) :
    (if (v_X1_putBetween sp dy 12 i j).1 = 0 then (0 : Int32) else if (v_X2_leads (v_X1_putBetween sp dy 12 i j).2 dy i 12 j).1 = 0 then 0 else 1) = v_X4_leadsBack dr a1 a2 := by
  rw [btw_eq hi.1 hj.1]
  unfold v_X4_leadsBack
  rw [← e1, ← e2]
  cases e : v_X4_apart (dy i) (dy j) with
  | none => rfl
  | some t =>
    show (if (1 : Int32) = 0 then (0 : Int32) else if (v_X2_leads (va_up sp 12 t) dy i 12 j).1 = 0 then 0 else 1) = _
    rw [if_neg (by decide), lds_eq hi.1 hj.1 h4, va_up_self]
    show _ = om (v_X4_onBy (dy i) t 1) 0 (fun t7 => if v_X4_number t7 = v_X4_number (dy j) then 1 else 0)
    cases e2 : v_X4_onBy (dy i) t 1 with
    | none => rfl
    | some u =>
      show (if (if v_X4_number u = v_X4_number (dy j) then (1 : Int32) else 0) = 0 then (0 : Int32) else 1) = if v_X4_number u = v_X4_number (dy j) then 1 else 0
      by_cases c : v_X4_number u = v_X4_number (dy j)
      · rw [if_pos c, if_neg (by decide)]
      · rw [if_neg c, if_pos rfl]
theorem lb01 (a1 a2 : Int32) : v_X4_leadsBack dr a1 a2 = 0 ∨ v_X4_leadsBack dr a1 a2 = 1 := by
  unfold v_X4_leadsBack
  cases v_X4_apart (dr a1.toNatClampNeg) (dr a2.toNatClampNeg) with
  | none => exact Or.inl rfl
  | some t =>
    show om (v_X4_onBy (dr a1.toNatClampNeg) t 1) 0 (fun t7 => if v_X4_number t7 = v_X4_number (dr a2.toNatClampNeg) then (1 : Int32) else 0) = 0 ∨ om (v_X4_onBy (dr a1.toNatClampNeg) t 1) 0 (fun t7 => if v_X4_number t7 = v_X4_number (dr a2.toNatClampNeg) then (1 : Int32) else 0) = 1
    cases v_X4_onBy (dr a1.toNatClampNeg) t 1 with
    | none => exact Or.inl rfl
    | some u => exact if01
theorem rl_isToldBack {a1 a2 : Int32} (hR : Rq sp dy la re cr dr rf pl pz) : RO (x_X2_isToldBack sp dy a1 a2) (v_X4_isToldBack dr a1 a2).2 (v_X2_isToldBack sp dy a1 a2).1 (v_X4_isToldBack dr a1 a2).1 (Rq (v_X2_isToldBack sp dy a1 a2).2.1 (v_X2_isToldBack sp dy a1 a2).2.2 la re cr dr rf pl pz) True := by
  rcases two_d a1 a2 with ⟨h1, h2, hx, h3, h4⟩ | ⟨h1, hx⟩
  · obtain ⟨r1, r2, r3⟩ := RL_d hR h3
    obtain ⟨s1, s2, s3⟩ := RL_d hR h4
    have e : v_X4_isToldBack dr a1 a2 = (v_X4_leadsBack dr a1 a2, 0) := by
      unfold v_X4_isToldBack
      rw [if_pos h1, if_pos h2]
      exact b01 _ (lb01 _ _)
    have et := told_eq (sp := sp) r1 s1 (by omega) a1 a2 r3 s3
    rw [e]
    have q1 : ∀ j, j < 12 → (v_X1_putBetween sp dy 12 a1.toNatClampNeg a2.toNatClampNeg).2 j = sp j := by
      rw [btw_eq r1.1 s1.1]
      cases v_X4_apart (dy a1.toNatClampNeg) (dy a2.toNatClampNeg) with
      | none => exact fun _ _ => rfl
      | some t => exact fun j hj => va_up_ne _ _ (by omega)
    have q2 : ∀ (sp' : Nat → TR) (j : Nat), j < 4 → (v_X2_leads sp' dy a1.toNatClampNeg 12 a2.toNatClampNeg).2 j = dy j := by
      intro sp'
      rw [lds_eq r1.1 s1.1 (by omega)]
      cases v_X4_onBy (dy a1.toNatClampNeg) (sp' 12) 1 with
      | none => exact fun _ _ => rfl
      | some t => exact fun j hj => va_up_ne _ _ (by omega)
    have ex : x_X2_isToldBack sp dy a1 a2 = none := by
      have : x_X2_isToldBack sp dy a1 a2 = xo (x_X2_dateAt a1) (xo (x_X2_dateAt a2) none) := by
        unfold x_X2_isToldBack
        simp only [ite_self]
      rw [this]; exact hx
    refine RO_ok ex rfl ?_ ?_
    · show (v_X2_isToldBack sp dy a1 a2).1 = v_X4_leadsBack dr a1 a2
      rw [← et]
      unfold v_X2_isToldBack
      by_cases c : (v_X1_putBetween sp dy 12 a1.toNatClampNeg a2.toNatClampNeg).1 = 0
      · rw [if_pos c, if_pos c]
      · rw [if_neg c, if_neg c]
        by_cases c2 : (v_X2_leads (v_X1_putBetween sp dy 12 a1.toNatClampNeg a2.toNatClampNeg).2 dy a1.toNatClampNeg 12 a2.toNatClampNeg).1 = 0
        · rw [if_pos c2, if_pos c2]
        · rw [if_neg c2, if_neg c2]
    · unfold v_X2_isToldBack
      have q2 := q2 (v_X1_putBetween sp dy 12 a1.toNatClampNeg a2.toNatClampNeg).2
      generalize v_X1_putBetween sp dy 12 a1.toNatClampNeg a2.toNatClampNeg = B at q1 q2 ⊢
      generalize v_X2_leads B.2 dy a1.toNatClampNeg 12 a2.toNatClampNeg = L at q2 ⊢
      by_cases c : B.1 = 0
      · rw [if_pos c]
        exact RL_far hR q1 (fun _ _ => rfl)
      · rw [if_neg c]
        by_cases c2 : L.1 = 0
        · rw [if_pos c2]
          exact RL_far hR q1 q2
        · rw [if_neg c2]
          exact RL_far hR q1 q2
  · have e : v_X4_isToldBack dr a1 a2 = (0, 1) := by
      unfold v_X4_isToldBack
      exact two_n h1
    rw [e]
    refine RO_no (E := iobN) ?_ xcd_b.symm trivial
    have : x_X2_isToldBack sp dy a1 a2 = xo (x_X2_dateAt a1) (xo (x_X2_dateAt a2) none) := by
      unfold x_X2_isToldBack
      simp only [ite_self]
    rw [this]; exact hx
/-! the house -/
def hs5 (kn rf la zz nn : Int32) (k : Nat) : Int32 := if k = 4 then nn else if k = 3 then zz else if k = 2 then la else if k = 1 then rf else if k = 0 then kn else 0
theorem hs5_eq (kn rf la zz nn : Int32) (k : Nat) : upd (upd (upd (upd (upd (fun _ => 0) (0 : Int32).toNatClampNeg kn) (1 : Int32).toNatClampNeg rf) (2 : Int32).toNatClampNeg la) (3 : Int32).toNatClampNeg zz) (4 : Int32).toNatClampNeg nn k = hs5 kn rf la zz nn k := by
  have t0 : (0 : Int32).toNatClampNeg = 0 := rfl
  have t1 : (1 : Int32).toNatClampNeg = 1 := rfl
  have t2 : (2 : Int32).toNatClampNeg = 2 := rfl
  have t3 : (3 : Int32).toNatClampNeg = 3 := rfl
  have t4 : (4 : Int32).toNatClampNeg = 4 := rfl
  rw [t0, t1, t2, t3, t4]
  rfl
theorem house_w {kn a1 : Int32} (hE : E4 sp cr) : ∀ (n i : Nat) (nn zz : Int32), 4 - i < n → i ≤ 4 → wX4_houseNow_7 cr kn rf pz a1 n (nI i) nn zz = hs5 kn rf (Int32.ofNat (pz - 1)) (wX2_zeroCards_4 sp n (nI i) zz) (wX2_negativeCards_4 sp n (nI i) nn) a1.toNatClampNeg := by
  intro n
  induction n with
  | zero => intro i nn zz h; omega
  | succ n ih =>
    intro i nn zz hn hi
    rw [wX4_houseNow_7, wX2_zeroCards_4, wX2_negativeCards_4]
    by_cases c : 4 ≤ nI i
    · rw [if_pos c, if_pos c, if_pos c]
      exact hs5_eq _ _ _ _ _ _
    · rw [if_neg c, if_neg c, if_neg c, nI_1]
      have c2 : ¬ 4 ≤ i := fun q => c (nI_le (a := 4) q (by omega))
      have ec : (nI i).toNatClampNeg = i := nI_clamp (by omega)
      have h0 := hE i (by omega)
      have e1 : v_X1_isNothing sp (nI i).toNatClampNeg = v_X4_isZeroNow cr (nI i) := by
        rw [ec]
        show _ = v_X4_isSame (cr (nI i).toNatClampNeg) v_X4_nothing
        rw [ec]
        exact zer_eq h0
      have e2 : v_X1_isBelowZero sp (nI i).toNatClampNeg = v_X4_isNegativeNow cr (nI i) := neg_eq (by rw [ec]; exact h0)
      rw [ih (i + 1) _ _ (by omega) (by omega), e1, e2]
      have k : ∀ (x z : Int32) (F : Int32 → Int32), (if x = 0 then F (z + 0) else F (z + 1)) = F (z + v_X4_one x) := by
        intro x z F
        unfold v_X4_one
        by_cases q : x = 0
        · rw [if_pos q, if_pos q]
        · rw [if_neg q, if_neg q]
      rw [k (v_X4_isZeroNow cr (nI i)) zz (fun y => wX2_zeroCards_4 sp n (nI (i + 1)) y), k (v_X4_isNegativeNow cr (nI i)) nn (fun y => wX2_negativeCards_4 sp n (nI (i + 1)) y)]
theorem fu_40 : ((4 : Int32).toInt - (0 : Int32).toInt).toNat + 1 = 4 + 1 := by decide
theorem ofh_eq {kn : Int32} {k : Nat} (hk : k ≤ 4) (hR : Rq sp dy la re cr dr rf pl pz) : v_X2_ofHouse sp la kn re (nI k) = v_X4_houseNow cr kn rf pz (nI k) := by
  obtain ⟨hE, b, c, d, e, f, g⟩ := id hR
  have h := house_w (rf := rf) (pz := pz) (kn := kn) (a1 := nI k) hE (4 + 1) 0 0 0 (by omega) (by omega)
  unfold v_X4_houseNow
  rw [show (0 : Int32) = nI 0 from rfl] at h ⊢
  rw [h, nI_clamp (by omega)]
  unfold v_X2_ofHouse v_X2_zeroCards v_X2_negativeCards
  rw [fu_40, show (0 : Int32) = nI 0 from rfl, c, e]
  unfold hs5
  rcases (show k = 0 ∨ k = 1 ∨ k = 2 ∨ k = 3 ∨ k = 4 by omega) with rfl | rfl | rfl | rfl | rfl
  · rw [if_pos (show nI 0 = nI 0 by decide), if_neg (show ¬ (0 : Nat) = 4 by decide), if_neg (show ¬ (0 : Nat) = 3 by decide), if_neg (show ¬ (0 : Nat) = 2 by decide), if_neg (show ¬ (0 : Nat) = 1 by decide), if_pos (rfl : (0 : Nat) = 0)]
  · rw [if_neg (show ¬ nI 1 = nI 0 by decide), if_pos (show nI 1 = 1 by decide), if_neg (show ¬ (1 : Nat) = 4 by decide), if_neg (show ¬ (1 : Nat) = 3 by decide), if_neg (show ¬ (1 : Nat) = 2 by decide), if_pos (rfl : (1 : Nat) = 1)]
  · rw [if_neg (show ¬ nI 2 = nI 0 by decide), if_neg (show ¬ nI 2 = 1 by decide), if_pos (show nI 2 = 2 by decide), if_neg (show ¬ (2 : Nat) = 4 by decide), if_neg (show ¬ (2 : Nat) = 3 by decide), if_pos (rfl : (2 : Nat) = 2)]
  · rw [if_neg (show ¬ nI 3 = nI 0 by decide), if_neg (show ¬ nI 3 = 1 by decide), if_neg (show ¬ nI 3 = 2 by decide), if_pos (show nI 3 = 3 by decide), if_neg (show ¬ (3 : Nat) = 4 by decide), if_pos (rfl : (3 : Nat) = 3)]
  · rw [if_neg (show ¬ nI 4 = nI 0 by decide), if_neg (show ¬ nI 4 = 1 by decide), if_neg (show ¬ nI 4 = 2 by decide), if_neg (show ¬ nI 4 = 3 by decide), if_pos (rfl : (4 : Nat) = 4)]
theorem rl_house {a1 kn : Int32} (hR : Rq sp dy la re cr dr rf pl pz) : (x_X2_house a1 = none → (v_X4_house cr kn rf pz a1).2 = 0 ∧ v_X2_house sp la kn re a1 = (v_X4_house cr kn rf pz a1).1) ∧ ∀ E, x_X2_house a1 = some E → (v_X4_house cr kn rf pz a1).2 = 1 := by
  have l4 : (lN 4) = (4 : Int64) := rfl
  rcases wh_cs a1 5 4 rfl (by decide) with ⟨g1, g2, k, hk, rfl⟩ | ⟨g1, g2⟩
  · rw [l4] at g1
    have e : v_X4_house cr kn rf pz (nI k) = (v_X4_houseNow cr kn rf pz (nI k), 0) := by
      unfold v_X4_house
      rw [if_neg g1]
    rw [e]
    refine ⟨fun _ => ⟨rfl, ofh_eq hk hR⟩, fun E h => ?_⟩
    unfold x_X2_house at h
    rw [g2] at h
    exact (nomatch h)
  · rw [l4] at g1
    have e : v_X4_house cr kn rf pz a1 = (0, 1) := by
      unfold v_X4_house
      rw [if_pos g1]
    rw [e]
    refine ⟨fun h => ?_, fun _ _ => rfl⟩
    unfold x_X2_house at h
    rw [g2] at h
    exact (nomatch h)
/-! texts and the like leave the relation -/
theorem rl_times {a1 a2 : Int32} (hR : Rq sp dy la re cr dr rf pl pz) : Rq (v_X2_times sp a1 a2) dy la re cr dr rf pl pz := by
  unfold v_X2_times
  rw [ptim_eq]
  exact RL_12 hR
theorem rl_tidy {a1 : Int32} (hR : Rq sp dy la re cr dr rf pl pz) : Rq (v_X2_tidy sp a1) dy la re cr dr rf pl pz := by
  unfold v_X2_tidy
  rw [ptid_eq]
  exact RL_12 hR
theorem rl_opposite {a1 : Int32} (hR : Rq sp dy la re cr dr rf pl pz) : Rq (v_X2_opposite sp a1) dy la re cr dr rf pl pz := by
  unfold v_X2_opposite
  rw [popp_eq]
  exact RL_12 hR
theorem rl_with {a1 a2 a3 : Int32} (hR : Rq sp dy la re cr dr rf pl pz) : Rq (v_X2_with sp a1 a2 a3) dy la re cr dr rf pl pz := by
  unfold v_X2_with
  by_cases c : a3 = 0
  · rw [if_pos c, psum_eq]
    exact RL_12 hR
  · rw [if_neg c, pdif_eq]
    exact RL_12 hR
theorem rl_addw {a1 a2 : Int32} : ∀ (n : Nat) (kk ok : Int32) (sp : Nat → TR), Rq sp dy la re cr dr rf pl pz → Rq (wX2_added_41 a1 a2 n kk ok sp) dy la re cr dr rf pl pz := by
  intro n
  induction n with
  | zero => intro kk ok sp h; exact h
  | succ n ih =>
    intro kk ok sp h
    rw [wX2_added_41]
    by_cases c : a2 ≤ kk
    · rw [if_pos c]; exact h
    · rw [if_neg c]
      by_cases d : ok = 0
      · rw [if_pos d]; exact h
      · rw [if_neg d, psum_eq]
        exact ih _ _ _ (RL_12 h)
theorem rl_added {a1 a2 : Int32} (hR : Rq sp dy la re cr dr rf pl pz) : Rq (v_X2_added sp a1 a2) dy la re cr dr rf pl pz := by
  unfold v_X2_added
  by_cases c : a2 < 0
  · rw [if_pos c]; exact hR
  · rw [if_neg c]
    by_cases d : a2 ≤ 9
    · rw [if_pos d, put_eq]
      exact rl_addw _ _ _ _ (RL_12 hR)
    · rw [if_neg d]; exact hR
theorem rl_moved {a1 a2 a3 : Int32} (h1 : a1.toNatClampNeg < 4) (hR : Rq sp dy la re cr dr rf pl pz) : Rq sp (v_X2_moved sp dy a1 a2 a3) la re cr dr rf pl pz := by
  obtain ⟨r1, r2, r3⟩ := RL_d hR h1
  have e : v_X2_moved sp dy a1 a2 a3 = (v_X2_reach sp dy a1.toNatClampNeg a2.toNatClampNeg a3).2 := by
    unfold v_X2_moved
    by_cases c : (v_X2_reach sp dy a1.toNatClampNeg a2.toNatClampNeg a3).1 = 0
    · rw [if_pos c]
    · rw [if_neg c]
  rw [e, rch_eq r1.1]
  exact RL_4 hR
theorem rl_apart {a1 a2 : Int32} (h1 : a1.toNatClampNeg < 4) (h2 : a2.toNatClampNeg < 4) (hR : Rq sp dy la re cr dr rf pl pz) : Rq (v_X2_apart sp dy a1 a2) dy la re cr dr rf pl pz := by
  obtain ⟨r1, r2, r3⟩ := RL_d hR h1
  obtain ⟨s1, s2, s3⟩ := RL_d hR h2
  unfold v_X2_apart
  rw [btw_eq r1.1 s1.1]
  exact RL_12 hR
/-- what a date's place that is there says of its number -/
theorem x_da {a : Int32} {b : Option String} (h : xo (x_X2_dateAt a) b = none) : a.toNatClampNeg < 4 ∧ b = none := by
  rcases da_cs a with ⟨h1, h2, h3⟩ | ⟨h1, h2⟩
  · rw [h2] at h; exact ⟨h3, h⟩
  · rw [h2] at h; exact (nomatch h)
end RLU
end
section
/-! that all is sound, always: of the reference's rows -/
theorem same_refl (t : TR) : v_X4_isSame t t = 1 := by rw [same_eq, if_pos rfl]
theorem alike_eq (a b : TR) : v_X4_isAlike a b = if v_X4_total a = v_X4_total b ∧ a.2.2 = b.2.2 then 1 else 0 := by
  unfold v_X4_isAlike
  by_cases h1 : v_X4_total a = v_X4_total b
  · rw [if_pos ((lg_cmp_eq _ _).mpr h1)]
    by_cases h2 : a.2.2 = b.2.2
    · rw [if_pos h2, if_pos ⟨h1, h2⟩]
    · rw [if_neg h2, if_neg (fun q => h2 q.2)]
  · rw [if_neg (fun q => h1 ((lg_cmp_eq _ _).mp q)), if_neg (fun q => h1 q.1)]
theorem tid_tot {t u : TR} (h : v_X4_tidied t = some u) : v_X4_total u = v_X4_total t ∧ u.2.2 = t.2.2 := by
  unfold v_X4_tidied at h
  rw [om_id] at h
  obtain ⟨⟨h1, h2, h3⟩, rfl⟩ := span_some.mp h
  refine ⟨?_, i32_64 _⟩
  show 12 * (v_X4_total t / 12).toInt32.toInt64 + (v_X4_total t - v_X4_total t / 12 * 12).toInt32.toInt64 = v_X4_total t
  rw [inr_32 h1, inr_32 h2]
  exact tot_i _
theorem tid_alike {t u : TR} (h : v_X4_tidied t = some u) : v_X4_isAlike u t = 1 := by rw [alike_eq, if_pos (tid_tot h)]
theorem x4_ss (t : TR) : v_X4_isSpanSound t = 1 := by
  unfold v_X4_isSpanSound
  cases e : v_X4_tidied t with
  | none =>
    cases v_X4_opposed t with
    | none => rfl
    | some w =>
      show (if v_X4_isSame t t = 0 then (0 : Int32) else 1) = 1
      rw [same_refl, if_neg (by decide)]
  | some u =>
    have a := tid_alike e
    cases v_X4_opposed t with
    | none =>
      show (if v_X4_isAlike u t = 0 then (0 : Int32) else if v_X4_isSame u u = 0 then 0 else 1) = 1
      rw [a, same_refl, if_neg (by decide), if_neg (by decide)]
    | some w =>
      show (if v_X4_isSame t t = 0 then (0 : Int32) else if v_X4_isAlike u t = 0 then (0 : Int32) else if v_X4_isSame u u = 0 then 0 else 1) = 1
      rw [a, same_refl, same_refl, if_neg (by decide), if_neg (by decide), if_neg (by decide)]
theorem sum_cm (a b : TR) : v_X4_sum a 1 b = v_X4_sum b 1 a := by
  have e : ∀ x y : Int64, x + 1 * y = y + 1 * x := by intro x y; grind
  unfold v_X4_sum
  rw [e a.1.toInt64, e a.2.1.toInt64, e a.2.2.toInt64]
theorem opp_tot {t u : TR} (h : v_X4_opposed t = some u) : v_X4_total u = -1 * v_X4_total t ∧ u.2.2.toInt64 = -1 * t.2.2.toInt64 := by
  unfold v_X4_opposed v_X4_sum v_X4_nothing at h
  rw [om_id, om_id] at h
  obtain ⟨⟨h1, h2, h3⟩, rfl⟩ := span_some.mp h
  have z : (0 : Int32).toInt64 = 0 := rfl
  have h1 : inr ((0 : Int32).toInt64 + -1 * t.1.toInt64) := h1
  have h2 : inr ((0 : Int32).toInt64 + -1 * t.2.1.toInt64) := h2
  have h3 : inr ((0 : Int32).toInt64 + -1 * t.2.2.toInt64) := h3
  unfold v_X4_total
  constructor
  · show 12 * ((0 : Int32).toInt64 + -1 * t.1.toInt64).toInt32.toInt64 + ((0 : Int32).toInt64 + -1 * t.2.1.toInt64).toInt32.toInt64 = _
    rw [inr_32 h1, inr_32 h2, z]
    grind
  · show ((0 : Int32).toInt64 + -1 * t.2.2.toInt64).toInt32.toInt64 = _
    rw [inr_32 h3, z]
    grind
theorem neg_inj {x y : Int64} : -1 * x = -1 * y ↔ x = y := by
  constructor
  · intro h; grind
  · intro h; rw [h]
theorem i64_inj {x y : Int32} : x.toInt64 = y.toInt64 ↔ x = y := by
  constructor
  · intro h
    rw [← i32_64 x, ← i32_64 y, h]
  · intro h; rw [h]
theorem opp_alike {a b u w : TR} (h1 : v_X4_opposed a = some u) (h2 : v_X4_opposed b = some w) : v_X4_isAlike a b = v_X4_isAlike u w := by
  obtain ⟨t1, d1⟩ := opp_tot h1
  obtain ⟨t2, d2⟩ := opp_tot h2
  rw [alike_eq, alike_eq, t1, t2]
  have e1 : (a.2.2 = b.2.2) ↔ (u.2.2 = w.2.2) := by
    rw [← i64_inj (x := u.2.2), d1, d2, neg_inj, i64_inj]
  by_cases c : v_X4_total a = v_X4_total b ∧ a.2.2 = b.2.2
  · rw [if_pos c, if_pos ⟨neg_inj.mpr c.1, e1.mp c.2⟩]
  · rw [if_neg c, if_neg (fun q => c ⟨neg_inj.mp q.1, e1.mpr q.2⟩)]
theorem x4_as (a b : TR) : v_X4_areSound a b = 1 := by
  unfold v_X4_areSound
  rw [sum_cm b a]
  cases e : v_X4_sum a 1 b with
  | none => rfl
  | some t =>
    show (if v_X4_isSame t t = 0 then (0 : Int32) else if v_X4_isSame a a = 0 then 0 else om (v_X4_opposed a) 1 (fun t7 => om (v_X4_opposed b) 1 (fun t8 => if v_X4_isAlike a b = v_X4_isAlike t7 t8 then 1 else 0))) = 1
    rw [same_refl, same_refl, if_neg (by decide), if_neg (by decide)]
    cases h1 : v_X4_opposed a with
    | none => rfl
    | some u =>
      cases h2 : v_X4_opposed b with
      | none => rfl
      | some w =>
        show (if v_X4_isAlike a b = v_X4_isAlike u w then (1 : Int32) else 0) = 1
        rw [if_pos (opp_alike h1 h2)]
/-- between leads back -/
theorem tot_w (w : Int32) (d : Int32) : v_X4_total (w / 12, w - w / 12 * 12, d) = w.toInt64 := by
  unfold v_X4_total
  show 12 * (w / 12).toInt64 + (w - w / 12 * 12).toInt64 = w.toInt64
  refine Int64.toInt_inj.mp ?_
  have h1 := Int32.toInt_lt w
  have h2 := Int32.le_toInt w
  have e12 : (12 : Int32).toInt = 12 := rfl
  have f12 : (12 : Int64).toInt = 12 := rfl
  have q1 := Int.mul_tdiv_add_tmod w.toInt 12
  have q4 : (w.toInt.tdiv 12).natAbs = w.toInt.natAbs / 12 := Int.natAbs_tdiv w.toInt 12
  have q2 := Int.tmod_lt_of_pos w.toInt (show (0 : Int) < 12 by decide)
  have q3 := Int.lt_tmod_of_pos w.toInt (show (0 : Int) < 12 by decide)
  have ed : (w / 12).toInt = w.toInt.tdiv 12 := by
    rw [Int32.toInt_div, e12, Int.bmod_eq_of_le (by omega) (by omega)]
  have em : (w / 12 * 12).toInt = w.toInt.tdiv 12 * 12 := by
    rw [Int32.toInt_mul, ed, e12, Int.bmod_eq_of_le (by omega) (by omega)]
  have es : (w - w / 12 * 12).toInt = w.toInt - w.toInt.tdiv 12 * 12 := by
    rw [Int32.toInt_sub, em, Int.bmod_eq_of_le (by omega) (by omega)]
  have ga : (12 * (w / 12).toInt64).toInt = 12 * w.toInt.tdiv 12 := by
    rw [Int64.toInt_mul, f12, Int32.toInt_toInt64, ed, Int.bmod_eq_of_le (by omega) (by omega)]
  rw [Int64.toInt_add, ga, Int32.toInt_toInt64, es, Int32.toInt_toInt64, Int.bmod_eq_of_le (by omega) (by omega)]
  omega
theorem lead_k {a b t1 : TR} {w : Int32} (hb : okv b) (ha : okd a) (e : v_X4_onByMonths a w.toInt64 = some t1) : v_X4_onBy a (w / 12, w - w / 12 * 12, v_X4_number b - v_X4_number t1) 1 = some b := by
  have bw := d64_bd w
  have h1 := (mo_some (dy := fun _ => a) (j := 0) rfl ha bw.1 bw.2 e).1
  have n1 := num_bd h1
  have n2 := num_bd hb
  rw [onBy_1]
  unfold mv2
  rw [tot_w, e, om_s, om_id]
  show v_X4_dateOf ((v_X4_number t1).toInt64 + (v_X4_number b - v_X4_number t1).toInt64) = some b
  have es := sub_i (x := v_X4_number b) (y := v_X4_number t1) (by omega) (by omega)
  have ea : ((v_X4_number t1).toInt64 + (v_X4_number b - v_X4_number t1).toInt64).toInt = (v_X4_number b).toInt := by
    have e1 : (v_X4_number t1).toInt64.toInt = (v_X4_number t1).toInt := Int32.toInt_toInt64 _
    have e2 : (v_X4_number b - v_X4_number t1).toInt64.toInt = (v_X4_number b - v_X4_number t1).toInt := Int32.toInt_toInt64 _
    rw [add_l (by omega) (by omega)]
    omega
  obtain ⟨t, ht, hd, -, hn⟩ := day_of (x := (v_X4_number t1).toInt64 + (v_X4_number b - v_X4_number t1).toInt64) (by omega) (by omega)
  rw [hd, num_inj ht hb (Int32.toInt_inj.mp (by omega))]
theorem lead_b {a b s : TR} (ha : okv a) (hb : okv b) (h : v_X4_apart a b = some s) : v_X4_onBy a s 1 = some b := by
  unfold v_X4_apart at h
  generalize 12 * (b.1 - a.1) + b.2.1 - a.2.1 = w at h
  have k : ∀ w : Int32, om (v_X4_onByMonths a w.toInt64) none (fun t => some (w / 12, w - w / 12 * 12, v_X4_number b - v_X4_number t)) = some s → v_X4_onBy a s 1 = some b := by
    intro w h
    cases e : v_X4_onByMonths a w.toInt64 with
    | none => rw [e] at h; exact (nomatch h)
    | some t1 =>
      rw [e, om_s] at h
      rw [← Option.some.inj h]
      exact lead_k hb ha.1 e
  by_cases c : v_X4_number a ≤ v_X4_number b
  · rw [if_pos c] at h
    by_cases d : a.2.2 ≤ b.2.2
    · rw [if_pos d] at h; exact k _ h
    · rw [if_neg d] at h; exact k _ h
  · rw [if_neg c] at h
    by_cases d : a.2.2 ≤ 28
    · rw [if_pos d] at h
      by_cases f : b.2.2 ≤ a.2.2
      · rw [if_pos f] at h; exact k _ h
      · rw [if_neg f] at h
        by_cases z : 0 ≤ w
        · rw [if_pos z] at h; exact k _ h
        · rw [if_neg z] at h; exact k _ h
    · rw [if_neg d] at h; exact (nomatch h)
theorem lb_1 {dr : Nat → TR} {i j : Int32} {s : TR} (hi : okv (dr i.toNatClampNeg)) (hj : okv (dr j.toNatClampNeg)) (h : v_X4_apart (dr i.toNatClampNeg) (dr j.toNatClampNeg) = some s) : v_X4_leadsBack dr i j = 1 := by
  unfold v_X4_leadsBack
  rw [h, om_s, lead_b hi hj h, om_s, if_pos rfl]
/-! of the class's -/
theorem x2_same {sp : Nat → TR} {i k : Nat} (h : sp i = sp k) : ¬ v_X1_isSameAs sp i k = 0 := fun q => (same_iff.mp q) h
theorem ne_ld {sp dy : Nat → TR} {i j : Nat} (hi : okv (dy i)) (hj : okv (dy j)) (h4 : j ≠ 4) (h : ¬ (v_X1_putBetween sp dy 12 i j).1 = 0) : ¬ (v_X2_leads (v_X1_putBetween sp dy 12 i j).2 dy i 12 j).1 = 0 := by
  rw [btw_eq hi.1 hj.1] at h ⊢
  cases e : v_X4_apart (dy i) (dy j) with
  | none => rw [e] at h; exact absurd rfl h
  | some t =>
    have e2 : ((1 : Int32), va_up sp 12 t).2 12 = t := by
      show va_up sp 12 t 12 = t
      exact va_up_self _ _ _
    rw [om_s, lds_eq hi.1 hj.1 h4, e2, lead_b hi hj e, om_s]
    show ¬ (if v_X4_number (dy j) = v_X4_number (dy j) then (1 : Int32) else 0) = 0
    rw [if_pos rfl]
    decide
end
section
def v_X2_isSpanSound (sp : Nat → TR) (i1 : Nat) : Int32 × (Nat → TR) := if (v_X1_put sp 12 ((sp i1).1.toInt64) ((sp i1).2.1.toInt64) ((sp i1).2.2.toInt64)).1 = 0 then (0, (v_X1_put sp 12 ((sp i1).1.toInt64) ((sp i1).2.1.toInt64) ((sp i1).2.2.toInt64)).2) else (if (v_X1_isSameAs (v_X1_put sp 12 ((sp i1).1.toInt64) ((sp i1).2.1.toInt64) ((sp i1).2.2.toInt64)).2 12 i1) = 0 then (0, (v_X1_put sp 12 ((sp i1).1.toInt64) ((sp i1).2.1.toInt64) ((sp i1).2.2.toInt64)).2) else (if (v_X1_putOpposite (v_X1_put sp 12 ((sp i1).1.toInt64) ((sp i1).2.1.toInt64) ((sp i1).2.2.toInt64)).2 12 i1).1 = 0 then (if (v_X1_putTidy (v_X1_putOpposite (v_X1_put sp 12 ((sp i1).1.toInt64) ((sp i1).2.1.toInt64) ((sp i1).2.2.toInt64)).2 12 i1).2 12 i1).1 = 0 then (1, (v_X1_putTidy (v_X1_putOpposite (v_X1_put sp 12 ((sp i1).1.toInt64) ((sp i1).2.1.toInt64) ((sp i1).2.2.toInt64)).2 12 i1).2 12 i1).2) else (if (v_X1_isAlikeTo (v_X1_putTidy (v_X1_putOpposite (v_X1_put sp 12 ((sp i1).1.toInt64) ((sp i1).2.1.toInt64) ((sp i1).2.2.toInt64)).2 12 i1).2 12 i1).2 12 i1) = 0 then (0, (v_X1_putTidy (v_X1_putOpposite (v_X1_put sp 12 ((sp i1).1.toInt64) ((sp i1).2.1.toInt64) ((sp i1).2.2.toInt64)).2 12 i1).2 12 i1).2) else (if (v_X1_putTidy (v_X1_putTidy (v_X1_putOpposite (v_X1_put sp 12 ((sp i1).1.toInt64) ((sp i1).2.1.toInt64) ((sp i1).2.2.toInt64)).2 12 i1).2 12 i1).2 13 12).1 = 0 then (0, (v_X1_putTidy (v_X1_putTidy (v_X1_putOpposite (v_X1_put sp 12 ((sp i1).1.toInt64) ((sp i1).2.1.toInt64) ((sp i1).2.2.toInt64)).2 12 i1).2 12 i1).2 13 12).2) else (if (v_X1_isSameAs (v_X1_putTidy (v_X1_putTidy (v_X1_putOpposite (v_X1_put sp 12 ((sp i1).1.toInt64) ((sp i1).2.1.toInt64) ((sp i1).2.2.toInt64)).2 12 i1).2 12 i1).2 13 12).2 13 12) = 0 then (0, (v_X1_putTidy (v_X1_putTidy (v_X1_putOpposite (v_X1_put sp 12 ((sp i1).1.toInt64) ((sp i1).2.1.toInt64) ((sp i1).2.2.toInt64)).2 12 i1).2 12 i1).2 13 12).2) else (1, (v_X1_putTidy (v_X1_putTidy (v_X1_putOpposite (v_X1_put sp 12 ((sp i1).1.toInt64) ((sp i1).2.1.toInt64) ((sp i1).2.2.toInt64)).2 12 i1).2 12 i1).2 13 12).2))))) else (if (v_X1_putOpposite (v_X1_putOpposite (v_X1_put sp 12 ((sp i1).1.toInt64) ((sp i1).2.1.toInt64) ((sp i1).2.2.toInt64)).2 12 i1).2 13 12).1 = 0 then (0, (v_X1_putOpposite (v_X1_putOpposite (v_X1_put sp 12 ((sp i1).1.toInt64) ((sp i1).2.1.toInt64) ((sp i1).2.2.toInt64)).2 12 i1).2 13 12).2) else (if (v_X1_isSameAs (v_X1_putOpposite (v_X1_putOpposite (v_X1_put sp 12 ((sp i1).1.toInt64) ((sp i1).2.1.toInt64) ((sp i1).2.2.toInt64)).2 12 i1).2 13 12).2 13 i1) = 0 then (0, (v_X1_putOpposite (v_X1_putOpposite (v_X1_put sp 12 ((sp i1).1.toInt64) ((sp i1).2.1.toInt64) ((sp i1).2.2.toInt64)).2 12 i1).2 13 12).2) else (if (v_X1_putTidy (v_X1_putOpposite (v_X1_putOpposite (v_X1_put sp 12 ((sp i1).1.toInt64) ((sp i1).2.1.toInt64) ((sp i1).2.2.toInt64)).2 12 i1).2 13 12).2 12 i1).1 = 0 then (1, (v_X1_putTidy (v_X1_putOpposite (v_X1_putOpposite (v_X1_put sp 12 ((sp i1).1.toInt64) ((sp i1).2.1.toInt64) ((sp i1).2.2.toInt64)).2 12 i1).2 13 12).2 12 i1).2) else (if (v_X1_isAlikeTo (v_X1_putTidy (v_X1_putOpposite (v_X1_putOpposite (v_X1_put sp 12 ((sp i1).1.toInt64) ((sp i1).2.1.toInt64) ((sp i1).2.2.toInt64)).2 12 i1).2 13 12).2 12 i1).2 12 i1) = 0 then (0, (v_X1_putTidy (v_X1_putOpposite (v_X1_putOpposite (v_X1_put sp 12 ((sp i1).1.toInt64) ((sp i1).2.1.toInt64) ((sp i1).2.2.toInt64)).2 12 i1).2 13 12).2 12 i1).2) else (if (v_X1_putTidy (v_X1_putTidy (v_X1_putOpposite (v_X1_putOpposite (v_X1_put sp 12 ((sp i1).1.toInt64) ((sp i1).2.1.toInt64) ((sp i1).2.2.toInt64)).2 12 i1).2 13 12).2 12 i1).2 13 12).1 = 0 then (0, (v_X1_putTidy (v_X1_putTidy (v_X1_putOpposite (v_X1_putOpposite (v_X1_put sp 12 ((sp i1).1.toInt64) ((sp i1).2.1.toInt64) ((sp i1).2.2.toInt64)).2 12 i1).2 13 12).2 12 i1).2 13 12).2) else (if (v_X1_isSameAs (v_X1_putTidy (v_X1_putTidy (v_X1_putOpposite (v_X1_putOpposite (v_X1_put sp 12 ((sp i1).1.toInt64) ((sp i1).2.1.toInt64) ((sp i1).2.2.toInt64)).2 12 i1).2 13 12).2 12 i1).2 13 12).2 13 12) = 0 then (0, (v_X1_putTidy (v_X1_putTidy (v_X1_putOpposite (v_X1_putOpposite (v_X1_put sp 12 ((sp i1).1.toInt64) ((sp i1).2.1.toInt64) ((sp i1).2.2.toInt64)).2 12 i1).2 13 12).2 12 i1).2 13 12).2) else (1, (v_X1_putTidy (v_X1_putTidy (v_X1_putOpposite (v_X1_putOpposite (v_X1_put sp 12 ((sp i1).1.toInt64) ((sp i1).2.1.toInt64) ((sp i1).2.2.toInt64)).2 12 i1).2 13 12).2 12 i1).2 13 12).2)))))))))
theorem b01_X2_isSpanSound {sp : Nat → TR} {i1 : Nat} : (v_X2_isSpanSound sp i1).1 = 0 ∨ (v_X2_isSpanSound sp i1).1 = 1 := by
  unfold v_X2_isSpanSound
  by_cases q1 : (v_X1_put sp 12 ((sp i1).1.toInt64) ((sp i1).2.1.toInt64) ((sp i1).2.2.toInt64)).1 = 0
  · rw [if_pos q1]
    exact Or.inl rfl
  · rw [if_neg q1]
    by_cases q2 : (v_X1_isSameAs (v_X1_put sp 12 ((sp i1).1.toInt64) ((sp i1).2.1.toInt64) ((sp i1).2.2.toInt64)).2 12 i1) = 0
    · rw [if_pos q2]
      exact Or.inl rfl
    · rw [if_neg q2]
      by_cases q3 : (v_X1_putOpposite (v_X1_put sp 12 ((sp i1).1.toInt64) ((sp i1).2.1.toInt64) ((sp i1).2.2.toInt64)).2 12 i1).1 = 0
      · rw [if_pos q3]
        by_cases q4 : (v_X1_putTidy (v_X1_putOpposite (v_X1_put sp 12 ((sp i1).1.toInt64) ((sp i1).2.1.toInt64) ((sp i1).2.2.toInt64)).2 12 i1).2 12 i1).1 = 0
        · rw [if_pos q4]
          exact Or.inr rfl
        · rw [if_neg q4]
          by_cases q5 : (v_X1_isAlikeTo (v_X1_putTidy (v_X1_putOpposite (v_X1_put sp 12 ((sp i1).1.toInt64) ((sp i1).2.1.toInt64) ((sp i1).2.2.toInt64)).2 12 i1).2 12 i1).2 12 i1) = 0
          · rw [if_pos q5]
            exact Or.inl rfl
          · rw [if_neg q5]
            by_cases q6 : (v_X1_putTidy (v_X1_putTidy (v_X1_putOpposite (v_X1_put sp 12 ((sp i1).1.toInt64) ((sp i1).2.1.toInt64) ((sp i1).2.2.toInt64)).2 12 i1).2 12 i1).2 13 12).1 = 0
            · rw [if_pos q6]
              exact Or.inl rfl
            · rw [if_neg q6]
              by_cases q7 : (v_X1_isSameAs (v_X1_putTidy (v_X1_putTidy (v_X1_putOpposite (v_X1_put sp 12 ((sp i1).1.toInt64) ((sp i1).2.1.toInt64) ((sp i1).2.2.toInt64)).2 12 i1).2 12 i1).2 13 12).2 13 12) = 0
              · rw [if_pos q7]
                exact Or.inl rfl
              · rw [if_neg q7]
                exact Or.inr rfl
      · rw [if_neg q3]
        by_cases q8 : (v_X1_putOpposite (v_X1_putOpposite (v_X1_put sp 12 ((sp i1).1.toInt64) ((sp i1).2.1.toInt64) ((sp i1).2.2.toInt64)).2 12 i1).2 13 12).1 = 0
        · rw [if_pos q8]
          exact Or.inl rfl
        · rw [if_neg q8]
          by_cases q9 : (v_X1_isSameAs (v_X1_putOpposite (v_X1_putOpposite (v_X1_put sp 12 ((sp i1).1.toInt64) ((sp i1).2.1.toInt64) ((sp i1).2.2.toInt64)).2 12 i1).2 13 12).2 13 i1) = 0
          · rw [if_pos q9]
            exact Or.inl rfl
          · rw [if_neg q9]
            by_cases q10 : (v_X1_putTidy (v_X1_putOpposite (v_X1_putOpposite (v_X1_put sp 12 ((sp i1).1.toInt64) ((sp i1).2.1.toInt64) ((sp i1).2.2.toInt64)).2 12 i1).2 13 12).2 12 i1).1 = 0
            · rw [if_pos q10]
              exact Or.inr rfl
            · rw [if_neg q10]
              by_cases q11 : (v_X1_isAlikeTo (v_X1_putTidy (v_X1_putOpposite (v_X1_putOpposite (v_X1_put sp 12 ((sp i1).1.toInt64) ((sp i1).2.1.toInt64) ((sp i1).2.2.toInt64)).2 12 i1).2 13 12).2 12 i1).2 12 i1) = 0
              · rw [if_pos q11]
                exact Or.inl rfl
              · rw [if_neg q11]
                by_cases q12 : (v_X1_putTidy (v_X1_putTidy (v_X1_putOpposite (v_X1_putOpposite (v_X1_put sp 12 ((sp i1).1.toInt64) ((sp i1).2.1.toInt64) ((sp i1).2.2.toInt64)).2 12 i1).2 13 12).2 12 i1).2 13 12).1 = 0
                · rw [if_pos q12]
                  exact Or.inl rfl
                · rw [if_neg q12]
                  by_cases q13 : (v_X1_isSameAs (v_X1_putTidy (v_X1_putTidy (v_X1_putOpposite (v_X1_putOpposite (v_X1_put sp 12 ((sp i1).1.toInt64) ((sp i1).2.1.toInt64) ((sp i1).2.2.toInt64)).2 12 i1).2 13 12).2 12 i1).2 13 12).2 13 12) = 0
                  · rw [if_pos q13]
                    exact Or.inl rfl
                  · rw [if_neg q13]
                    exact Or.inr rfl
set_option maxHeartbeats 4000000 in
set_option maxRecDepth 100000 in
theorem ce_X2_isSpanSound (l : Launch) (g : GG) (N : Nat) (ad : Nat → Nat) (x : Nat → va_E) (sp dy : Nat → TR) (la kn re : Int32) (hN : 23 ≤ N) (i1 : Nat) (hi1 : i1 < 14) : KI l yX2_isSpanSound cX2_isSpanSound 2 (some .boolean) (rm 4 0 0) g [.ref (ad 0), .ref (ad (4 + i1))] N ad (cf g ad x sp dy la kn re) N (fun r ad' f' => ad = ad' ∧ (v_X2_isSpanSound sp i1).1 = r ∧ (cf g ad x (v_X2_isSpanSound sp i1).2 dy la kn re) = f') := by
  intro sz
  refine mt_start (by decide) (Nat.le_of_ble_eq_true rfl) ?_
  intro p e s m args below meth c hsz X hr hnam hA hK hT H locs B ls hl
  obtain ⟨hx, hb, hml, hown, hts, hlocks⟩ := id X
  have hl : lv_has ls 2 [(0, .ref (ad 0)), (1, .ref (ad (4 + i1)))] := hl
  refine lv_aload_n hx hb dX2_isSpanSound_0 rfl (lv_at hl 0 rfl) ?_
  refine g_get (q := 0) (k := 6) X hK B rfl in_X2 (pl_c hN 0 (by decide)) cf_0 (by decide) lk_X2_25 rfl rfl dX2_isSpanSound_1 ?_
  refine lv_aload_n hx hb dX2_isSpanSound_4 rfl (lv_at hl 1 rfl) ?_
  refine g_getN (q := (4 + i1)) (k := 0) X hK hT B rfl in_X1 (pl_sp hN hi1) (cf_sp hi1) (by decide) lk_X2_55 rfl rfl dX2_isSpanSound_5 ?_
  refine lv_i2l (v := (sp i1).1.toInt64) hx hb dX2_isSpanSound_8 rfl ?_
  refine lv_aload_n hx hb dX2_isSpanSound_9 rfl (lv_at hl 1 rfl) ?_
  refine g_getN (q := (4 + i1)) (k := 1) X hK hT B rfl in_X1 (pl_sp hN hi1) (cf_sp hi1) (by decide) lk_X2_59 rfl rfl dX2_isSpanSound_10 ?_
  refine lv_i2l (v := (sp i1).2.1.toInt64) hx hb dX2_isSpanSound_13 rfl ?_
  refine lv_aload_n hx hb dX2_isSpanSound_14 rfl (lv_at hl 1 rfl) ?_
  refine g_getN (q := (4 + i1)) (k := 2) X hK hT B rfl in_X1 (pl_sp hN hi1) (cf_sp hi1) (by decide) lk_X2_62 rfl rfl dX2_isSpanSound_15 ?_
  refine lv_i2l (v := (sp i1).2.2.toInt64) hx hb dX2_isSpanSound_18 rfl ?_
  refine k_i (k := 0) (n := 0) hA B (u_VN (rest := []) X (c_X1_put l g N ad x sp dy la kn re hN 12 (by decide) ((sp i1).1.toInt64) ((sp i1).2.1.toInt64) ((sp i1).2.2.toInt64) H.size) mw_X1_put md_X1_put rfl lk_X2_41 ⟨Nat.le_of_ble_eq_true rfl, Nat.le_of_ble_eq_true rfl⟩ hA hK hT B (pl_sp hN (by decide)) (cf_sp (by decide)) rfl rfl hl.1 rfl (Nat.le_of_ble_eq_true rfl) dX2_isSpanSound_19 ⟨Nat.le_of_ble_eq_true rfl, Nat.le_of_ble_eq_true rfl⟩) (Nat.le_of_ble_eq_true rfl) (Nat.le_of_ble_eq_true rfl) (fun r ad' f' H locs hw B => ?_)
  obtain ⟨rfl, rfl, rfl⟩ := hw
  refine lv_if_eq (tgt := 36) hx hb dX2_isSpanSound_22 (by decide) (fun c1 => ?_) (fun c1 => ?_)
  · refine lv_iconst (v := 0) hx hb dX2_isSpanSound_36 (by decide) ?_
    have ev := (show v_X2_isSpanSound sp i1 = (0, (v_X1_put sp 12 ((sp i1).1.toInt64) ((sp i1).2.1.toInt64) ((sp i1).2.2.toInt64)).2) from by unfold v_X2_isSpanSound; rw [if_pos c1])
    exact rt_i X hr (ad, (cf g ad x (v_X1_put sp 12 ((sp i1).1.toInt64) ((sp i1).2.1.toInt64) ((sp i1).2.2.toInt64)).2 dy la kn re)) B (PO_of B) ⟨rfl, by rw [ev], by rw [ev]⟩ rfl (Nat.le_of_ble_eq_true rfl) (Nat.le_of_ble_eq_true rfl) dX2_isSpanSound_37
  · refine lv_aload_n hx hb dX2_isSpanSound_25 rfl (lv_at hl 0 rfl) ?_
    refine g_get (q := 0) (k := 6) X hK B rfl in_X2 (pl_c hN 0 (by decide)) cf_0 (by decide) lk_X2_25 rfl rfl dX2_isSpanSound_26 ?_
    refine lv_aload_n hx hb dX2_isSpanSound_29 rfl (lv_at hl 1 rfl) ?_
    refine k_i (k := 0) (n := 0) hA B (u_VN (rest := []) X (c_X1_isSameAs l g N ad x (v_X1_put sp 12 ((sp i1).1.toInt64) ((sp i1).2.1.toInt64) ((sp i1).2.2.toInt64)).2 dy la kn re hN 12 (by decide) i1 hi1 H.size) mw_X1_isSameAs md_X1_isSameAs rfl lk_X2_123 ⟨Nat.le_of_ble_eq_true rfl, Nat.le_of_ble_eq_true rfl⟩ hA hK hT B (pl_sp hN (by decide)) (cf_sp (by decide)) rfl rfl hl.1 rfl (Nat.le_of_ble_eq_true rfl) dX2_isSpanSound_30 ⟨Nat.le_of_ble_eq_true rfl, Nat.le_of_ble_eq_true rfl⟩) (Nat.le_of_ble_eq_true rfl) (Nat.le_of_ble_eq_true rfl) (fun r ad' f' H locs hw B => ?_)
    obtain ⟨rfl, rfl, rfl⟩ := hw
    refine lv_if_ne (tgt := 38) hx hb dX2_isSpanSound_33 (by decide) (fun c2 => ?_) (fun c2 => ?_)
    · refine lv_aload_n hx hb dX2_isSpanSound_38 rfl (lv_at hl 0 rfl) ?_
      refine g_get (q := 0) (k := 6) X hK B rfl in_X2 (pl_c hN 0 (by decide)) cf_0 (by decide) lk_X2_25 rfl rfl dX2_isSpanSound_39 ?_
      refine lv_aload_n hx hb dX2_isSpanSound_42 rfl (lv_at hl 1 rfl) ?_
      refine k_i (k := 0) (n := 0) hA B (u_VN (rest := []) X (c_X1_putOpposite l g N ad x (v_X1_put sp 12 ((sp i1).1.toInt64) ((sp i1).2.1.toInt64) ((sp i1).2.2.toInt64)).2 dy la kn re hN 12 (by decide) i1 hi1 H.size) mw_X1_putOpposite md_X1_putOpposite rfl lk_X2_84 ⟨Nat.le_of_ble_eq_true rfl, Nat.le_of_ble_eq_true rfl⟩ hA hK hT B (pl_sp hN (by decide)) (cf_sp (by decide)) rfl rfl hl.1 rfl (Nat.le_of_ble_eq_true rfl) dX2_isSpanSound_43 ⟨Nat.le_of_ble_eq_true rfl, Nat.le_of_ble_eq_true rfl⟩) (Nat.le_of_ble_eq_true rfl) (Nat.le_of_ble_eq_true rfl) (fun r ad' f' H locs hw B => ?_)
      obtain ⟨rfl, rfl, rfl⟩ := hw
      refine lv_if_eq (tgt := 76) hx hb dX2_isSpanSound_46 (by decide) (fun c3 => ?_) (fun c3 => ?_)
      · refine lv_aload_n hx hb dX2_isSpanSound_76 rfl (lv_at hl 0 rfl) ?_
        refine g_get (q := 0) (k := 6) X hK B rfl in_X2 (pl_c hN 0 (by decide)) cf_0 (by decide) lk_X2_25 rfl rfl dX2_isSpanSound_77 ?_
        refine lv_aload_n hx hb dX2_isSpanSound_80 rfl (lv_at hl 1 rfl) ?_
        refine k_i (k := 0) (n := 0) hA B (u_VN (rest := []) X (c_X1_putTidy l g N ad x (v_X1_putOpposite (v_X1_put sp 12 ((sp i1).1.toInt64) ((sp i1).2.1.toInt64) ((sp i1).2.2.toInt64)).2 12 i1).2 dy la kn re hN 12 (by decide) i1 hi1 H.size) mw_X1_putTidy md_X1_putTidy rfl lk_X2_88 ⟨Nat.le_of_ble_eq_true rfl, Nat.le_of_ble_eq_true rfl⟩ hA hK hT B (pl_sp hN (by decide)) (cf_sp (by decide)) rfl rfl hl.1 rfl (Nat.le_of_ble_eq_true rfl) dX2_isSpanSound_81 ⟨Nat.le_of_ble_eq_true rfl, Nat.le_of_ble_eq_true rfl⟩) (Nat.le_of_ble_eq_true rfl) (Nat.le_of_ble_eq_true rfl) (fun r ad' f' H locs hw B => ?_)
        obtain ⟨rfl, rfl, rfl⟩ := hw
        refine lv_if_ne (tgt := 89) hx hb dX2_isSpanSound_84 (by decide) (fun c4 => ?_) (fun c4 => ?_)
        · refine lv_aload_n hx hb dX2_isSpanSound_89 rfl (lv_at hl 0 rfl) ?_
          refine g_get (q := 0) (k := 6) X hK B rfl in_X2 (pl_c hN 0 (by decide)) cf_0 (by decide) lk_X2_25 rfl rfl dX2_isSpanSound_90 ?_
          refine lv_aload_n hx hb dX2_isSpanSound_93 rfl (lv_at hl 1 rfl) ?_
          refine k_i (k := 0) (n := 0) hA B (u_VN (rest := []) X (c_X1_isAlikeTo l g N ad x (v_X1_putTidy (v_X1_putOpposite (v_X1_put sp 12 ((sp i1).1.toInt64) ((sp i1).2.1.toInt64) ((sp i1).2.2.toInt64)).2 12 i1).2 12 i1).2 dy la kn re hN 12 (by decide) i1 hi1 H.size) mw_X1_isAlikeTo md_X1_isAlikeTo rfl lk_X2_126 ⟨Nat.le_of_ble_eq_true rfl, Nat.le_of_ble_eq_true rfl⟩ hA hK hT B (pl_sp hN (by decide)) (cf_sp (by decide)) rfl rfl hl.1 rfl (Nat.le_of_ble_eq_true rfl) dX2_isSpanSound_94 ⟨Nat.le_of_ble_eq_true rfl, Nat.le_of_ble_eq_true rfl⟩) (Nat.le_of_ble_eq_true rfl) (Nat.le_of_ble_eq_true rfl) (fun r ad' f' H locs hw B => ?_)
          obtain ⟨rfl, rfl, rfl⟩ := hw
          refine lv_if_eq (tgt := 132) hx hb dX2_isSpanSound_97 (by decide) (fun c5 => ?_) (fun c5 => ?_)
          · refine lv_iconst (v := 0) hx hb dX2_isSpanSound_132 (by decide) ?_
            have ev := (show v_X2_isSpanSound sp i1 = (0, (v_X1_putTidy (v_X1_putOpposite (v_X1_put sp 12 ((sp i1).1.toInt64) ((sp i1).2.1.toInt64) ((sp i1).2.2.toInt64)).2 12 i1).2 12 i1).2) from by unfold v_X2_isSpanSound; rw [if_neg c1, if_neg c2, if_pos c3, if_neg c4, if_pos c5])
            exact rt_i X hr (ad, (cf g ad x (v_X1_putTidy (v_X1_putOpposite (v_X1_put sp 12 ((sp i1).1.toInt64) ((sp i1).2.1.toInt64) ((sp i1).2.2.toInt64)).2 12 i1).2 12 i1).2 dy la kn re)) B (PO_of B) ⟨rfl, by rw [ev], by rw [ev]⟩ rfl (Nat.le_of_ble_eq_true rfl) (Nat.le_of_ble_eq_true rfl) dX2_isSpanSound_133
          · refine lv_aload_n hx hb dX2_isSpanSound_100 rfl (lv_at hl 0 rfl) ?_
            refine g_get (q := 0) (k := 7) X hK B rfl in_X2 (pl_c hN 0 (by decide)) cf_0 (by decide) lk_X2_29 rfl rfl dX2_isSpanSound_101 ?_
            refine lv_aload_n hx hb dX2_isSpanSound_104 rfl (lv_at hl 0 rfl) ?_
            refine g_get (q := 0) (k := 6) X hK B rfl in_X2 (pl_c hN 0 (by decide)) cf_0 (by decide) lk_X2_25 rfl rfl dX2_isSpanSound_105 ?_
            refine k_i (k := 0) (n := 0) hA B (u_VN (rest := []) X (c_X1_putTidy l g N ad x (v_X1_putTidy (v_X1_putOpposite (v_X1_put sp 12 ((sp i1).1.toInt64) ((sp i1).2.1.toInt64) ((sp i1).2.2.toInt64)).2 12 i1).2 12 i1).2 dy la kn re hN 13 (by decide) 12 (by decide) H.size) mw_X1_putTidy md_X1_putTidy rfl lk_X2_88 ⟨Nat.le_of_ble_eq_true rfl, Nat.le_of_ble_eq_true rfl⟩ hA hK hT B (pl_sp hN (by decide)) (cf_sp (by decide)) rfl rfl hl.1 rfl (Nat.le_of_ble_eq_true rfl) dX2_isSpanSound_108 ⟨Nat.le_of_ble_eq_true rfl, Nat.le_of_ble_eq_true rfl⟩) (Nat.le_of_ble_eq_true rfl) (Nat.le_of_ble_eq_true rfl) (fun r ad' f' H locs hw B => ?_)
            obtain ⟨rfl, rfl, rfl⟩ := hw
            refine lv_if_eq (tgt := 132) hx hb dX2_isSpanSound_111 (by decide) (fun c6 => ?_) (fun c6 => ?_)
            · refine lv_iconst (v := 0) hx hb dX2_isSpanSound_132 (by decide) ?_
              have ev := (show v_X2_isSpanSound sp i1 = (0, (v_X1_putTidy (v_X1_putTidy (v_X1_putOpposite (v_X1_put sp 12 ((sp i1).1.toInt64) ((sp i1).2.1.toInt64) ((sp i1).2.2.toInt64)).2 12 i1).2 12 i1).2 13 12).2) from by unfold v_X2_isSpanSound; rw [if_neg c1, if_neg c2, if_pos c3, if_neg c4, if_neg c5, if_pos c6])
              exact rt_i X hr (ad, (cf g ad x (v_X1_putTidy (v_X1_putTidy (v_X1_putOpposite (v_X1_put sp 12 ((sp i1).1.toInt64) ((sp i1).2.1.toInt64) ((sp i1).2.2.toInt64)).2 12 i1).2 12 i1).2 13 12).2 dy la kn re)) B (PO_of B) ⟨rfl, by rw [ev], by rw [ev]⟩ rfl (Nat.le_of_ble_eq_true rfl) (Nat.le_of_ble_eq_true rfl) dX2_isSpanSound_133
            · refine lv_aload_n hx hb dX2_isSpanSound_114 rfl (lv_at hl 0 rfl) ?_
              refine g_get (q := 0) (k := 7) X hK B rfl in_X2 (pl_c hN 0 (by decide)) cf_0 (by decide) lk_X2_29 rfl rfl dX2_isSpanSound_115 ?_
              refine lv_aload_n hx hb dX2_isSpanSound_118 rfl (lv_at hl 0 rfl) ?_
              refine g_get (q := 0) (k := 6) X hK B rfl in_X2 (pl_c hN 0 (by decide)) cf_0 (by decide) lk_X2_25 rfl rfl dX2_isSpanSound_119 ?_
              refine k_i (k := 0) (n := 0) hA B (u_VN (rest := []) X (c_X1_isSameAs l g N ad x (v_X1_putTidy (v_X1_putTidy (v_X1_putOpposite (v_X1_put sp 12 ((sp i1).1.toInt64) ((sp i1).2.1.toInt64) ((sp i1).2.2.toInt64)).2 12 i1).2 12 i1).2 13 12).2 dy la kn re hN 13 (by decide) 12 (by decide) H.size) mw_X1_isSameAs md_X1_isSameAs rfl lk_X2_123 ⟨Nat.le_of_ble_eq_true rfl, Nat.le_of_ble_eq_true rfl⟩ hA hK hT B (pl_sp hN (by decide)) (cf_sp (by decide)) rfl rfl hl.1 rfl (Nat.le_of_ble_eq_true rfl) dX2_isSpanSound_122 ⟨Nat.le_of_ble_eq_true rfl, Nat.le_of_ble_eq_true rfl⟩) (Nat.le_of_ble_eq_true rfl) (Nat.le_of_ble_eq_true rfl) (fun r ad' f' H locs hw B => ?_)
              obtain ⟨rfl, rfl, rfl⟩ := hw
              refine lv_if_eq (tgt := 132) hx hb dX2_isSpanSound_125 (by decide) (fun c7 => ?_) (fun c7 => ?_)
              · refine lv_iconst (v := 0) hx hb dX2_isSpanSound_132 (by decide) ?_
                have ev := (show v_X2_isSpanSound sp i1 = (0, (v_X1_putTidy (v_X1_putTidy (v_X1_putOpposite (v_X1_put sp 12 ((sp i1).1.toInt64) ((sp i1).2.1.toInt64) ((sp i1).2.2.toInt64)).2 12 i1).2 12 i1).2 13 12).2) from by unfold v_X2_isSpanSound; rw [if_neg c1, if_neg c2, if_pos c3, if_neg c4, if_neg c5, if_neg c6, if_pos c7])
                exact rt_i X hr (ad, (cf g ad x (v_X1_putTidy (v_X1_putTidy (v_X1_putOpposite (v_X1_put sp 12 ((sp i1).1.toInt64) ((sp i1).2.1.toInt64) ((sp i1).2.2.toInt64)).2 12 i1).2 12 i1).2 13 12).2 dy la kn re)) B (PO_of B) ⟨rfl, by rw [ev], by rw [ev]⟩ rfl (Nat.le_of_ble_eq_true rfl) (Nat.le_of_ble_eq_true rfl) dX2_isSpanSound_133
              · refine lv_iconst (v := 1) hx hb dX2_isSpanSound_128 (by decide) ?_
                refine lv_goto (tgt := 133) hx hb dX2_isSpanSound_129 (by decide) ?_
                have ev := (show v_X2_isSpanSound sp i1 = (1, (v_X1_putTidy (v_X1_putTidy (v_X1_putOpposite (v_X1_put sp 12 ((sp i1).1.toInt64) ((sp i1).2.1.toInt64) ((sp i1).2.2.toInt64)).2 12 i1).2 12 i1).2 13 12).2) from by unfold v_X2_isSpanSound; rw [if_neg c1, if_neg c2, if_pos c3, if_neg c4, if_neg c5, if_neg c6, if_neg c7])
                exact rt_i X hr (ad, (cf g ad x (v_X1_putTidy (v_X1_putTidy (v_X1_putOpposite (v_X1_put sp 12 ((sp i1).1.toInt64) ((sp i1).2.1.toInt64) ((sp i1).2.2.toInt64)).2 12 i1).2 12 i1).2 13 12).2 dy la kn re)) B (PO_of B) ⟨rfl, by rw [ev], by rw [ev]⟩ rfl (Nat.le_of_ble_eq_true rfl) (Nat.le_of_ble_eq_true rfl) dX2_isSpanSound_133
        · refine lv_iconst (v := 1) hx hb dX2_isSpanSound_87 (by decide) ?_
          have ev := (show v_X2_isSpanSound sp i1 = (1, (v_X1_putTidy (v_X1_putOpposite (v_X1_put sp 12 ((sp i1).1.toInt64) ((sp i1).2.1.toInt64) ((sp i1).2.2.toInt64)).2 12 i1).2 12 i1).2) from by unfold v_X2_isSpanSound; rw [if_neg c1, if_neg c2, if_pos c3, if_pos c4])
          exact rt_i X hr (ad, (cf g ad x (v_X1_putTidy (v_X1_putOpposite (v_X1_put sp 12 ((sp i1).1.toInt64) ((sp i1).2.1.toInt64) ((sp i1).2.2.toInt64)).2 12 i1).2 12 i1).2 dy la kn re)) B (PO_of B) ⟨rfl, by rw [ev], by rw [ev]⟩ rfl (Nat.le_of_ble_eq_true rfl) (Nat.le_of_ble_eq_true rfl) dX2_isSpanSound_88
      · refine lv_aload_n hx hb dX2_isSpanSound_49 rfl (lv_at hl 0 rfl) ?_
        refine g_get (q := 0) (k := 7) X hK B rfl in_X2 (pl_c hN 0 (by decide)) cf_0 (by decide) lk_X2_29 rfl rfl dX2_isSpanSound_50 ?_
        refine lv_aload_n hx hb dX2_isSpanSound_53 rfl (lv_at hl 0 rfl) ?_
        refine g_get (q := 0) (k := 6) X hK B rfl in_X2 (pl_c hN 0 (by decide)) cf_0 (by decide) lk_X2_25 rfl rfl dX2_isSpanSound_54 ?_
        refine k_i (k := 0) (n := 0) hA B (u_VN (rest := []) X (c_X1_putOpposite l g N ad x (v_X1_putOpposite (v_X1_put sp 12 ((sp i1).1.toInt64) ((sp i1).2.1.toInt64) ((sp i1).2.2.toInt64)).2 12 i1).2 dy la kn re hN 13 (by decide) 12 (by decide) H.size) mw_X1_putOpposite md_X1_putOpposite rfl lk_X2_84 ⟨Nat.le_of_ble_eq_true rfl, Nat.le_of_ble_eq_true rfl⟩ hA hK hT B (pl_sp hN (by decide)) (cf_sp (by decide)) rfl rfl hl.1 rfl (Nat.le_of_ble_eq_true rfl) dX2_isSpanSound_57 ⟨Nat.le_of_ble_eq_true rfl, Nat.le_of_ble_eq_true rfl⟩) (Nat.le_of_ble_eq_true rfl) (Nat.le_of_ble_eq_true rfl) (fun r ad' f' H locs hw B => ?_)
        obtain ⟨rfl, rfl, rfl⟩ := hw
        refine lv_if_eq (tgt := 74) hx hb dX2_isSpanSound_60 (by decide) (fun c8 => ?_) (fun c8 => ?_)
        · refine lv_iconst (v := 0) hx hb dX2_isSpanSound_74 (by decide) ?_
          have ev := (show v_X2_isSpanSound sp i1 = (0, (v_X1_putOpposite (v_X1_putOpposite (v_X1_put sp 12 ((sp i1).1.toInt64) ((sp i1).2.1.toInt64) ((sp i1).2.2.toInt64)).2 12 i1).2 13 12).2) from by unfold v_X2_isSpanSound; rw [if_neg c1, if_neg c2, if_neg c3, if_pos c8])
          exact rt_i X hr (ad, (cf g ad x (v_X1_putOpposite (v_X1_putOpposite (v_X1_put sp 12 ((sp i1).1.toInt64) ((sp i1).2.1.toInt64) ((sp i1).2.2.toInt64)).2 12 i1).2 13 12).2 dy la kn re)) B (PO_of B) ⟨rfl, by rw [ev], by rw [ev]⟩ rfl (Nat.le_of_ble_eq_true rfl) (Nat.le_of_ble_eq_true rfl) dX2_isSpanSound_75
        · refine lv_aload_n hx hb dX2_isSpanSound_63 rfl (lv_at hl 0 rfl) ?_
          refine g_get (q := 0) (k := 7) X hK B rfl in_X2 (pl_c hN 0 (by decide)) cf_0 (by decide) lk_X2_29 rfl rfl dX2_isSpanSound_64 ?_
          refine lv_aload_n hx hb dX2_isSpanSound_67 rfl (lv_at hl 1 rfl) ?_
          refine k_i (k := 0) (n := 0) hA B (u_VN (rest := []) X (c_X1_isSameAs l g N ad x (v_X1_putOpposite (v_X1_putOpposite (v_X1_put sp 12 ((sp i1).1.toInt64) ((sp i1).2.1.toInt64) ((sp i1).2.2.toInt64)).2 12 i1).2 13 12).2 dy la kn re hN 13 (by decide) i1 hi1 H.size) mw_X1_isSameAs md_X1_isSameAs rfl lk_X2_123 ⟨Nat.le_of_ble_eq_true rfl, Nat.le_of_ble_eq_true rfl⟩ hA hK hT B (pl_sp hN (by decide)) (cf_sp (by decide)) rfl rfl hl.1 rfl (Nat.le_of_ble_eq_true rfl) dX2_isSpanSound_68 ⟨Nat.le_of_ble_eq_true rfl, Nat.le_of_ble_eq_true rfl⟩) (Nat.le_of_ble_eq_true rfl) (Nat.le_of_ble_eq_true rfl) (fun r ad' f' H locs hw B => ?_)
          obtain ⟨rfl, rfl, rfl⟩ := hw
          refine lv_if_ne (tgt := 76) hx hb dX2_isSpanSound_71 (by decide) (fun c9 => ?_) (fun c9 => ?_)
          · refine lv_aload_n hx hb dX2_isSpanSound_76 rfl (lv_at hl 0 rfl) ?_
            refine g_get (q := 0) (k := 6) X hK B rfl in_X2 (pl_c hN 0 (by decide)) cf_0 (by decide) lk_X2_25 rfl rfl dX2_isSpanSound_77 ?_
            refine lv_aload_n hx hb dX2_isSpanSound_80 rfl (lv_at hl 1 rfl) ?_
            refine k_i (k := 0) (n := 0) hA B (u_VN (rest := []) X (c_X1_putTidy l g N ad x (v_X1_putOpposite (v_X1_putOpposite (v_X1_put sp 12 ((sp i1).1.toInt64) ((sp i1).2.1.toInt64) ((sp i1).2.2.toInt64)).2 12 i1).2 13 12).2 dy la kn re hN 12 (by decide) i1 hi1 H.size) mw_X1_putTidy md_X1_putTidy rfl lk_X2_88 ⟨Nat.le_of_ble_eq_true rfl, Nat.le_of_ble_eq_true rfl⟩ hA hK hT B (pl_sp hN (by decide)) (cf_sp (by decide)) rfl rfl hl.1 rfl (Nat.le_of_ble_eq_true rfl) dX2_isSpanSound_81 ⟨Nat.le_of_ble_eq_true rfl, Nat.le_of_ble_eq_true rfl⟩) (Nat.le_of_ble_eq_true rfl) (Nat.le_of_ble_eq_true rfl) (fun r ad' f' H locs hw B => ?_)
            obtain ⟨rfl, rfl, rfl⟩ := hw
            refine lv_if_ne (tgt := 89) hx hb dX2_isSpanSound_84 (by decide) (fun c10 => ?_) (fun c10 => ?_)
            · refine lv_aload_n hx hb dX2_isSpanSound_89 rfl (lv_at hl 0 rfl) ?_
              refine g_get (q := 0) (k := 6) X hK B rfl in_X2 (pl_c hN 0 (by decide)) cf_0 (by decide) lk_X2_25 rfl rfl dX2_isSpanSound_90 ?_
              refine lv_aload_n hx hb dX2_isSpanSound_93 rfl (lv_at hl 1 rfl) ?_
              refine k_i (k := 0) (n := 0) hA B (u_VN (rest := []) X (c_X1_isAlikeTo l g N ad x (v_X1_putTidy (v_X1_putOpposite (v_X1_putOpposite (v_X1_put sp 12 ((sp i1).1.toInt64) ((sp i1).2.1.toInt64) ((sp i1).2.2.toInt64)).2 12 i1).2 13 12).2 12 i1).2 dy la kn re hN 12 (by decide) i1 hi1 H.size) mw_X1_isAlikeTo md_X1_isAlikeTo rfl lk_X2_126 ⟨Nat.le_of_ble_eq_true rfl, Nat.le_of_ble_eq_true rfl⟩ hA hK hT B (pl_sp hN (by decide)) (cf_sp (by decide)) rfl rfl hl.1 rfl (Nat.le_of_ble_eq_true rfl) dX2_isSpanSound_94 ⟨Nat.le_of_ble_eq_true rfl, Nat.le_of_ble_eq_true rfl⟩) (Nat.le_of_ble_eq_true rfl) (Nat.le_of_ble_eq_true rfl) (fun r ad' f' H locs hw B => ?_)
              obtain ⟨rfl, rfl, rfl⟩ := hw
              refine lv_if_eq (tgt := 132) hx hb dX2_isSpanSound_97 (by decide) (fun c11 => ?_) (fun c11 => ?_)
              · refine lv_iconst (v := 0) hx hb dX2_isSpanSound_132 (by decide) ?_
                have ev := (show v_X2_isSpanSound sp i1 = (0, (v_X1_putTidy (v_X1_putOpposite (v_X1_putOpposite (v_X1_put sp 12 ((sp i1).1.toInt64) ((sp i1).2.1.toInt64) ((sp i1).2.2.toInt64)).2 12 i1).2 13 12).2 12 i1).2) from by unfold v_X2_isSpanSound; rw [if_neg c1, if_neg c2, if_neg c3, if_neg c8, if_neg c9, if_neg c10, if_pos c11])
                exact rt_i X hr (ad, (cf g ad x (v_X1_putTidy (v_X1_putOpposite (v_X1_putOpposite (v_X1_put sp 12 ((sp i1).1.toInt64) ((sp i1).2.1.toInt64) ((sp i1).2.2.toInt64)).2 12 i1).2 13 12).2 12 i1).2 dy la kn re)) B (PO_of B) ⟨rfl, by rw [ev], by rw [ev]⟩ rfl (Nat.le_of_ble_eq_true rfl) (Nat.le_of_ble_eq_true rfl) dX2_isSpanSound_133
              · refine lv_aload_n hx hb dX2_isSpanSound_100 rfl (lv_at hl 0 rfl) ?_
                refine g_get (q := 0) (k := 7) X hK B rfl in_X2 (pl_c hN 0 (by decide)) cf_0 (by decide) lk_X2_29 rfl rfl dX2_isSpanSound_101 ?_
                refine lv_aload_n hx hb dX2_isSpanSound_104 rfl (lv_at hl 0 rfl) ?_
                refine g_get (q := 0) (k := 6) X hK B rfl in_X2 (pl_c hN 0 (by decide)) cf_0 (by decide) lk_X2_25 rfl rfl dX2_isSpanSound_105 ?_
                refine k_i (k := 0) (n := 0) hA B (u_VN (rest := []) X (c_X1_putTidy l g N ad x (v_X1_putTidy (v_X1_putOpposite (v_X1_putOpposite (v_X1_put sp 12 ((sp i1).1.toInt64) ((sp i1).2.1.toInt64) ((sp i1).2.2.toInt64)).2 12 i1).2 13 12).2 12 i1).2 dy la kn re hN 13 (by decide) 12 (by decide) H.size) mw_X1_putTidy md_X1_putTidy rfl lk_X2_88 ⟨Nat.le_of_ble_eq_true rfl, Nat.le_of_ble_eq_true rfl⟩ hA hK hT B (pl_sp hN (by decide)) (cf_sp (by decide)) rfl rfl hl.1 rfl (Nat.le_of_ble_eq_true rfl) dX2_isSpanSound_108 ⟨Nat.le_of_ble_eq_true rfl, Nat.le_of_ble_eq_true rfl⟩) (Nat.le_of_ble_eq_true rfl) (Nat.le_of_ble_eq_true rfl) (fun r ad' f' H locs hw B => ?_)
                obtain ⟨rfl, rfl, rfl⟩ := hw
                refine lv_if_eq (tgt := 132) hx hb dX2_isSpanSound_111 (by decide) (fun c12 => ?_) (fun c12 => ?_)
                · refine lv_iconst (v := 0) hx hb dX2_isSpanSound_132 (by decide) ?_
                  have ev := (show v_X2_isSpanSound sp i1 = (0, (v_X1_putTidy (v_X1_putTidy (v_X1_putOpposite (v_X1_putOpposite (v_X1_put sp 12 ((sp i1).1.toInt64) ((sp i1).2.1.toInt64) ((sp i1).2.2.toInt64)).2 12 i1).2 13 12).2 12 i1).2 13 12).2) from by unfold v_X2_isSpanSound; rw [if_neg c1, if_neg c2, if_neg c3, if_neg c8, if_neg c9, if_neg c10, if_neg c11, if_pos c12])
                  exact rt_i X hr (ad, (cf g ad x (v_X1_putTidy (v_X1_putTidy (v_X1_putOpposite (v_X1_putOpposite (v_X1_put sp 12 ((sp i1).1.toInt64) ((sp i1).2.1.toInt64) ((sp i1).2.2.toInt64)).2 12 i1).2 13 12).2 12 i1).2 13 12).2 dy la kn re)) B (PO_of B) ⟨rfl, by rw [ev], by rw [ev]⟩ rfl (Nat.le_of_ble_eq_true rfl) (Nat.le_of_ble_eq_true rfl) dX2_isSpanSound_133
                · refine lv_aload_n hx hb dX2_isSpanSound_114 rfl (lv_at hl 0 rfl) ?_
                  refine g_get (q := 0) (k := 7) X hK B rfl in_X2 (pl_c hN 0 (by decide)) cf_0 (by decide) lk_X2_29 rfl rfl dX2_isSpanSound_115 ?_
                  refine lv_aload_n hx hb dX2_isSpanSound_118 rfl (lv_at hl 0 rfl) ?_
                  refine g_get (q := 0) (k := 6) X hK B rfl in_X2 (pl_c hN 0 (by decide)) cf_0 (by decide) lk_X2_25 rfl rfl dX2_isSpanSound_119 ?_
                  refine k_i (k := 0) (n := 0) hA B (u_VN (rest := []) X (c_X1_isSameAs l g N ad x (v_X1_putTidy (v_X1_putTidy (v_X1_putOpposite (v_X1_putOpposite (v_X1_put sp 12 ((sp i1).1.toInt64) ((sp i1).2.1.toInt64) ((sp i1).2.2.toInt64)).2 12 i1).2 13 12).2 12 i1).2 13 12).2 dy la kn re hN 13 (by decide) 12 (by decide) H.size) mw_X1_isSameAs md_X1_isSameAs rfl lk_X2_123 ⟨Nat.le_of_ble_eq_true rfl, Nat.le_of_ble_eq_true rfl⟩ hA hK hT B (pl_sp hN (by decide)) (cf_sp (by decide)) rfl rfl hl.1 rfl (Nat.le_of_ble_eq_true rfl) dX2_isSpanSound_122 ⟨Nat.le_of_ble_eq_true rfl, Nat.le_of_ble_eq_true rfl⟩) (Nat.le_of_ble_eq_true rfl) (Nat.le_of_ble_eq_true rfl) (fun r ad' f' H locs hw B => ?_)
                  obtain ⟨rfl, rfl, rfl⟩ := hw
                  refine lv_if_eq (tgt := 132) hx hb dX2_isSpanSound_125 (by decide) (fun c13 => ?_) (fun c13 => ?_)
                  · refine lv_iconst (v := 0) hx hb dX2_isSpanSound_132 (by decide) ?_
                    have ev := (show v_X2_isSpanSound sp i1 = (0, (v_X1_putTidy (v_X1_putTidy (v_X1_putOpposite (v_X1_putOpposite (v_X1_put sp 12 ((sp i1).1.toInt64) ((sp i1).2.1.toInt64) ((sp i1).2.2.toInt64)).2 12 i1).2 13 12).2 12 i1).2 13 12).2) from by unfold v_X2_isSpanSound; rw [if_neg c1, if_neg c2, if_neg c3, if_neg c8, if_neg c9, if_neg c10, if_neg c11, if_neg c12, if_pos c13])
                    exact rt_i X hr (ad, (cf g ad x (v_X1_putTidy (v_X1_putTidy (v_X1_putOpposite (v_X1_putOpposite (v_X1_put sp 12 ((sp i1).1.toInt64) ((sp i1).2.1.toInt64) ((sp i1).2.2.toInt64)).2 12 i1).2 13 12).2 12 i1).2 13 12).2 dy la kn re)) B (PO_of B) ⟨rfl, by rw [ev], by rw [ev]⟩ rfl (Nat.le_of_ble_eq_true rfl) (Nat.le_of_ble_eq_true rfl) dX2_isSpanSound_133
                  · refine lv_iconst (v := 1) hx hb dX2_isSpanSound_128 (by decide) ?_
                    refine lv_goto (tgt := 133) hx hb dX2_isSpanSound_129 (by decide) ?_
                    have ev := (show v_X2_isSpanSound sp i1 = (1, (v_X1_putTidy (v_X1_putTidy (v_X1_putOpposite (v_X1_putOpposite (v_X1_put sp 12 ((sp i1).1.toInt64) ((sp i1).2.1.toInt64) ((sp i1).2.2.toInt64)).2 12 i1).2 13 12).2 12 i1).2 13 12).2) from by unfold v_X2_isSpanSound; rw [if_neg c1, if_neg c2, if_neg c3, if_neg c8, if_neg c9, if_neg c10, if_neg c11, if_neg c12, if_neg c13])
                    exact rt_i X hr (ad, (cf g ad x (v_X1_putTidy (v_X1_putTidy (v_X1_putOpposite (v_X1_putOpposite (v_X1_put sp 12 ((sp i1).1.toInt64) ((sp i1).2.1.toInt64) ((sp i1).2.2.toInt64)).2 12 i1).2 13 12).2 12 i1).2 13 12).2 dy la kn re)) B (PO_of B) ⟨rfl, by rw [ev], by rw [ev]⟩ rfl (Nat.le_of_ble_eq_true rfl) (Nat.le_of_ble_eq_true rfl) dX2_isSpanSound_133
            · refine lv_iconst (v := 1) hx hb dX2_isSpanSound_87 (by decide) ?_
              have ev := (show v_X2_isSpanSound sp i1 = (1, (v_X1_putTidy (v_X1_putOpposite (v_X1_putOpposite (v_X1_put sp 12 ((sp i1).1.toInt64) ((sp i1).2.1.toInt64) ((sp i1).2.2.toInt64)).2 12 i1).2 13 12).2 12 i1).2) from by unfold v_X2_isSpanSound; rw [if_neg c1, if_neg c2, if_neg c3, if_neg c8, if_neg c9, if_pos c10])
              exact rt_i X hr (ad, (cf g ad x (v_X1_putTidy (v_X1_putOpposite (v_X1_putOpposite (v_X1_put sp 12 ((sp i1).1.toInt64) ((sp i1).2.1.toInt64) ((sp i1).2.2.toInt64)).2 12 i1).2 13 12).2 12 i1).2 dy la kn re)) B (PO_of B) ⟨rfl, by rw [ev], by rw [ev]⟩ rfl (Nat.le_of_ble_eq_true rfl) (Nat.le_of_ble_eq_true rfl) dX2_isSpanSound_88
          · refine lv_iconst (v := 0) hx hb dX2_isSpanSound_74 (by decide) ?_
            have ev := (show v_X2_isSpanSound sp i1 = (0, (v_X1_putOpposite (v_X1_putOpposite (v_X1_put sp 12 ((sp i1).1.toInt64) ((sp i1).2.1.toInt64) ((sp i1).2.2.toInt64)).2 12 i1).2 13 12).2) from by unfold v_X2_isSpanSound; rw [if_neg c1, if_neg c2, if_neg c3, if_neg c8, if_pos c9])
            exact rt_i X hr (ad, (cf g ad x (v_X1_putOpposite (v_X1_putOpposite (v_X1_put sp 12 ((sp i1).1.toInt64) ((sp i1).2.1.toInt64) ((sp i1).2.2.toInt64)).2 12 i1).2 13 12).2 dy la kn re)) B (PO_of B) ⟨rfl, by rw [ev], by rw [ev]⟩ rfl (Nat.le_of_ble_eq_true rfl) (Nat.le_of_ble_eq_true rfl) dX2_isSpanSound_75
    · refine lv_iconst (v := 0) hx hb dX2_isSpanSound_36 (by decide) ?_
      have ev := (show v_X2_isSpanSound sp i1 = (0, (v_X1_put sp 12 ((sp i1).1.toInt64) ((sp i1).2.1.toInt64) ((sp i1).2.2.toInt64)).2) from by unfold v_X2_isSpanSound; rw [if_neg c1, if_pos c2])
      exact rt_i X hr (ad, (cf g ad x (v_X1_put sp 12 ((sp i1).1.toInt64) ((sp i1).2.1.toInt64) ((sp i1).2.2.toInt64)).2 dy la kn re)) B (PO_of B) ⟨rfl, by rw [ev], by rw [ev]⟩ rfl (Nat.le_of_ble_eq_true rfl) (Nat.le_of_ble_eq_true rfl) dX2_isSpanSound_37
def v_X2_isSumSound (sp : Nat → TR) (i1 : Nat) (i2 : Nat) : Int32 × (Nat → TR) := if (v_X1_putSum sp 12 i1 i2).1 = (v_X1_putSum (v_X1_putSum sp 12 i1 i2).2 13 i2 i1).1 then (if (v_X1_putSum sp 12 i1 i2).1 = 0 then (1, (v_X1_putSum (v_X1_putSum sp 12 i1 i2).2 13 i2 i1).2) else (if (v_X1_isSameAs (v_X1_putSum (v_X1_putSum sp 12 i1 i2).2 13 i2 i1).2 12 13) = 0 then (0, (v_X1_putSum (v_X1_putSum sp 12 i1 i2).2 13 i2 i1).2) else (if (v_X1_putDifference (v_X1_putSum (v_X1_putSum sp 12 i1 i2).2 13 i2 i1).2 13 12 i2).1 = 0 then (0, (v_X1_putDifference (v_X1_putSum (v_X1_putSum sp 12 i1 i2).2 13 i2 i1).2 13 12 i2).2) else (if (v_X1_isSameAs (v_X1_putDifference (v_X1_putSum (v_X1_putSum sp 12 i1 i2).2 13 i2 i1).2 13 12 i2).2 13 i1) = 0 then (0, (v_X1_putDifference (v_X1_putSum (v_X1_putSum sp 12 i1 i2).2 13 i2 i1).2 13 12 i2).2) else (1, (v_X1_putDifference (v_X1_putSum (v_X1_putSum sp 12 i1 i2).2 13 i2 i1).2 13 12 i2).2))))) else (0, (v_X1_putSum (v_X1_putSum sp 12 i1 i2).2 13 i2 i1).2)
theorem b01_X2_isSumSound {sp : Nat → TR} {i1 : Nat} {i2 : Nat} : (v_X2_isSumSound sp i1 i2).1 = 0 ∨ (v_X2_isSumSound sp i1 i2).1 = 1 := by
  unfold v_X2_isSumSound
  by_cases q1 : (v_X1_putSum sp 12 i1 i2).1 = (v_X1_putSum (v_X1_putSum sp 12 i1 i2).2 13 i2 i1).1
  · rw [if_pos q1]
    by_cases q2 : (v_X1_putSum sp 12 i1 i2).1 = 0
    · rw [if_pos q2]
      exact Or.inr rfl
    · rw [if_neg q2]
      by_cases q3 : (v_X1_isSameAs (v_X1_putSum (v_X1_putSum sp 12 i1 i2).2 13 i2 i1).2 12 13) = 0
      · rw [if_pos q3]
        exact Or.inl rfl
      · rw [if_neg q3]
        by_cases q4 : (v_X1_putDifference (v_X1_putSum (v_X1_putSum sp 12 i1 i2).2 13 i2 i1).2 13 12 i2).1 = 0
        · rw [if_pos q4]
          exact Or.inl rfl
        · rw [if_neg q4]
          by_cases q5 : (v_X1_isSameAs (v_X1_putDifference (v_X1_putSum (v_X1_putSum sp 12 i1 i2).2 13 i2 i1).2 13 12 i2).2 13 i1) = 0
          · rw [if_pos q5]
            exact Or.inl rfl
          · rw [if_neg q5]
            exact Or.inr rfl
  · rw [if_neg q1]
    exact Or.inl rfl
set_option maxHeartbeats 4000000 in
set_option maxRecDepth 100000 in
theorem ce_X2_isSumSound (l : Launch) (g : GG) (N : Nat) (ad : Nat → Nat) (x : Nat → va_E) (sp dy : Nat → TR) (la kn re : Int32) (hN : 23 ≤ N) (i1 : Nat) (hi1 : i1 < 14) (i2 : Nat) (hi2 : i2 < 14) : KI l yX2_isSumSound cX2_isSumSound 4 (some .boolean) (rm 3 0 0) g [.ref (ad 0), .ref (ad (4 + i1)), .ref (ad (4 + i2))] N ad (cf g ad x sp dy la kn re) N (fun r ad' f' => ad = ad' ∧ (v_X2_isSumSound sp i1 i2).1 = r ∧ (cf g ad x (v_X2_isSumSound sp i1 i2).2 dy la kn re) = f') := by
  intro sz
  refine mt_start (by decide) (Nat.le_of_ble_eq_true rfl) ?_
  intro p e s m args below meth c hsz X hr hnam hA hK hT H locs B ls hl
  obtain ⟨hx, hb, hml, hown, hts, hlocks⟩ := id X
  have hl : lv_has ls 4 [(0, .ref (ad 0)), (1, .ref (ad (4 + i1))), (2, .ref (ad (4 + i2)))] := hl
  refine lv_aload_n hx hb dX2_isSumSound_0 rfl (lv_at hl 0 rfl) ?_
  refine g_get (q := 0) (k := 6) X hK B rfl in_X2 (pl_c hN 0 (by decide)) cf_0 (by decide) lk_X2_25 rfl rfl dX2_isSumSound_1 ?_
  refine lv_aload_n hx hb dX2_isSumSound_4 rfl (lv_at hl 1 rfl) ?_
  refine lv_aload_n hx hb dX2_isSumSound_5 rfl (lv_at hl 2 rfl) ?_
  refine k_i (k := 0) (n := 0) hA B (u_VN (rest := []) X (c_X1_putSum l g N ad x sp dy la kn re hN 12 (by decide) i1 hi1 i2 hi2 H.size) mw_X1_putSum md_X1_putSum rfl lk_X2_73 ⟨Nat.le_of_ble_eq_true rfl, Nat.le_of_ble_eq_true rfl⟩ hA hK hT B (pl_sp hN (by decide)) (cf_sp (by decide)) rfl rfl hl.1 rfl (Nat.le_of_ble_eq_true rfl) dX2_isSumSound_6 ⟨Nat.le_of_ble_eq_true rfl, Nat.le_of_ble_eq_true rfl⟩) (Nat.le_of_ble_eq_true rfl) (Nat.le_of_ble_eq_true rfl) (fun r ad' f' H locs hw B => ?_)
  obtain ⟨rfl, rfl, rfl⟩ := hw
  refine lv_istore_n (lv' := [(3, .int (v_X1_putSum sp 12 i1 i2).1), (0, .ref (ad 0)), (1, .ref (ad (4 + i1))), (2, .ref (ad (4 + i2)))]) hx hb dX2_isSumSound_9 rfl hl (by decide) rfl (fun ls hl => ?_)
  refine lv_iload_n hx hb dX2_isSumSound_10 rfl (lv_at hl 0 rfl) ?_
  refine lv_aload_n hx hb dX2_isSumSound_11 rfl (lv_at hl 1 rfl) ?_
  refine g_get (q := 0) (k := 7) X hK B rfl in_X2 (pl_c hN 0 (by decide)) cf_0 (by decide) lk_X2_29 rfl rfl dX2_isSumSound_12 ?_
  refine lv_aload_n hx hb dX2_isSumSound_15 rfl (lv_at hl 3 rfl) ?_
  refine lv_aload_n hx hb dX2_isSumSound_16 rfl (lv_at hl 2 rfl) ?_
  refine k_i (k := 0) (n := 0) hA B (u_VN (rest := [.int (v_X1_putSum sp 12 i1 i2).1]) X (c_X1_putSum l g N ad x (v_X1_putSum sp 12 i1 i2).2 dy la kn re hN 13 (by decide) i2 hi2 i1 hi1 H.size) mw_X1_putSum md_X1_putSum rfl lk_X2_73 ⟨Nat.le_of_ble_eq_true rfl, Nat.le_of_ble_eq_true rfl⟩ hA hK hT B (pl_sp hN (by decide)) (cf_sp (by decide)) rfl rfl hl.1 rfl (Nat.le_of_ble_eq_true rfl) dX2_isSumSound_17 ⟨Nat.le_of_ble_eq_true rfl, Nat.le_of_ble_eq_true rfl⟩) (Nat.le_of_ble_eq_true rfl) (Nat.le_of_ble_eq_true rfl) (fun r ad' f' H locs hw B => ?_)
  obtain ⟨rfl, rfl, rfl⟩ := hw
  refine lv_icmp_eq (tgt := 25) hx hb dX2_isSumSound_20 (by decide) (fun c1 => ?_) (fun c1 => ?_)
  · refine lv_iload_n hx hb dX2_isSumSound_25 rfl (lv_at hl 0 rfl) ?_
    refine lv_if_ne (tgt := 31) hx hb dX2_isSumSound_26 (by decide) (fun c2 => ?_) (fun c2 => ?_)
    · refine lv_aload_n hx hb dX2_isSumSound_31 rfl (lv_at hl 1 rfl) ?_
      refine g_get (q := 0) (k := 6) X hK B rfl in_X2 (pl_c hN 0 (by decide)) cf_0 (by decide) lk_X2_25 rfl rfl dX2_isSumSound_32 ?_
      refine lv_aload_n hx hb dX2_isSumSound_35 rfl (lv_at hl 1 rfl) ?_
      refine g_get (q := 0) (k := 7) X hK B rfl in_X2 (pl_c hN 0 (by decide)) cf_0 (by decide) lk_X2_29 rfl rfl dX2_isSumSound_36 ?_
      refine k_i (k := 0) (n := 0) hA B (u_VN (rest := []) X (c_X1_isSameAs l g N ad x (v_X1_putSum (v_X1_putSum sp 12 i1 i2).2 13 i2 i1).2 dy la kn re hN 12 (by decide) 13 (by decide) H.size) mw_X1_isSameAs md_X1_isSameAs rfl lk_X2_123 ⟨Nat.le_of_ble_eq_true rfl, Nat.le_of_ble_eq_true rfl⟩ hA hK hT B (pl_sp hN (by decide)) (cf_sp (by decide)) rfl rfl hl.1 rfl (Nat.le_of_ble_eq_true rfl) dX2_isSumSound_39 ⟨Nat.le_of_ble_eq_true rfl, Nat.le_of_ble_eq_true rfl⟩) (Nat.le_of_ble_eq_true rfl) (Nat.le_of_ble_eq_true rfl) (fun r ad' f' H locs hw B => ?_)
      obtain ⟨rfl, rfl, rfl⟩ := hw
      refine lv_if_ne (tgt := 47) hx hb dX2_isSumSound_42 (by decide) (fun c3 => ?_) (fun c3 => ?_)
      · refine lv_aload_n hx hb dX2_isSumSound_47 rfl (lv_at hl 1 rfl) ?_
        refine g_get (q := 0) (k := 7) X hK B rfl in_X2 (pl_c hN 0 (by decide)) cf_0 (by decide) lk_X2_29 rfl rfl dX2_isSumSound_48 ?_
        refine lv_aload_n hx hb dX2_isSumSound_51 rfl (lv_at hl 1 rfl) ?_
        refine g_get (q := 0) (k := 6) X hK B rfl in_X2 (pl_c hN 0 (by decide)) cf_0 (by decide) lk_X2_25 rfl rfl dX2_isSumSound_52 ?_
        refine lv_aload_n hx hb dX2_isSumSound_55 rfl (lv_at hl 3 rfl) ?_
        refine k_i (k := 0) (n := 0) hA B (u_VN (rest := []) X (c_X1_putDifference l g N ad x (v_X1_putSum (v_X1_putSum sp 12 i1 i2).2 13 i2 i1).2 dy la kn re hN 13 (by decide) 12 (by decide) i2 hi2 H.size) mw_X1_putDifference md_X1_putDifference rfl lk_X2_77 ⟨Nat.le_of_ble_eq_true rfl, Nat.le_of_ble_eq_true rfl⟩ hA hK hT B (pl_sp hN (by decide)) (cf_sp (by decide)) rfl rfl hl.1 rfl (Nat.le_of_ble_eq_true rfl) dX2_isSumSound_56 ⟨Nat.le_of_ble_eq_true rfl, Nat.le_of_ble_eq_true rfl⟩) (Nat.le_of_ble_eq_true rfl) (Nat.le_of_ble_eq_true rfl) (fun r ad' f' H locs hw B => ?_)
        obtain ⟨rfl, rfl, rfl⟩ := hw
        refine lv_if_eq (tgt := 77) hx hb dX2_isSumSound_59 (by decide) (fun c4 => ?_) (fun c4 => ?_)
        · refine lv_iconst (v := 0) hx hb dX2_isSumSound_77 (by decide) ?_
          have ev := (show v_X2_isSumSound sp i1 i2 = (0, (v_X1_putDifference (v_X1_putSum (v_X1_putSum sp 12 i1 i2).2 13 i2 i1).2 13 12 i2).2) from by unfold v_X2_isSumSound; rw [if_pos c1, if_neg c2, if_neg c3, if_pos c4])
          exact rt_i X hr (ad, (cf g ad x (v_X1_putDifference (v_X1_putSum (v_X1_putSum sp 12 i1 i2).2 13 i2 i1).2 13 12 i2).2 dy la kn re)) B (PO_of B) ⟨rfl, by rw [ev], by rw [ev]⟩ rfl (Nat.le_of_ble_eq_true rfl) (Nat.le_of_ble_eq_true rfl) dX2_isSumSound_78
        · refine lv_aload_n hx hb dX2_isSumSound_62 rfl (lv_at hl 1 rfl) ?_
          refine g_get (q := 0) (k := 7) X hK B rfl in_X2 (pl_c hN 0 (by decide)) cf_0 (by decide) lk_X2_29 rfl rfl dX2_isSumSound_63 ?_
          refine lv_aload_n hx hb dX2_isSumSound_66 rfl (lv_at hl 2 rfl) ?_
          refine k_i (k := 0) (n := 0) hA B (u_VN (rest := []) X (c_X1_isSameAs l g N ad x (v_X1_putDifference (v_X1_putSum (v_X1_putSum sp 12 i1 i2).2 13 i2 i1).2 13 12 i2).2 dy la kn re hN 13 (by decide) i1 hi1 H.size) mw_X1_isSameAs md_X1_isSameAs rfl lk_X2_123 ⟨Nat.le_of_ble_eq_true rfl, Nat.le_of_ble_eq_true rfl⟩ hA hK hT B (pl_sp hN (by decide)) (cf_sp (by decide)) rfl rfl hl.1 rfl (Nat.le_of_ble_eq_true rfl) dX2_isSumSound_67 ⟨Nat.le_of_ble_eq_true rfl, Nat.le_of_ble_eq_true rfl⟩) (Nat.le_of_ble_eq_true rfl) (Nat.le_of_ble_eq_true rfl) (fun r ad' f' H locs hw B => ?_)
          obtain ⟨rfl, rfl, rfl⟩ := hw
          refine lv_if_eq (tgt := 77) hx hb dX2_isSumSound_70 (by decide) (fun c5 => ?_) (fun c5 => ?_)
          · refine lv_iconst (v := 0) hx hb dX2_isSumSound_77 (by decide) ?_
            have ev := (show v_X2_isSumSound sp i1 i2 = (0, (v_X1_putDifference (v_X1_putSum (v_X1_putSum sp 12 i1 i2).2 13 i2 i1).2 13 12 i2).2) from by unfold v_X2_isSumSound; rw [if_pos c1, if_neg c2, if_neg c3, if_neg c4, if_pos c5])
            exact rt_i X hr (ad, (cf g ad x (v_X1_putDifference (v_X1_putSum (v_X1_putSum sp 12 i1 i2).2 13 i2 i1).2 13 12 i2).2 dy la kn re)) B (PO_of B) ⟨rfl, by rw [ev], by rw [ev]⟩ rfl (Nat.le_of_ble_eq_true rfl) (Nat.le_of_ble_eq_true rfl) dX2_isSumSound_78
          · refine lv_iconst (v := 1) hx hb dX2_isSumSound_73 (by decide) ?_
            refine lv_goto (tgt := 78) hx hb dX2_isSumSound_74 (by decide) ?_
            have ev := (show v_X2_isSumSound sp i1 i2 = (1, (v_X1_putDifference (v_X1_putSum (v_X1_putSum sp 12 i1 i2).2 13 i2 i1).2 13 12 i2).2) from by unfold v_X2_isSumSound; rw [if_pos c1, if_neg c2, if_neg c3, if_neg c4, if_neg c5])
            exact rt_i X hr (ad, (cf g ad x (v_X1_putDifference (v_X1_putSum (v_X1_putSum sp 12 i1 i2).2 13 i2 i1).2 13 12 i2).2 dy la kn re)) B (PO_of B) ⟨rfl, by rw [ev], by rw [ev]⟩ rfl (Nat.le_of_ble_eq_true rfl) (Nat.le_of_ble_eq_true rfl) dX2_isSumSound_78
      · refine lv_iconst (v := 0) hx hb dX2_isSumSound_45 (by decide) ?_
        have ev := (show v_X2_isSumSound sp i1 i2 = (0, (v_X1_putSum (v_X1_putSum sp 12 i1 i2).2 13 i2 i1).2) from by unfold v_X2_isSumSound; rw [if_pos c1, if_neg c2, if_pos c3])
        exact rt_i X hr (ad, (cf g ad x (v_X1_putSum (v_X1_putSum sp 12 i1 i2).2 13 i2 i1).2 dy la kn re)) B (PO_of B) ⟨rfl, by rw [ev], by rw [ev]⟩ rfl (Nat.le_of_ble_eq_true rfl) (Nat.le_of_ble_eq_true rfl) dX2_isSumSound_46
    · refine lv_iconst (v := 1) hx hb dX2_isSumSound_29 (by decide) ?_
      have ev := (show v_X2_isSumSound sp i1 i2 = (1, (v_X1_putSum (v_X1_putSum sp 12 i1 i2).2 13 i2 i1).2) from by unfold v_X2_isSumSound; rw [if_pos c1, if_pos c2])
      exact rt_i X hr (ad, (cf g ad x (v_X1_putSum (v_X1_putSum sp 12 i1 i2).2 13 i2 i1).2 dy la kn re)) B (PO_of B) ⟨rfl, by rw [ev], by rw [ev]⟩ rfl (Nat.le_of_ble_eq_true rfl) (Nat.le_of_ble_eq_true rfl) dX2_isSumSound_30
  · refine lv_iconst (v := 0) hx hb dX2_isSumSound_23 (by decide) ?_
    have ev := (show v_X2_isSumSound sp i1 i2 = (0, (v_X1_putSum (v_X1_putSum sp 12 i1 i2).2 13 i2 i1).2) from by unfold v_X2_isSumSound; rw [if_neg c1])
    exact rt_i X hr (ad, (cf g ad x (v_X1_putSum (v_X1_putSum sp 12 i1 i2).2 13 i2 i1).2 dy la kn re)) B (PO_of B) ⟨rfl, by rw [ev], by rw [ev]⟩ rfl (Nat.le_of_ble_eq_true rfl) (Nat.le_of_ble_eq_true rfl) dX2_isSumSound_24
def v_X2_isAlikenessSound (sp : Nat → TR) (i1 : Nat) (i2 : Nat) : Int32 × (Nat → TR) := if (v_X1_putOpposite sp 12 i1).1 = 0 then (1, (v_X1_putOpposite sp 12 i1).2) else (if (v_X1_putOpposite (v_X1_putOpposite sp 12 i1).2 13 i2).1 = 0 then (1, (v_X1_putOpposite (v_X1_putOpposite sp 12 i1).2 13 i2).2) else (if (v_X1_isAlikeTo (v_X1_putOpposite (v_X1_putOpposite sp 12 i1).2 13 i2).2 12 13) = (v_X1_isAlikeTo (v_X1_putOpposite (v_X1_putOpposite sp 12 i1).2 13 i2).2 i1 i2) then (1, (v_X1_putOpposite (v_X1_putOpposite sp 12 i1).2 13 i2).2) else (0, (v_X1_putOpposite (v_X1_putOpposite sp 12 i1).2 13 i2).2)))
theorem b01_X2_isAlikenessSound {sp : Nat → TR} {i1 : Nat} {i2 : Nat} : (v_X2_isAlikenessSound sp i1 i2).1 = 0 ∨ (v_X2_isAlikenessSound sp i1 i2).1 = 1 := by
  unfold v_X2_isAlikenessSound
  by_cases q1 : (v_X1_putOpposite sp 12 i1).1 = 0
  · rw [if_pos q1]
    exact Or.inr rfl
  · rw [if_neg q1]
    by_cases q2 : (v_X1_putOpposite (v_X1_putOpposite sp 12 i1).2 13 i2).1 = 0
    · rw [if_pos q2]
      exact Or.inr rfl
    · rw [if_neg q2]
      by_cases q3 : (v_X1_isAlikeTo (v_X1_putOpposite (v_X1_putOpposite sp 12 i1).2 13 i2).2 12 13) = (v_X1_isAlikeTo (v_X1_putOpposite (v_X1_putOpposite sp 12 i1).2 13 i2).2 i1 i2)
      · rw [if_pos q3]
        exact Or.inr rfl
      · rw [if_neg q3]
        exact Or.inl rfl
set_option maxHeartbeats 4000000 in
set_option maxRecDepth 100000 in
theorem ce_X2_isAlikenessSound (l : Launch) (g : GG) (N : Nat) (ad : Nat → Nat) (x : Nat → va_E) (sp dy : Nat → TR) (la kn re : Int32) (hN : 23 ≤ N) (i1 : Nat) (hi1 : i1 < 14) (i2 : Nat) (hi2 : i2 < 14) : KI l yX2_isAlikenessSound cX2_isAlikenessSound 3 (some .boolean) (rm 4 0 0) g [.ref (ad 0), .ref (ad (4 + i1)), .ref (ad (4 + i2))] N ad (cf g ad x sp dy la kn re) N (fun r ad' f' => ad = ad' ∧ (v_X2_isAlikenessSound sp i1 i2).1 = r ∧ (cf g ad x (v_X2_isAlikenessSound sp i1 i2).2 dy la kn re) = f') := by
  intro sz
  refine mt_start (by decide) (Nat.le_of_ble_eq_true rfl) ?_
  intro p e s m args below meth c hsz X hr hnam hA hK hT H locs B ls hl
  obtain ⟨hx, hb, hml, hown, hts, hlocks⟩ := id X
  have hl : lv_has ls 3 [(0, .ref (ad 0)), (1, .ref (ad (4 + i1))), (2, .ref (ad (4 + i2)))] := hl
  refine lv_aload_n hx hb dX2_isAlikenessSound_0 rfl (lv_at hl 0 rfl) ?_
  refine g_get (q := 0) (k := 6) X hK B rfl in_X2 (pl_c hN 0 (by decide)) cf_0 (by decide) lk_X2_25 rfl rfl dX2_isAlikenessSound_1 ?_
  refine lv_aload_n hx hb dX2_isAlikenessSound_4 rfl (lv_at hl 1 rfl) ?_
  refine k_i (k := 0) (n := 0) hA B (u_VN (rest := []) X (c_X1_putOpposite l g N ad x sp dy la kn re hN 12 (by decide) i1 hi1 H.size) mw_X1_putOpposite md_X1_putOpposite rfl lk_X2_84 ⟨Nat.le_of_ble_eq_true rfl, Nat.le_of_ble_eq_true rfl⟩ hA hK hT B (pl_sp hN (by decide)) (cf_sp (by decide)) rfl rfl hl.1 rfl (Nat.le_of_ble_eq_true rfl) dX2_isAlikenessSound_5 ⟨Nat.le_of_ble_eq_true rfl, Nat.le_of_ble_eq_true rfl⟩) (Nat.le_of_ble_eq_true rfl) (Nat.le_of_ble_eq_true rfl) (fun r ad' f' H locs hw B => ?_)
  obtain ⟨rfl, rfl, rfl⟩ := hw
  refine lv_if_eq (tgt := 22) hx hb dX2_isAlikenessSound_8 (by decide) (fun c1 => ?_) (fun c1 => ?_)
  · refine lv_iconst (v := 1) hx hb dX2_isAlikenessSound_22 (by decide) ?_
    have ev := (show v_X2_isAlikenessSound sp i1 i2 = (1, (v_X1_putOpposite sp 12 i1).2) from by unfold v_X2_isAlikenessSound; rw [if_pos c1])
    exact rt_i X hr (ad, (cf g ad x (v_X1_putOpposite sp 12 i1).2 dy la kn re)) B (PO_of B) ⟨rfl, by rw [ev], by rw [ev]⟩ rfl (Nat.le_of_ble_eq_true rfl) (Nat.le_of_ble_eq_true rfl) dX2_isAlikenessSound_23
  · refine lv_aload_n hx hb dX2_isAlikenessSound_11 rfl (lv_at hl 0 rfl) ?_
    refine g_get (q := 0) (k := 7) X hK B rfl in_X2 (pl_c hN 0 (by decide)) cf_0 (by decide) lk_X2_29 rfl rfl dX2_isAlikenessSound_12 ?_
    refine lv_aload_n hx hb dX2_isAlikenessSound_15 rfl (lv_at hl 2 rfl) ?_
    refine k_i (k := 0) (n := 0) hA B (u_VN (rest := []) X (c_X1_putOpposite l g N ad x (v_X1_putOpposite sp 12 i1).2 dy la kn re hN 13 (by decide) i2 hi2 H.size) mw_X1_putOpposite md_X1_putOpposite rfl lk_X2_84 ⟨Nat.le_of_ble_eq_true rfl, Nat.le_of_ble_eq_true rfl⟩ hA hK hT B (pl_sp hN (by decide)) (cf_sp (by decide)) rfl rfl hl.1 rfl (Nat.le_of_ble_eq_true rfl) dX2_isAlikenessSound_16 ⟨Nat.le_of_ble_eq_true rfl, Nat.le_of_ble_eq_true rfl⟩) (Nat.le_of_ble_eq_true rfl) (Nat.le_of_ble_eq_true rfl) (fun r ad' f' H locs hw B => ?_)
    obtain ⟨rfl, rfl, rfl⟩ := hw
    refine lv_if_ne (tgt := 24) hx hb dX2_isAlikenessSound_19 (by decide) (fun c2 => ?_) (fun c2 => ?_)
    · refine lv_aload_n hx hb dX2_isAlikenessSound_24 rfl (lv_at hl 0 rfl) ?_
      refine g_get (q := 0) (k := 6) X hK B rfl in_X2 (pl_c hN 0 (by decide)) cf_0 (by decide) lk_X2_25 rfl rfl dX2_isAlikenessSound_25 ?_
      refine lv_aload_n hx hb dX2_isAlikenessSound_28 rfl (lv_at hl 0 rfl) ?_
      refine g_get (q := 0) (k := 7) X hK B rfl in_X2 (pl_c hN 0 (by decide)) cf_0 (by decide) lk_X2_29 rfl rfl dX2_isAlikenessSound_29 ?_
      refine k_i (k := 0) (n := 0) hA B (u_VN (rest := []) X (c_X1_isAlikeTo l g N ad x (v_X1_putOpposite (v_X1_putOpposite sp 12 i1).2 13 i2).2 dy la kn re hN 12 (by decide) 13 (by decide) H.size) mw_X1_isAlikeTo md_X1_isAlikeTo rfl lk_X2_126 ⟨Nat.le_of_ble_eq_true rfl, Nat.le_of_ble_eq_true rfl⟩ hA hK hT B (pl_sp hN (by decide)) (cf_sp (by decide)) rfl rfl hl.1 rfl (Nat.le_of_ble_eq_true rfl) dX2_isAlikenessSound_32 ⟨Nat.le_of_ble_eq_true rfl, Nat.le_of_ble_eq_true rfl⟩) (Nat.le_of_ble_eq_true rfl) (Nat.le_of_ble_eq_true rfl) (fun r ad' f' H locs hw B => ?_)
      obtain ⟨rfl, rfl, rfl⟩ := hw
      refine lv_aload_n hx hb dX2_isAlikenessSound_35 rfl (lv_at hl 1 rfl) ?_
      refine lv_aload_n hx hb dX2_isAlikenessSound_36 rfl (lv_at hl 2 rfl) ?_
      refine k_i (k := 0) (n := 0) hA B (u_VN (rest := [.int (v_X1_isAlikeTo (v_X1_putOpposite (v_X1_putOpposite sp 12 i1).2 13 i2).2 12 13)]) X (c_X1_isAlikeTo l g N ad x (v_X1_putOpposite (v_X1_putOpposite sp 12 i1).2 13 i2).2 dy la kn re hN i1 hi1 i2 hi2 H.size) mw_X1_isAlikeTo md_X1_isAlikeTo rfl lk_X2_126 ⟨Nat.le_of_ble_eq_true rfl, Nat.le_of_ble_eq_true rfl⟩ hA hK hT B (pl_sp hN hi1) (cf_sp hi1) rfl rfl hl.1 rfl (Nat.le_of_ble_eq_true rfl) dX2_isAlikenessSound_37 ⟨Nat.le_of_ble_eq_true rfl, Nat.le_of_ble_eq_true rfl⟩) (Nat.le_of_ble_eq_true rfl) (Nat.le_of_ble_eq_true rfl) (fun r ad' f' H locs hw B => ?_)
      obtain ⟨rfl, rfl, rfl⟩ := hw
      refine lv_icmp_ne (tgt := 47) hx hb dX2_isAlikenessSound_40 (by decide) (fun c3 => ?_) (fun c3 => ?_)
      · refine lv_iconst (v := 0) hx hb dX2_isAlikenessSound_47 (by decide) ?_
        have ev := (show v_X2_isAlikenessSound sp i1 i2 = (0, (v_X1_putOpposite (v_X1_putOpposite sp 12 i1).2 13 i2).2) from by unfold v_X2_isAlikenessSound; rw [if_neg c1, if_neg c2, if_neg c3])
        exact rt_i X hr (ad, (cf g ad x (v_X1_putOpposite (v_X1_putOpposite sp 12 i1).2 13 i2).2 dy la kn re)) B (PO_of B) ⟨rfl, by rw [ev], by rw [ev]⟩ rfl (Nat.le_of_ble_eq_true rfl) (Nat.le_of_ble_eq_true rfl) dX2_isAlikenessSound_48
      · refine lv_iconst (v := 1) hx hb dX2_isAlikenessSound_43 (by decide) ?_
        refine lv_goto (tgt := 48) hx hb dX2_isAlikenessSound_44 (by decide) ?_
        have ev := (show v_X2_isAlikenessSound sp i1 i2 = (1, (v_X1_putOpposite (v_X1_putOpposite sp 12 i1).2 13 i2).2) from by unfold v_X2_isAlikenessSound; rw [if_neg c1, if_neg c2, if_pos c3])
        exact rt_i X hr (ad, (cf g ad x (v_X1_putOpposite (v_X1_putOpposite sp 12 i1).2 13 i2).2 dy la kn re)) B (PO_of B) ⟨rfl, by rw [ev], by rw [ev]⟩ rfl (Nat.le_of_ble_eq_true rfl) (Nat.le_of_ble_eq_true rfl) dX2_isAlikenessSound_48
    · refine lv_iconst (v := 1) hx hb dX2_isAlikenessSound_22 (by decide) ?_
      have ev := (show v_X2_isAlikenessSound sp i1 i2 = (1, (v_X1_putOpposite (v_X1_putOpposite sp 12 i1).2 13 i2).2) from by unfold v_X2_isAlikenessSound; rw [if_neg c1, if_pos c2])
      exact rt_i X hr (ad, (cf g ad x (v_X1_putOpposite (v_X1_putOpposite sp 12 i1).2 13 i2).2 dy la kn re)) B (PO_of B) ⟨rfl, by rw [ev], by rw [ev]⟩ rfl (Nat.le_of_ble_eq_true rfl) (Nat.le_of_ble_eq_true rfl) dX2_isAlikenessSound_23
/-! that all is sound, always: of the class's (its exact contracts stand ahead) -/
theorem ss_tl {S : Nat → TR} {i : Nat} (hi : i < 12) : ¬ (if (v_X1_putTidy S 12 i).1 = 0 then ((1 : Int32), (v_X1_putTidy S 12 i).2) else (if (v_X1_isAlikeTo (v_X1_putTidy S 12 i).2 12 i) = 0 then (0, (v_X1_putTidy S 12 i).2) else (if (v_X1_putTidy (v_X1_putTidy S 12 i).2 13 12).1 = 0 then (0, (v_X1_putTidy (v_X1_putTidy S 12 i).2 13 12).2) else (if (v_X1_isSameAs (v_X1_putTidy (v_X1_putTidy S 12 i).2 13 12).2 13 12) = 0 then (0, (v_X1_putTidy (v_X1_putTidy S 12 i).2 13 12).2) else (1, (v_X1_putTidy (v_X1_putTidy S 12 i).2 13 12).2))))).1 = 0 := by
  rw [ptid_eq S 12 i]
  cases e : v_X4_tidied (S i) with
  | none =>
    rw [om_none rfl]
    dsimp only
    rw [if_pos rfl]
    show ¬ (1 : Int32) = 0
    decide
  | some u =>
    rw [om_s]
    dsimp only
    rw [if_neg (show ¬ (1 : Int32) = 0 by decide)]
    have q1 : va_up S 12 u 12 = u := va_up_self _ _ _
    have q2 : va_up S 12 u i = S i := va_up_ne _ _ (by omega)
    have ea : v_X1_isAlikeTo (va_up S 12 u) 12 i = 1 := by
      rw [ali_eq (cr := va_up S 12 u) rfl rfl, q1, q2]
      exact tid_alike e
    rw [ea, if_neg (show ¬ (1 : Int32) = 0 by decide), ptid_eq (va_up S 12 u) 13 12, q1, tidy_tidy e, om_s]
    dsimp only
    have q3 : va_up (va_up S 12 u) 13 u 13 = va_up (va_up S 12 u) 13 u 12 := by
      rw [va_up_self, va_up_ne _ _ (show 12 ≠ 13 by decide), q1]
    rw [if_neg (show ¬ (1 : Int32) = 0 by decide), if_neg (x2_same q3)]
    show ¬ (1 : Int32) = 0
    decide
theorem ne_ss {sp : Nat → TR} {i : Nat} (hi : i < 12) : ¬ (v_X2_isSpanSound sp i).1 = 0 := by
  unfold v_X2_isSpanSound
  have e1 : v_X1_put sp 12 (sp i).1.toInt64 (sp i).2.1.toInt64 (sp i).2.2.toInt64 = (1, va_up sp 12 (sp i)) := by
    rw [put_eq, span_32]; rfl
  rw [e1]
  have q1 : va_up sp 12 (sp i) 12 = sp i := va_up_self _ _ _
  have q2 : va_up sp 12 (sp i) i = sp i := va_up_ne _ _ (by omega)
  dsimp only
  rw [if_neg (show ¬ (1 : Int32) = 0 by decide), if_neg (x2_same (q1.trans q2.symm))]
  generalize sp i = t at q1 q2 ⊢
  generalize va_up sp 12 t = S at q1 q2 ⊢
  rw [popp_eq S 12 i, q2]
  cases e : v_X4_opposed t with
  | none =>
    rw [om_none rfl]
    dsimp only
    rw [if_pos rfl]
    exact ss_tl hi
  | some w =>
    rw [om_s]
    dsimp only
    rw [if_neg (show ¬ (1 : Int32) = 0 by decide), popp_eq (va_up S 12 w) 13 12, va_up_self, opp_opp e, om_s]
    dsimp only
    have q3 : va_up (va_up S 12 w) 13 t 13 = va_up (va_up S 12 w) 13 t i := by
      rw [va_up_self, va_up_ne _ _ (show i ≠ 13 by omega), va_up_ne _ _ (show i ≠ 12 by omega), q2]
    rw [if_neg (show ¬ (1 : Int32) = 0 by decide), if_neg (x2_same q3)]
    exact ss_tl hi
theorem ne_su {sp : Nat → TR} {i j : Nat} (hi : i < 12) (hj : j < 12) : ¬ (v_X2_isSumSound sp i j).1 = 0 := by
  unfold v_X2_isSumSound
  rw [psum_eq sp 12 i j]
  cases e : v_X4_sum (sp i) 1 (sp j) with
  | none =>
    rw [om_none rfl]
    dsimp only
    rw [psum_eq sp 13 j i, sum_cm, e, om_none rfl]
    dsimp only
    rw [if_pos rfl, if_pos rfl]
    show ¬ (1 : Int32) = 0
    decide
  | some t =>
    rw [om_s]
    dsimp only
    have a1 : va_up sp 12 t i = sp i := va_up_ne _ _ (by omega)
    have a2 : va_up sp 12 t j = sp j := va_up_ne _ _ (by omega)
    have a3 : va_up sp 12 t 12 = t := va_up_self _ _ _
    rw [psum_eq (va_up sp 12 t) 13 j i, a1, a2, sum_cm, e, om_s]
    dsimp only
    have b1 : va_up (va_up sp 12 t) 13 t 12 = t := by rw [va_up_ne _ _ (show 12 ≠ 13 by decide), a3]
    have b2 : va_up (va_up sp 12 t) 13 t 13 = t := va_up_self _ _ _
    have b3 : va_up (va_up sp 12 t) 13 t j = sp j := by rw [va_up_ne _ _ (show j ≠ 13 by omega), a2]
    rw [if_pos rfl, if_neg (show ¬ (1 : Int32) = 0 by decide), if_neg (x2_same (b1.trans b2.symm)), pdif_eq (va_up (va_up sp 12 t) 13 t) 13 12 j, b1, b3, sum_back e, om_s]
    dsimp only
    have c1 : va_up (va_up (va_up sp 12 t) 13 t) 13 (sp i) 13 = va_up (va_up (va_up sp 12 t) 13 t) 13 (sp i) i := by
      rw [va_up_self, va_up_ne _ _ (show i ≠ 13 by omega), va_up_ne _ _ (show i ≠ 13 by omega), a1]
    rw [if_neg (show ¬ (1 : Int32) = 0 by decide), if_neg (x2_same c1)]
    show ¬ (1 : Int32) = 0
    decide
theorem ne_al {sp : Nat → TR} {i j : Nat} (hi : i < 12) (hj : j < 12) : ¬ (v_X2_isAlikenessSound sp i j).1 = 0 := by
  unfold v_X2_isAlikenessSound
  rw [popp_eq sp 12 i]
  cases e : v_X4_opposed (sp i) with
  | none =>
    rw [om_none rfl]
    dsimp only
    rw [if_pos rfl]
    show ¬ (1 : Int32) = 0
    decide
  | some u =>
    rw [om_s]
    dsimp only
    have a1 : va_up sp 12 u j = sp j := va_up_ne _ _ (by omega)
    rw [if_neg (show ¬ (1 : Int32) = 0 by decide), popp_eq (va_up sp 12 u) 13 j, a1]
    cases e2 : v_X4_opposed (sp j) with
    | none =>
      rw [om_none rfl]
      dsimp only
      rw [if_pos rfl]
      show ¬ (1 : Int32) = 0
      decide
    | some w =>
      rw [om_s]
      dsimp only
      have b1 : va_up (va_up sp 12 u) 13 w 12 = u := by rw [va_up_ne _ _ (show 12 ≠ 13 by decide), va_up_self]
      have b2 : va_up (va_up sp 12 u) 13 w 13 = w := va_up_self _ _ _
      have b3 : va_up (va_up sp 12 u) 13 w i = sp i := by rw [va_up_ne _ _ (show i ≠ 13 by omega), va_up_ne _ _ (show i ≠ 12 by omega)]
      have b4 : va_up (va_up sp 12 u) 13 w j = sp j := by rw [va_up_ne _ _ (show j ≠ 13 by omega), a1]
      have c1 : v_X1_isAlikeTo (va_up (va_up sp 12 u) 13 w) 12 13 = v_X1_isAlikeTo (va_up (va_up sp 12 u) 13 w) i j := by
        rw [ali_eq (cr := va_up (va_up sp 12 u) 13 w) rfl rfl, ali_eq (cr := va_up (va_up sp 12 u) 13 w) rfl rfl, b1, b2, b3, b4]
        exact (opp_alike e e2).symm
      rw [if_neg (show ¬ (1 : Int32) = 0 by decide), if_pos c1]
      show ¬ (1 : Int32) = 0
      decide
theorem on_ss {sp : Nat → TR} {i : Nat} (hi : i < 12) : (v_X2_isSpanSound sp i).1 = 1 := b01_X2_isSpanSound.resolve_left (ne_ss hi)
theorem on_su {sp : Nat → TR} {i j : Nat} (hi : i < 12) (hj : j < 12) : (v_X2_isSumSound sp i j).1 = 1 := b01_X2_isSumSound.resolve_left (ne_su hi hj)
theorem on_al {sp : Nat → TR} {i j : Nat} (hi : i < 12) (hj : j < 12) : (v_X2_isAlikenessSound sp i j).1 = 1 := b01_X2_isAlikenessSound.resolve_left (ne_al hi hj)
theorem on_ld {sp dy : Nat → TR} {i j : Nat} (hi : okv (dy i)) (hj : okv (dy j)) (h4 : j ≠ 4) (h : ¬ (v_X1_putBetween sp dy 12 i j).1 = 0) : (v_X2_leads (v_X1_putBetween sp dy 12 i j).2 dy i 12 j).1 = 1 := b01_X2_leads.resolve_left (ne_ld hi hj h4 h)
theorem KI_mono {l : Launch} {y : MethodName} {cc : ByteArray} {maxL : Nat} {ret : Option FieldType} {rm : Room} {g : GG} {av : List Value} {N : Nat} {ad : Nat → Nat} {f : Nat → va_E} {N' : Nat} {post post' : Int32 → (Nat → Nat) → (Nat → va_E) → Prop} (h : KI l y cc maxL ret rm g av N ad f N' post) (k : ∀ r ad' f', post r ad' f' → post' r ad' f') : KI l y cc maxL ret rm g av N ad f N' post' := by
  intro sz
  refine MetFree.mono (h sz) (fun _ _ p => p) (fun _ _ _ _ _ q => q) (fun a st o t _ q => ?_)
  obtain ⟨⟨⟨r, u, h1, h2, h3⟩, h4⟩, h5⟩ := q
  exact ⟨⟨⟨r, u, h1, k _ _ _ h2, h3⟩, h4⟩, h5⟩
theorem kq_X2_isSpanSound {sp : Nat → TR} {i1 : Nat} {j : Nat} (hj : j < 12) : (v_X2_isSpanSound sp i1).2 j = sp j := by
  have n12 : j ≠ 12 := by omega
  have n13 : j ≠ 13 := by omega
  unfold v_X2_isSpanSound
  by_cases q1 : (v_X1_put sp 12 ((sp i1).1.toInt64) ((sp i1).2.1.toInt64) ((sp i1).2.2.toInt64)).1 = 0
  · rw [if_pos q1]
    simp only [kp_X1_put_sp n12, kp_X1_put_sp n13, kp_X1_putOpposite_sp n12, kp_X1_putOpposite_sp n13, kp_X1_putTidy_sp n12, kp_X1_putTidy_sp n13, kp_X1_putSum_sp n12, kp_X1_putSum_sp n13, kp_X1_putDifference_sp n12, kp_X1_putDifference_sp n13]
  · rw [if_neg q1]
    by_cases q2 : (v_X1_isSameAs (v_X1_put sp 12 ((sp i1).1.toInt64) ((sp i1).2.1.toInt64) ((sp i1).2.2.toInt64)).2 12 i1) = 0
    · rw [if_pos q2]
      simp only [kp_X1_put_sp n12, kp_X1_put_sp n13, kp_X1_putOpposite_sp n12, kp_X1_putOpposite_sp n13, kp_X1_putTidy_sp n12, kp_X1_putTidy_sp n13, kp_X1_putSum_sp n12, kp_X1_putSum_sp n13, kp_X1_putDifference_sp n12, kp_X1_putDifference_sp n13]
    · rw [if_neg q2]
      by_cases q3 : (v_X1_putOpposite (v_X1_put sp 12 ((sp i1).1.toInt64) ((sp i1).2.1.toInt64) ((sp i1).2.2.toInt64)).2 12 i1).1 = 0
      · rw [if_pos q3]
        by_cases q4 : (v_X1_putTidy (v_X1_putOpposite (v_X1_put sp 12 ((sp i1).1.toInt64) ((sp i1).2.1.toInt64) ((sp i1).2.2.toInt64)).2 12 i1).2 12 i1).1 = 0
        · rw [if_pos q4]
          simp only [kp_X1_put_sp n12, kp_X1_put_sp n13, kp_X1_putOpposite_sp n12, kp_X1_putOpposite_sp n13, kp_X1_putTidy_sp n12, kp_X1_putTidy_sp n13, kp_X1_putSum_sp n12, kp_X1_putSum_sp n13, kp_X1_putDifference_sp n12, kp_X1_putDifference_sp n13]
        · rw [if_neg q4]
          by_cases q5 : (v_X1_isAlikeTo (v_X1_putTidy (v_X1_putOpposite (v_X1_put sp 12 ((sp i1).1.toInt64) ((sp i1).2.1.toInt64) ((sp i1).2.2.toInt64)).2 12 i1).2 12 i1).2 12 i1) = 0
          · rw [if_pos q5]
            simp only [kp_X1_put_sp n12, kp_X1_put_sp n13, kp_X1_putOpposite_sp n12, kp_X1_putOpposite_sp n13, kp_X1_putTidy_sp n12, kp_X1_putTidy_sp n13, kp_X1_putSum_sp n12, kp_X1_putSum_sp n13, kp_X1_putDifference_sp n12, kp_X1_putDifference_sp n13]
          · rw [if_neg q5]
            by_cases q6 : (v_X1_putTidy (v_X1_putTidy (v_X1_putOpposite (v_X1_put sp 12 ((sp i1).1.toInt64) ((sp i1).2.1.toInt64) ((sp i1).2.2.toInt64)).2 12 i1).2 12 i1).2 13 12).1 = 0
            · rw [if_pos q6]
              simp only [kp_X1_put_sp n12, kp_X1_put_sp n13, kp_X1_putOpposite_sp n12, kp_X1_putOpposite_sp n13, kp_X1_putTidy_sp n12, kp_X1_putTidy_sp n13, kp_X1_putSum_sp n12, kp_X1_putSum_sp n13, kp_X1_putDifference_sp n12, kp_X1_putDifference_sp n13]
            · rw [if_neg q6]
              by_cases q7 : (v_X1_isSameAs (v_X1_putTidy (v_X1_putTidy (v_X1_putOpposite (v_X1_put sp 12 ((sp i1).1.toInt64) ((sp i1).2.1.toInt64) ((sp i1).2.2.toInt64)).2 12 i1).2 12 i1).2 13 12).2 13 12) = 0
              · rw [if_pos q7]
                simp only [kp_X1_put_sp n12, kp_X1_put_sp n13, kp_X1_putOpposite_sp n12, kp_X1_putOpposite_sp n13, kp_X1_putTidy_sp n12, kp_X1_putTidy_sp n13, kp_X1_putSum_sp n12, kp_X1_putSum_sp n13, kp_X1_putDifference_sp n12, kp_X1_putDifference_sp n13]
              · rw [if_neg q7]
                simp only [kp_X1_put_sp n12, kp_X1_put_sp n13, kp_X1_putOpposite_sp n12, kp_X1_putOpposite_sp n13, kp_X1_putTidy_sp n12, kp_X1_putTidy_sp n13, kp_X1_putSum_sp n12, kp_X1_putSum_sp n13, kp_X1_putDifference_sp n12, kp_X1_putDifference_sp n13]
      · rw [if_neg q3]
        by_cases q8 : (v_X1_putOpposite (v_X1_putOpposite (v_X1_put sp 12 ((sp i1).1.toInt64) ((sp i1).2.1.toInt64) ((sp i1).2.2.toInt64)).2 12 i1).2 13 12).1 = 0
        · rw [if_pos q8]
          simp only [kp_X1_put_sp n12, kp_X1_put_sp n13, kp_X1_putOpposite_sp n12, kp_X1_putOpposite_sp n13, kp_X1_putTidy_sp n12, kp_X1_putTidy_sp n13, kp_X1_putSum_sp n12, kp_X1_putSum_sp n13, kp_X1_putDifference_sp n12, kp_X1_putDifference_sp n13]
        · rw [if_neg q8]
          by_cases q9 : (v_X1_isSameAs (v_X1_putOpposite (v_X1_putOpposite (v_X1_put sp 12 ((sp i1).1.toInt64) ((sp i1).2.1.toInt64) ((sp i1).2.2.toInt64)).2 12 i1).2 13 12).2 13 i1) = 0
          · rw [if_pos q9]
            simp only [kp_X1_put_sp n12, kp_X1_put_sp n13, kp_X1_putOpposite_sp n12, kp_X1_putOpposite_sp n13, kp_X1_putTidy_sp n12, kp_X1_putTidy_sp n13, kp_X1_putSum_sp n12, kp_X1_putSum_sp n13, kp_X1_putDifference_sp n12, kp_X1_putDifference_sp n13]
          · rw [if_neg q9]
            by_cases q10 : (v_X1_putTidy (v_X1_putOpposite (v_X1_putOpposite (v_X1_put sp 12 ((sp i1).1.toInt64) ((sp i1).2.1.toInt64) ((sp i1).2.2.toInt64)).2 12 i1).2 13 12).2 12 i1).1 = 0
            · rw [if_pos q10]
              simp only [kp_X1_put_sp n12, kp_X1_put_sp n13, kp_X1_putOpposite_sp n12, kp_X1_putOpposite_sp n13, kp_X1_putTidy_sp n12, kp_X1_putTidy_sp n13, kp_X1_putSum_sp n12, kp_X1_putSum_sp n13, kp_X1_putDifference_sp n12, kp_X1_putDifference_sp n13]
            · rw [if_neg q10]
              by_cases q11 : (v_X1_isAlikeTo (v_X1_putTidy (v_X1_putOpposite (v_X1_putOpposite (v_X1_put sp 12 ((sp i1).1.toInt64) ((sp i1).2.1.toInt64) ((sp i1).2.2.toInt64)).2 12 i1).2 13 12).2 12 i1).2 12 i1) = 0
              · rw [if_pos q11]
                simp only [kp_X1_put_sp n12, kp_X1_put_sp n13, kp_X1_putOpposite_sp n12, kp_X1_putOpposite_sp n13, kp_X1_putTidy_sp n12, kp_X1_putTidy_sp n13, kp_X1_putSum_sp n12, kp_X1_putSum_sp n13, kp_X1_putDifference_sp n12, kp_X1_putDifference_sp n13]
              · rw [if_neg q11]
                by_cases q12 : (v_X1_putTidy (v_X1_putTidy (v_X1_putOpposite (v_X1_putOpposite (v_X1_put sp 12 ((sp i1).1.toInt64) ((sp i1).2.1.toInt64) ((sp i1).2.2.toInt64)).2 12 i1).2 13 12).2 12 i1).2 13 12).1 = 0
                · rw [if_pos q12]
                  simp only [kp_X1_put_sp n12, kp_X1_put_sp n13, kp_X1_putOpposite_sp n12, kp_X1_putOpposite_sp n13, kp_X1_putTidy_sp n12, kp_X1_putTidy_sp n13, kp_X1_putSum_sp n12, kp_X1_putSum_sp n13, kp_X1_putDifference_sp n12, kp_X1_putDifference_sp n13]
                · rw [if_neg q12]
                  by_cases q13 : (v_X1_isSameAs (v_X1_putTidy (v_X1_putTidy (v_X1_putOpposite (v_X1_putOpposite (v_X1_put sp 12 ((sp i1).1.toInt64) ((sp i1).2.1.toInt64) ((sp i1).2.2.toInt64)).2 12 i1).2 13 12).2 12 i1).2 13 12).2 13 12) = 0
                  · rw [if_pos q13]
                    simp only [kp_X1_put_sp n12, kp_X1_put_sp n13, kp_X1_putOpposite_sp n12, kp_X1_putOpposite_sp n13, kp_X1_putTidy_sp n12, kp_X1_putTidy_sp n13, kp_X1_putSum_sp n12, kp_X1_putSum_sp n13, kp_X1_putDifference_sp n12, kp_X1_putDifference_sp n13]
                  · rw [if_neg q13]
                    simp only [kp_X1_put_sp n12, kp_X1_put_sp n13, kp_X1_putOpposite_sp n12, kp_X1_putOpposite_sp n13, kp_X1_putTidy_sp n12, kp_X1_putTidy_sp n13, kp_X1_putSum_sp n12, kp_X1_putSum_sp n13, kp_X1_putDifference_sp n12, kp_X1_putDifference_sp n13]
theorem kq_X2_isSumSound {sp : Nat → TR} {i1 i2 : Nat} {j : Nat} (hj : j < 12) : (v_X2_isSumSound sp i1 i2).2 j = sp j := by
  have n12 : j ≠ 12 := by omega
  have n13 : j ≠ 13 := by omega
  unfold v_X2_isSumSound
  by_cases q1 : (v_X1_putSum sp 12 i1 i2).1 = (v_X1_putSum (v_X1_putSum sp 12 i1 i2).2 13 i2 i1).1
  · rw [if_pos q1]
    by_cases q2 : (v_X1_putSum sp 12 i1 i2).1 = 0
    · rw [if_pos q2]
      simp only [kp_X1_put_sp n12, kp_X1_put_sp n13, kp_X1_putOpposite_sp n12, kp_X1_putOpposite_sp n13, kp_X1_putTidy_sp n12, kp_X1_putTidy_sp n13, kp_X1_putSum_sp n12, kp_X1_putSum_sp n13, kp_X1_putDifference_sp n12, kp_X1_putDifference_sp n13]
    · rw [if_neg q2]
      by_cases q3 : (v_X1_isSameAs (v_X1_putSum (v_X1_putSum sp 12 i1 i2).2 13 i2 i1).2 12 13) = 0
      · rw [if_pos q3]
        simp only [kp_X1_put_sp n12, kp_X1_put_sp n13, kp_X1_putOpposite_sp n12, kp_X1_putOpposite_sp n13, kp_X1_putTidy_sp n12, kp_X1_putTidy_sp n13, kp_X1_putSum_sp n12, kp_X1_putSum_sp n13, kp_X1_putDifference_sp n12, kp_X1_putDifference_sp n13]
      · rw [if_neg q3]
        by_cases q4 : (v_X1_putDifference (v_X1_putSum (v_X1_putSum sp 12 i1 i2).2 13 i2 i1).2 13 12 i2).1 = 0
        · rw [if_pos q4]
          simp only [kp_X1_put_sp n12, kp_X1_put_sp n13, kp_X1_putOpposite_sp n12, kp_X1_putOpposite_sp n13, kp_X1_putTidy_sp n12, kp_X1_putTidy_sp n13, kp_X1_putSum_sp n12, kp_X1_putSum_sp n13, kp_X1_putDifference_sp n12, kp_X1_putDifference_sp n13]
        · rw [if_neg q4]
          by_cases q5 : (v_X1_isSameAs (v_X1_putDifference (v_X1_putSum (v_X1_putSum sp 12 i1 i2).2 13 i2 i1).2 13 12 i2).2 13 i1) = 0
          · rw [if_pos q5]
            simp only [kp_X1_put_sp n12, kp_X1_put_sp n13, kp_X1_putOpposite_sp n12, kp_X1_putOpposite_sp n13, kp_X1_putTidy_sp n12, kp_X1_putTidy_sp n13, kp_X1_putSum_sp n12, kp_X1_putSum_sp n13, kp_X1_putDifference_sp n12, kp_X1_putDifference_sp n13]
          · rw [if_neg q5]
            simp only [kp_X1_put_sp n12, kp_X1_put_sp n13, kp_X1_putOpposite_sp n12, kp_X1_putOpposite_sp n13, kp_X1_putTidy_sp n12, kp_X1_putTidy_sp n13, kp_X1_putSum_sp n12, kp_X1_putSum_sp n13, kp_X1_putDifference_sp n12, kp_X1_putDifference_sp n13]
  · rw [if_neg q1]
    simp only [kp_X1_put_sp n12, kp_X1_put_sp n13, kp_X1_putOpposite_sp n12, kp_X1_putOpposite_sp n13, kp_X1_putTidy_sp n12, kp_X1_putTidy_sp n13, kp_X1_putSum_sp n12, kp_X1_putSum_sp n13, kp_X1_putDifference_sp n12, kp_X1_putDifference_sp n13]
theorem kq_X2_isAlikenessSound {sp : Nat → TR} {i1 i2 : Nat} {j : Nat} (hj : j < 12) : (v_X2_isAlikenessSound sp i1 i2).2 j = sp j := by
  have n12 : j ≠ 12 := by omega
  have n13 : j ≠ 13 := by omega
  unfold v_X2_isAlikenessSound
  by_cases q1 : (v_X1_putOpposite sp 12 i1).1 = 0
  · rw [if_pos q1]
    simp only [kp_X1_put_sp n12, kp_X1_put_sp n13, kp_X1_putOpposite_sp n12, kp_X1_putOpposite_sp n13, kp_X1_putTidy_sp n12, kp_X1_putTidy_sp n13, kp_X1_putSum_sp n12, kp_X1_putSum_sp n13, kp_X1_putDifference_sp n12, kp_X1_putDifference_sp n13]
  · rw [if_neg q1]
    by_cases q2 : (v_X1_putOpposite (v_X1_putOpposite sp 12 i1).2 13 i2).1 = 0
    · rw [if_pos q2]
      simp only [kp_X1_put_sp n12, kp_X1_put_sp n13, kp_X1_putOpposite_sp n12, kp_X1_putOpposite_sp n13, kp_X1_putTidy_sp n12, kp_X1_putTidy_sp n13, kp_X1_putSum_sp n12, kp_X1_putSum_sp n13, kp_X1_putDifference_sp n12, kp_X1_putDifference_sp n13]
    · rw [if_neg q2]
      by_cases q3 : (v_X1_isAlikeTo (v_X1_putOpposite (v_X1_putOpposite sp 12 i1).2 13 i2).2 12 13) = (v_X1_isAlikeTo (v_X1_putOpposite (v_X1_putOpposite sp 12 i1).2 13 i2).2 i1 i2)
      · rw [if_pos q3]
        simp only [kp_X1_put_sp n12, kp_X1_put_sp n13, kp_X1_putOpposite_sp n12, kp_X1_putOpposite_sp n13, kp_X1_putTidy_sp n12, kp_X1_putTidy_sp n13, kp_X1_putSum_sp n12, kp_X1_putSum_sp n13, kp_X1_putDifference_sp n12, kp_X1_putDifference_sp n13]
      · rw [if_neg q3]
        simp only [kp_X1_put_sp n12, kp_X1_put_sp n13, kp_X1_putOpposite_sp n12, kp_X1_putOpposite_sp n13, kp_X1_putTidy_sp n12, kp_X1_putTidy_sp n13, kp_X1_putSum_sp n12, kp_X1_putSum_sp n13, kp_X1_putDifference_sp n12, kp_X1_putDifference_sp n13]
theorem c1_X2_isSpanSound (l : Launch) (g : GG) (N : Nat) (ad : Nat → Nat) (x : Nat → va_E) (sp dy : Nat → TR) (la kn re : Int32) (hN : 23 ≤ N) (i1 : Nat) (hi1 : i1 < 12) : KI l yX2_isSpanSound cX2_isSpanSound 2 (some .boolean) (rm 4 0 0) g [.ref (ad 0), .ref (ad (4 + i1))] N ad (cf g ad x sp dy la kn re) N (fun r ad' f' => ad = ad' ∧ 1 = r ∧ ∃ sp' dy' : Nat → TR, (∀ j, j < 12 → sp' j = sp j) ∧ (∀ j, j < 4 → dy' j = dy j) ∧ cf g ad x sp' dy' la kn re = f') := by
  refine KI_mono (ce_X2_isSpanSound l g N ad x sp dy la kn re hN i1 (by omega)) (fun r ad' f' h => ?_)
  obtain ⟨rfl, h2, rfl⟩ := h
  exact ⟨rfl, by rw [← h2]; exact (on_ss hi1).symm, _, dy, fun j hj => kq_X2_isSpanSound hj, fun _ _ => rfl, rfl⟩
theorem c1_X2_isSumSound (l : Launch) (g : GG) (N : Nat) (ad : Nat → Nat) (x : Nat → va_E) (sp dy : Nat → TR) (la kn re : Int32) (hN : 23 ≤ N) (i1 : Nat) (hi1 : i1 < 12) (i2 : Nat) (hi2 : i2 < 12) : KI l yX2_isSumSound cX2_isSumSound 4 (some .boolean) (rm 3 0 0) g [.ref (ad 0), .ref (ad (4 + i1)), .ref (ad (4 + i2))] N ad (cf g ad x sp dy la kn re) N (fun r ad' f' => ad = ad' ∧ 1 = r ∧ ∃ sp' dy' : Nat → TR, (∀ j, j < 12 → sp' j = sp j) ∧ (∀ j, j < 4 → dy' j = dy j) ∧ cf g ad x sp' dy' la kn re = f') := by
  refine KI_mono (ce_X2_isSumSound l g N ad x sp dy la kn re hN i1 (by omega) i2 (by omega)) (fun r ad' f' h => ?_)
  obtain ⟨rfl, h2, rfl⟩ := h
  exact ⟨rfl, by rw [← h2]; exact (on_su hi1 hi2).symm, _, dy, fun j hj => kq_X2_isSumSound hj, fun _ _ => rfl, rfl⟩
theorem c1_X2_isAlikenessSound (l : Launch) (g : GG) (N : Nat) (ad : Nat → Nat) (x : Nat → va_E) (sp dy : Nat → TR) (la kn re : Int32) (hN : 23 ≤ N) (i1 : Nat) (hi1 : i1 < 12) (i2 : Nat) (hi2 : i2 < 12) : KI l yX2_isAlikenessSound cX2_isAlikenessSound 3 (some .boolean) (rm 4 0 0) g [.ref (ad 0), .ref (ad (4 + i1)), .ref (ad (4 + i2))] N ad (cf g ad x sp dy la kn re) N (fun r ad' f' => ad = ad' ∧ 1 = r ∧ ∃ sp' dy' : Nat → TR, (∀ j, j < 12 → sp' j = sp j) ∧ (∀ j, j < 4 → dy' j = dy j) ∧ cf g ad x sp' dy' la kn re = f') := by
  refine KI_mono (ce_X2_isAlikenessSound l g N ad x sp dy la kn re hN i1 (by omega) i2 (by omega)) (fun r ad' f' h => ?_)
  obtain ⟨rfl, h2, rfl⟩ := h
  exact ⟨rfl, by rw [← h2]; exact (on_al hi1 hi2).symm, _, dy, fun j hj => kq_X2_isAlikenessSound hj, fun _ _ => rfl, rfl⟩
set_option maxHeartbeats 4000000 in
set_option maxRecDepth 100000 in
theorem ce_X2_isSound (l : Launch) (g : GG) (N : Nat) (ad : Nat → Nat) (x : Nat → va_E) (sp dy : Nat → TR) (la kn re : Int32) (hN : 23 ≤ N) (hov : ∀ i, i < 4 → okv (dy i)) : KI l yX2_isSound cX2_isSound 3 (some .boolean) (rm 5 0 0) g [.ref (ad 0)] N ad (cf g ad x sp dy la kn re) N (fun r ad' f' => ad = ad' ∧ 1 = r ∧ ∃ sp' dy' : Nat → TR, (∀ j, j < 12 → sp' j = sp j) ∧ (∀ j, j < 4 → dy' j = dy j) ∧ cf g ad x sp' dy' la kn re = f') := by
  intro sz
  refine mt_start (by decide) (Nat.le_of_ble_eq_true rfl) ?_
  intro p e s m args below meth c hsz X hr hnam hA hK hT H locs B ls hl
  obtain ⟨hx, hb, hml, hown, hts, hlocks⟩ := id X
  have hl : lv_has ls 3 [(0, .ref (ad 0))] := hl
  refine lv_iconst (v := 0) hx hb dX2_isSound_0 (by decide) ?_
  refine lv_istore_n (lv' := [(1, .int 0), (0, .ref (ad 0))]) hx hb dX2_isSound_1 rfl hl (by decide) rfl (fun ls hl => ?_)
  have loop1 : ∀ (n1 : Nat) (ua : Int32) (sp9 : Nat → TR) (dy9 : Nat → TR) (H : Heap) (locs : List Loc), ((4 : Int32).toInt - ua.toInt).toNat < n1 → ¬ ua < 0 → (∀ j, j < 12 → sp9 j = sp j) → (∀ j, j < 4 → dy9 j = dy j) → WB g (aw N ad sz) s.heap N ad (cf g ad x sp9 dy9 la kn re) H locs → ∀ ls : Array Slot, lv_has ls 3 [(1, .int ua), (0, .ref (ad 0))] → W p l e (rm 5 0 0) s m args below meth c H locs 0 0 (MQ below (va_Qi (fun r (u : WS) => (fun r ad' f' => ad = ad' ∧ 1 = r ∧ ∃ sp' dy' : Nat → TR, (∀ j, j < 12 → sp' j = sp j) ∧ (∀ j, j < 4 → dy' j = dy j) ∧ cf g ad x sp' dy' la kn re = f') r u.1 u.2) (fun u t => PO g N u.1 u.2 (aw N ad sz) t) (aw N ad sz)) args s (rm 5 0 0).cells (rm 5 0 0).slots (aw N ad sz)) (F0 m 2 ls []) := by
    intro n1
    induction n1 with
    | zero => intro ua sp9 dy9 H locs hn; exact absurd hn (Nat.not_lt_zero _)
    | succ n1 ih1 =>
      intro ua sp9 dy9 H locs hn1 hzua hksp1 hkdy1 B ls hl
      refine lv_iload_n hx hb dX2_isSound_2 rfl (lv_at hl 0 rfl) ?_
      refine lv_iconst (v := 4) hx hb dX2_isSound_3 (by decide) ?_
      refine lv_icmp_ge (tgt := 81) hx hb dX2_isSound_4 (by decide) (fun c2 => ?_) (fun c2 => ?_)
      · refine lv_iconst (v := 0) hx hb dX2_isSound_81 (by decide) ?_
        refine lv_istore_n (lv' := [(1, .int 0), (0, .ref (ad 0))]) hx hb dX2_isSound_82 rfl hl (by decide) rfl (fun ls hl => ?_)
        have loop3 : ∀ (n3 : Nat) (uc : Int32) (sp9 : Nat → TR) (dy9 : Nat → TR) (H : Heap) (locs : List Loc), ((4 : Int32).toInt - uc.toInt).toNat < n3 → ¬ uc < 0 → (∀ j, j < 12 → sp9 j = sp j) → (∀ j, j < 4 → dy9 j = dy j) → WB g (aw N ad sz) s.heap N ad (cf g ad x sp9 dy9 la kn re) H locs → ∀ ls : Array Slot, lv_has ls 3 [(1, .int uc), (0, .ref (ad 0))] → W p l e (rm 5 0 0) s m args below meth c H locs 0 0 (MQ below (va_Qi (fun r (u : WS) => (fun r ad' f' => ad = ad' ∧ 1 = r ∧ ∃ sp' dy' : Nat → TR, (∀ j, j < 12 → sp' j = sp j) ∧ (∀ j, j < 4 → dy' j = dy j) ∧ cf g ad x sp' dy' la kn re = f') r u.1 u.2) (fun u t => PO g N u.1 u.2 (aw N ad sz) t) (aw N ad sz)) args s (rm 5 0 0).cells (rm 5 0 0).slots (aw N ad sz)) (F0 m 83 ls []) := by
          intro n3
          induction n3 with
          | zero => intro uc sp9 dy9 H locs hn; exact absurd hn (Nat.not_lt_zero _)
          | succ n3 ih3 =>
            intro uc sp9 dy9 H locs hn3 hzuc hksp3 hkdy3 B ls hl
            refine lv_iload_n hx hb dX2_isSound_83 rfl (lv_at hl 0 rfl) ?_
            refine lv_iconst (v := 4) hx hb dX2_isSound_84 (by decide) ?_
            refine lv_icmp_ge (tgt := 154) hx hb dX2_isSound_85 (by decide) (fun c4 => ?_) (fun c4 => ?_)
            · refine lv_iconst (v := 1) hx hb dX2_isSound_154 (by decide) ?_
              exact rt_i X hr (ad, (cf g ad x sp9 dy9 la kn re)) B (PO_of B) ⟨rfl, rfl, _, _, hksp3, hkdy3, rfl⟩ rfl (Nat.le_of_ble_eq_true rfl) (Nat.le_of_ble_eq_true rfl) dX2_isSound_155
            · refine lv_iconst (v := 0) hx hb dX2_isSound_88 (by decide) ?_
              refine lv_istore_n (lv' := [(2, .int 0), (1, .int uc), (0, .ref (ad 0))]) hx hb dX2_isSound_89 rfl hl (by decide) rfl (fun ls hl => ?_)
              have loop5 : ∀ (n5 : Nat) (ud : Int32) (sp9 : Nat → TR) (dy9 : Nat → TR) (H : Heap) (locs : List Loc), ((4 : Int32).toInt - ud.toInt).toNat < n5 → ¬ ud < 0 → (∀ j, j < 12 → sp9 j = sp j) → (∀ j, j < 4 → dy9 j = dy j) → WB g (aw N ad sz) s.heap N ad (cf g ad x sp9 dy9 la kn re) H locs → ∀ ls : Array Slot, lv_has ls 3 [(2, .int ud), (1, .int uc), (0, .ref (ad 0))] → W p l e (rm 5 0 0) s m args below meth c H locs 0 0 (MQ below (va_Qi (fun r (u : WS) => (fun r ad' f' => ad = ad' ∧ 1 = r ∧ ∃ sp' dy' : Nat → TR, (∀ j, j < 12 → sp' j = sp j) ∧ (∀ j, j < 4 → dy' j = dy j) ∧ cf g ad x sp' dy' la kn re = f') r u.1 u.2) (fun u t => PO g N u.1 u.2 (aw N ad sz) t) (aw N ad sz)) args s (rm 5 0 0).cells (rm 5 0 0).slots (aw N ad sz)) (F0 m 90 ls []) := by
                intro n5
                induction n5 with
                | zero => intro ud sp9 dy9 H locs hn; exact absurd hn (Nat.not_lt_zero _)
                | succ n5 ih5 =>
                  intro ud sp9 dy9 H locs hn5 hzud hksp5 hkdy5 B ls hl
                  refine lv_iload_n hx hb dX2_isSound_90 rfl (lv_at hl 0 rfl) ?_
                  refine lv_iconst (v := 4) hx hb dX2_isSound_91 (by decide) ?_
                  refine lv_icmp_ge (tgt := 148) hx hb dX2_isSound_92 (by decide) (fun c6 => ?_) (fun c6 => ?_)
                  · refine lv_iinc (v := uc + 1) (lv' := [(1, .int (uc + 1)), (2, .int ud), (0, .ref (ad 0))]) hx hb dX2_isSound_148 hl (k := 1) rfl rfl (by decide) rfl (fun ls hl => ?_)
                    refine lv_goto (tgt := 83) hx hb dX2_isSound_151 (by decide) ?_
                    exact ih3 (uc + 1) sp9 dy9 H locs (fu_le c4 hn3) (inc_nn hzuc c4) (hksp5) (hkdy5) B ls (lv_sub hl [0, 2] rfl)
                  · refine lv_aload_n hx hb dX2_isSound_95 rfl (lv_at hl 2 rfl) ?_
                    refine g_get (q := 0) (k := 6) X hK B rfl in_X2 (pl_c hN 0 (by decide)) cf_0 (by decide) lk_X2_25 rfl rfl dX2_isSound_96 ?_
                    refine lv_aload_n hx hb dX2_isSound_99 rfl (lv_at hl 2 rfl) ?_
                    refine g_get (q := 0) (k := 2) X hK B rfl in_X2 (pl_c hN 0 (by decide)) cf_0 (by decide) lk_X2_20 rfl rfl dX2_isSound_100 ?_
                    refine lv_iload_n hx hb dX2_isSound_103 rfl (lv_at hl 1 rfl) ?_
                    refine g_aald (q := 3) (t0 := 4) X hK B (pl_c hN 3 (by decide)) cf_3 rfl rfl (ix_in (n := 4) hzuc c4 rfl) dX2_isSound_104 ?_
                    have h7 : uc.toNatClampNeg < 5 := by have := (ix_lt (n := 4) hzuc c4 rfl); omega
                    refine lv_aload_n hx hb dX2_isSound_105 rfl (lv_at hl 2 rfl) ?_
                    refine g_get (q := 0) (k := 2) X hK B rfl in_X2 (pl_c hN 0 (by decide)) cf_0 (by decide) lk_X2_20 rfl rfl dX2_isSound_106 ?_
                    refine lv_iload_n hx hb dX2_isSound_109 rfl (lv_at hl 0 rfl) ?_
                    refine g_aald (q := 3) (t0 := 4) X hK B (pl_c hN 3 (by decide)) cf_3 rfl rfl (ix_in (n := 4) hzud c6 rfl) dX2_isSound_110 ?_
                    have h8 : ud.toNatClampNeg < 5 := by have := (ix_lt (n := 4) hzud c6 rfl); omega
                    refine k_i (k := 0) (n := 0) hA B (u_VN (rest := []) X (c_X1_putBetween l g N ad x sp9 dy9 la kn re hN 12 (by decide) uc.toNatClampNeg h7 ud.toNatClampNeg h8 H.size) mw_X1_putBetween md_X1_putBetween rfl lk_X2_173 ⟨Nat.le_of_ble_eq_true rfl, Nat.le_of_ble_eq_true rfl⟩ hA hK hT B (pl_sp hN (by decide)) (cf_sp (by decide)) rfl rfl hl.1 rfl (Nat.le_of_ble_eq_true rfl) dX2_isSound_111 ⟨Nat.le_of_ble_eq_true rfl, Nat.le_of_ble_eq_true rfl⟩) (Nat.le_of_ble_eq_true rfl) (Nat.le_of_ble_eq_true rfl) (fun r ad' f' H locs hw B => ?_)
                    obtain ⟨rfl, rfl, rfl⟩ := hw
                    have k9 : ∀ j, j < 12 → (v_X1_putBetween sp9 dy9 12 uc.toNatClampNeg ud.toNatClampNeg).2 j = sp j := fun j hj => (kp_X1_putBetween_sp (by omega)).trans (hksp5 j hj)
                    refine lv_if_eq (tgt := 142) hx hb dX2_isSound_114 (by decide) (fun c10 => ?_) (fun c10 => ?_)
                    · refine lv_iinc (v := ud + 1) (lv' := [(2, .int (ud + 1)), (1, .int uc), (0, .ref (ad 0))]) hx hb dX2_isSound_142 hl (k := 0) rfl rfl (by decide) rfl (fun ls hl => ?_)
                      refine lv_goto (tgt := 90) hx hb dX2_isSound_145 (by decide) ?_
                      exact ih5 (ud + 1) (v_X1_putBetween sp9 dy9 12 uc.toNatClampNeg ud.toNatClampNeg).2 dy9 H locs (fu_le c6 hn5) (inc_nn hzud c6) (k9) (hkdy5) B ls (lv_sub hl [0, 1, 2] rfl)
                    · refine lv_aload_n hx hb dX2_isSound_117 rfl (lv_at hl 2 rfl) ?_
                      refine lv_aload_n hx hb dX2_isSound_118 rfl (lv_at hl 2 rfl) ?_
                      refine g_get (q := 0) (k := 2) X hK B rfl in_X2 (pl_c hN 0 (by decide)) cf_0 (by decide) lk_X2_20 rfl rfl dX2_isSound_119 ?_
                      refine lv_iload_n hx hb dX2_isSound_122 rfl (lv_at hl 1 rfl) ?_
                      refine g_aald (q := 3) (t0 := 4) X hK B (pl_c hN 3 (by decide)) cf_3 rfl rfl (ix_in (n := 4) hzuc c4 rfl) dX2_isSound_123 ?_
                      have h11 : uc.toNatClampNeg < 5 := by have := (ix_lt (n := 4) hzuc c4 rfl); omega
                      refine lv_aload_n hx hb dX2_isSound_124 rfl (lv_at hl 2 rfl) ?_
                      refine g_get (q := 0) (k := 6) X hK B rfl in_X2 (pl_c hN 0 (by decide)) cf_0 (by decide) lk_X2_25 rfl rfl dX2_isSound_125 ?_
                      refine lv_aload_n hx hb dX2_isSound_128 rfl (lv_at hl 2 rfl) ?_
                      refine g_get (q := 0) (k := 2) X hK B rfl in_X2 (pl_c hN 0 (by decide)) cf_0 (by decide) lk_X2_20 rfl rfl dX2_isSound_129 ?_
                      refine lv_iload_n hx hb dX2_isSound_132 rfl (lv_at hl 0 rfl) ?_
                      refine g_aald (q := 3) (t0 := 4) X hK B (pl_c hN 3 (by decide)) cf_3 rfl rfl (ix_in (n := 4) hzud c6 rfl) dX2_isSound_133 ?_
                      have h12 : ud.toNatClampNeg < 5 := by have := (ix_lt (n := 4) hzud c6 rfl); omega
                      refine k_i (k := 0) (n := 0) hA B (u_V (rest := []) X (c_X2_leads l g N ad x (v_X1_putBetween sp9 dy9 12 uc.toNatClampNeg ud.toNatClampNeg).2 dy9 la kn re hN uc.toNatClampNeg h11 12 (by decide) ud.toNatClampNeg h12 H.size) mw_X2_leads md_X2_leads rfl lk_X2_177 ⟨Nat.le_of_ble_eq_true rfl, Nat.le_of_ble_eq_true rfl⟩ hA hK hT B (pl_c hN 0 (by decide)) cf_0 rfl rfl hl.1 rfl (Nat.le_of_ble_eq_true rfl) dX2_isSound_134 ⟨Nat.le_of_ble_eq_true rfl, Nat.le_of_ble_eq_true rfl⟩) (Nat.le_of_ble_eq_true rfl) (Nat.le_of_ble_eq_true rfl) (fun r ad' f' H locs hw B => ?_)
                      obtain ⟨rfl, rfl, rfl⟩ := hw
                      have e13 : ∀ j, j < 4 → (v_X2_leads (v_X1_putBetween sp9 dy9 12 uc.toNatClampNeg ud.toNatClampNeg).2 dy9 uc.toNatClampNeg 12 ud.toNatClampNeg).2 j = dy j := fun j hj => (kp_X2_leads_dy (by omega)).trans (hkdy5 j hj)
                      have on13 : (v_X2_leads (v_X1_putBetween sp9 dy9 12 uc.toNatClampNeg ud.toNatClampNeg).2 dy9 uc.toNatClampNeg 12 ud.toNatClampNeg).1 = 1 := (on_ld (by rw [(hkdy5) _ (ix_lt (n := 4) hzuc c4 rfl)]; exact hov _ (ix_lt (n := 4) hzuc c4 rfl)) (by rw [(hkdy5) _ (ix_lt (n := 4) hzud c6 rfl)]; exact hov _ (ix_lt (n := 4) hzud c6 rfl)) (by have := (ix_lt (n := 4) hzud c6 rfl); omega) c10)
                      rw [on13]
                      generalize (v_X2_leads (v_X1_putBetween sp9 dy9 12 uc.toNatClampNeg ud.toNatClampNeg).2 dy9 uc.toNatClampNeg 12 ud.toNatClampNeg).2 = t13 at e13 B ⊢
                      refine lv_if_ne (tgt := 142) hx hb dX2_isSound_137 (by decide) (fun _ => ?_) (fun z => absurd z (by decide))
                      refine lv_iinc (v := ud + 1) (lv' := [(2, .int (ud + 1)), (1, .int uc), (0, .ref (ad 0))]) hx hb dX2_isSound_142 hl (k := 0) rfl rfl (by decide) rfl (fun ls hl => ?_)
                      refine lv_goto (tgt := 90) hx hb dX2_isSound_145 (by decide) ?_
                      exact ih5 (ud + 1) (v_X1_putBetween sp9 dy9 12 uc.toNatClampNeg ud.toNatClampNeg).2 t13 H locs (fu_le c6 hn5) (inc_nn hzud c6) (k9) (e13) B ls (lv_sub hl [0, 1, 2] rfl)
              exact loop5 (((4 : Int32).toInt - (0 : Int32).toInt).toNat + 1) 0 sp9 dy9 H locs (Nat.lt_succ_self _) (by decide) (hksp3) (hkdy3) B ls hl
        exact loop3 (((4 : Int32).toInt - (0 : Int32).toInt).toNat + 1) 0 sp9 dy9 H locs (Nat.lt_succ_self _) (by decide) (hksp1) (hkdy1) B ls hl
      · refine lv_aload_n hx hb dX2_isSound_7 rfl (lv_at hl 1 rfl) ?_
        refine lv_aload_n hx hb dX2_isSound_8 rfl (lv_at hl 1 rfl) ?_
        refine g_get (q := 0) (k := 0) X hK B rfl in_X2 (pl_c hN 0 (by decide)) cf_0 (by decide) lk_X2_11 rfl rfl dX2_isSound_9 ?_
        refine lv_iload_n hx hb dX2_isSound_12 rfl (lv_at hl 0 rfl) ?_
        refine g_aald (q := 1) (t0 := 3) X hK B (pl_c hN 1 (by decide)) cf_1 rfl rfl (ix_in (n := 4) hzua c2 rfl) dX2_isSound_13 ?_
        have h14 : ua.toNatClampNeg < 14 := by have := (ix_lt (n := 4) hzua c2 rfl); omega
        refine k_i (k := 0) (n := 0) hA B (u_V (rest := []) X (c1_X2_isSpanSound l g N ad x sp9 dy9 la kn re hN ua.toNatClampNeg (Nat.lt_of_lt_of_le (ix_lt (n := 4) hzua c2 rfl) (by decide)) H.size) mw_X2_isSpanSound md_X2_isSpanSound rfl lk_X2_191 ⟨Nat.le_of_ble_eq_true rfl, Nat.le_of_ble_eq_true rfl⟩ hA hK hT B (pl_c hN 0 (by decide)) cf_0 rfl rfl hl.1 rfl (Nat.le_of_ble_eq_true rfl) dX2_isSound_14 ⟨Nat.le_of_ble_eq_true rfl, Nat.le_of_ble_eq_true rfl⟩) (Nat.le_of_ble_eq_true rfl) (Nat.le_of_ble_eq_true rfl) (fun r15 ad' f' H locs hw B => ?_)
        obtain ⟨rfl, rfl, sp15, dy15, k15, e15, rfl⟩ := hw
        have k15 : ∀ j, j < 12 → sp15 j = sp j := fun j hj => (k15 j hj).trans (hksp1 j hj)
        have e15 : ∀ j, j < 4 → dy15 j = dy j := fun j hj => (e15 j hj).trans (hkdy1 j hj)
        refine lv_if_ne (tgt := 22) hx hb dX2_isSound_17 (by decide) (fun _ => ?_) (fun z => absurd z (by decide))
        refine lv_iconst (v := 0) hx hb dX2_isSound_22 (by decide) ?_
        refine lv_istore_n (lv' := [(2, .int 0), (1, .int ua), (0, .ref (ad 0))]) hx hb dX2_isSound_23 rfl hl (by decide) rfl (fun ls hl => ?_)
        have loop16 : ∀ (n16 : Nat) (ub : Int32) (sp9 : Nat → TR) (dy9 : Nat → TR) (H : Heap) (locs : List Loc), ((4 : Int32).toInt - ub.toInt).toNat < n16 → ¬ ub < 0 → (∀ j, j < 12 → sp9 j = sp j) → (∀ j, j < 4 → dy9 j = dy j) → WB g (aw N ad sz) s.heap N ad (cf g ad x sp9 dy9 la kn re) H locs → ∀ ls : Array Slot, lv_has ls 3 [(2, .int ub), (1, .int ua), (0, .ref (ad 0))] → W p l e (rm 5 0 0) s m args below meth c H locs 0 0 (MQ below (va_Qi (fun r (u : WS) => (fun r ad' f' => ad = ad' ∧ 1 = r ∧ ∃ sp' dy' : Nat → TR, (∀ j, j < 12 → sp' j = sp j) ∧ (∀ j, j < 4 → dy' j = dy j) ∧ cf g ad x sp' dy' la kn re = f') r u.1 u.2) (fun u t => PO g N u.1 u.2 (aw N ad sz) t) (aw N ad sz)) args s (rm 5 0 0).cells (rm 5 0 0).slots (aw N ad sz)) (F0 m 24 ls []) := by
          intro n16
          induction n16 with
          | zero => intro ub sp9 dy9 H locs hn; exact absurd hn (Nat.not_lt_zero _)
          | succ n16 ih16 =>
            intro ub sp9 dy9 H locs hn16 hzub hksp16 hkdy16 B ls hl
            refine lv_iload_n hx hb dX2_isSound_24 rfl (lv_at hl 0 rfl) ?_
            refine lv_iconst (v := 4) hx hb dX2_isSound_25 (by decide) ?_
            refine lv_icmp_ge (tgt := 75) hx hb dX2_isSound_26 (by decide) (fun c17 => ?_) (fun c17 => ?_)
            · refine lv_iinc (v := ua + 1) (lv' := [(1, .int (ua + 1)), (2, .int ub), (0, .ref (ad 0))]) hx hb dX2_isSound_75 hl (k := 1) rfl rfl (by decide) rfl (fun ls hl => ?_)
              refine lv_goto (tgt := 2) hx hb dX2_isSound_78 (by decide) ?_
              exact ih1 (ua + 1) sp9 dy9 H locs (fu_le c2 hn1) (inc_nn hzua c2) (hksp16) (hkdy16) B ls (lv_sub hl [0, 2] rfl)
            · refine lv_aload_n hx hb dX2_isSound_29 rfl (lv_at hl 2 rfl) ?_
              refine lv_aload_n hx hb dX2_isSound_30 rfl (lv_at hl 2 rfl) ?_
              refine g_get (q := 0) (k := 0) X hK B rfl in_X2 (pl_c hN 0 (by decide)) cf_0 (by decide) lk_X2_11 rfl rfl dX2_isSound_31 ?_
              refine lv_iload_n hx hb dX2_isSound_34 rfl (lv_at hl 1 rfl) ?_
              refine g_aald (q := 1) (t0 := 3) X hK B (pl_c hN 1 (by decide)) cf_1 rfl rfl (ix_in (n := 4) hzua c2 rfl) dX2_isSound_35 ?_
              have h18 : ua.toNatClampNeg < 14 := by have := (ix_lt (n := 4) hzua c2 rfl); omega
              refine lv_aload_n hx hb dX2_isSound_36 rfl (lv_at hl 2 rfl) ?_
              refine g_get (q := 0) (k := 0) X hK B rfl in_X2 (pl_c hN 0 (by decide)) cf_0 (by decide) lk_X2_11 rfl rfl dX2_isSound_37 ?_
              refine lv_iload_n hx hb dX2_isSound_40 rfl (lv_at hl 0 rfl) ?_
              refine g_aald (q := 1) (t0 := 3) X hK B (pl_c hN 1 (by decide)) cf_1 rfl rfl (ix_in (n := 4) hzub c17 rfl) dX2_isSound_41 ?_
              have h19 : ub.toNatClampNeg < 14 := by have := (ix_lt (n := 4) hzub c17 rfl); omega
              refine k_i (k := 0) (n := 0) hA B (u_V (rest := []) X (c1_X2_isSumSound l g N ad x sp9 dy9 la kn re hN ua.toNatClampNeg (Nat.lt_of_lt_of_le (ix_lt (n := 4) hzua c2 rfl) (by decide)) ub.toNatClampNeg (Nat.lt_of_lt_of_le (ix_lt (n := 4) hzub c17 rfl) (by decide)) H.size) mw_X2_isSumSound md_X2_isSumSound rfl lk_X2_194 ⟨Nat.le_of_ble_eq_true rfl, Nat.le_of_ble_eq_true rfl⟩ hA hK hT B (pl_c hN 0 (by decide)) cf_0 rfl rfl hl.1 rfl (Nat.le_of_ble_eq_true rfl) dX2_isSound_42 ⟨Nat.le_of_ble_eq_true rfl, Nat.le_of_ble_eq_true rfl⟩) (Nat.le_of_ble_eq_true rfl) (Nat.le_of_ble_eq_true rfl) (fun r20 ad' f' H locs hw B => ?_)
              obtain ⟨rfl, rfl, sp20, dy20, k20, e20, rfl⟩ := hw
              have k20 : ∀ j, j < 12 → sp20 j = sp j := fun j hj => (k20 j hj).trans (hksp16 j hj)
              have e20 : ∀ j, j < 4 → dy20 j = dy j := fun j hj => (e20 j hj).trans (hkdy16 j hj)
              refine lv_if_eq (tgt := 67) hx hb dX2_isSound_45 (by decide) (fun z => absurd z (by decide)) (fun _ => ?_)
              refine lv_aload_n hx hb dX2_isSound_48 rfl (lv_at hl 2 rfl) ?_
              refine lv_aload_n hx hb dX2_isSound_49 rfl (lv_at hl 2 rfl) ?_
              refine g_get (q := 0) (k := 0) X hK B rfl in_X2 (pl_c hN 0 (by decide)) cf_0 (by decide) lk_X2_11 rfl rfl dX2_isSound_50 ?_
              refine lv_iload_n hx hb dX2_isSound_53 rfl (lv_at hl 1 rfl) ?_
              refine g_aald (q := 1) (t0 := 3) X hK B (pl_c hN 1 (by decide)) cf_1 rfl rfl (ix_in (n := 4) hzua c2 rfl) dX2_isSound_54 ?_
              have h21 : ua.toNatClampNeg < 14 := by have := (ix_lt (n := 4) hzua c2 rfl); omega
              refine lv_aload_n hx hb dX2_isSound_55 rfl (lv_at hl 2 rfl) ?_
              refine g_get (q := 0) (k := 0) X hK B rfl in_X2 (pl_c hN 0 (by decide)) cf_0 (by decide) lk_X2_11 rfl rfl dX2_isSound_56 ?_
              refine lv_iload_n hx hb dX2_isSound_59 rfl (lv_at hl 0 rfl) ?_
              refine g_aald (q := 1) (t0 := 3) X hK B (pl_c hN 1 (by decide)) cf_1 rfl rfl (ix_in (n := 4) hzub c17 rfl) dX2_isSound_60 ?_
              have h22 : ub.toNatClampNeg < 14 := by have := (ix_lt (n := 4) hzub c17 rfl); omega
              refine k_i (k := 0) (n := 0) hA B (u_V (rest := []) X (c1_X2_isAlikenessSound l g N ad x sp20 dy20 la kn re hN ua.toNatClampNeg (Nat.lt_of_lt_of_le (ix_lt (n := 4) hzua c2 rfl) (by decide)) ub.toNatClampNeg (Nat.lt_of_lt_of_le (ix_lt (n := 4) hzub c17 rfl) (by decide)) H.size) mw_X2_isAlikenessSound md_X2_isAlikenessSound rfl lk_X2_197 ⟨Nat.le_of_ble_eq_true rfl, Nat.le_of_ble_eq_true rfl⟩ hA hK hT B (pl_c hN 0 (by decide)) cf_0 rfl rfl hl.1 rfl (Nat.le_of_ble_eq_true rfl) dX2_isSound_61 ⟨Nat.le_of_ble_eq_true rfl, Nat.le_of_ble_eq_true rfl⟩) (Nat.le_of_ble_eq_true rfl) (Nat.le_of_ble_eq_true rfl) (fun r23 ad' f' H locs hw B => ?_)
              obtain ⟨rfl, rfl, sp23, dy23, k23, e23, rfl⟩ := hw
              have k23 : ∀ j, j < 12 → sp23 j = sp j := fun j hj => (k23 j hj).trans (k20 j hj)
              have e23 : ∀ j, j < 4 → dy23 j = dy j := fun j hj => (e23 j hj).trans (e20 j hj)
              refine lv_if_ne (tgt := 69) hx hb dX2_isSound_64 (by decide) (fun _ => ?_) (fun z => absurd z (by decide))
              refine lv_iinc (v := ub + 1) (lv' := [(2, .int (ub + 1)), (1, .int ua), (0, .ref (ad 0))]) hx hb dX2_isSound_69 hl (k := 0) rfl rfl (by decide) rfl (fun ls hl => ?_)
              refine lv_goto (tgt := 24) hx hb dX2_isSound_72 (by decide) ?_
              exact ih16 (ub + 1) sp23 dy23 H locs (fu_le c17 hn16) (inc_nn hzub c17) (k23) (e23) B ls (lv_sub hl [0, 1, 2] rfl)
        exact loop16 (((4 : Int32).toInt - (0 : Int32).toInt).toNat + 1) 0 sp15 dy15 H locs (Nat.lt_succ_self _) (by decide) (k15) (e15) B ls hl
  exact loop1 (((4 : Int32).toInt - (0 : Int32).toInt).toNat + 1) 0 sp dy H locs (Nat.lt_succ_self _) (by decide) (fun _ _ => rfl) (fun _ _ => rfl) B ls hl
theorem and11 {x y : Int32} (hx : x = 1) (hy : y = 1) : x &&& y = 1 := by rw [hx, hy]; decide
set_option maxHeartbeats 4000000 in
set_option maxRecDepth 100000 in
theorem c1_X4_isSoundNow (l : Launch) (g : GG) (N : Nat) (ad : Nat → Nat) (y : Nat → va_E) (cr dr : Nat → TR) (th kn rf : Int32) (pl : Nat → TR) (pz : Nat) (mc : Int32) (hN : 36 + pz ≤ N) (b0 : Nat) (hb0 : ad 24 = b0) (hdr : ∀ i, i < 4 → okd (dr i)) (hov : ∀ i, i < 4 → okv (dr i)) : KI l yX4_isSoundNow cX4_isSoundNow 4 (some .boolean) (rm 5 465 1395) g [.ref b0] N ad (mg g ad y cr dr th kn rf pl pz mc) N (fun r ad' f' => ad = ad' ∧ 1 = r ∧ mg g ad y cr dr th kn rf pl pz mc = f') := by
  intro sz
  refine mt_start (by decide) (Nat.le_of_ble_eq_true rfl) ?_
  intro p e s m args below meth c hsz X hr hnam hA hK hT H locs B ls hl
  obtain ⟨hx, hb, hml, hown, hts, hlocks⟩ := id X
  have hl : lv_has ls 4 [(0, .ref b0)] := hl
  refine lv_iconst (v := 1) hx hb dX4_isSoundNow_0 (by decide) ?_
  refine lv_istore_n (lv' := [(1, .int 1), (0, .ref b0)]) hx hb dX4_isSoundNow_1 rfl hl (by decide) rfl (fun ls hl => ?_)
  refine lv_iconst (v := 0) hx hb dX4_isSoundNow_2 (by decide) ?_
  refine lv_istore_n (lv' := [(2, .int 0), (1, .int 1), (0, .ref b0)]) hx hb dX4_isSoundNow_3 rfl hl (by decide) rfl (fun ls hl => ?_)
  have loop1 : ∀ (n1 : Nat) (sa : Int32) (us : Int32) (C1 : Nat) (S1 : Nat) (H : Heap) (locs : List Loc), C1 + n1 * 93 ≤ 465 → S1 + n1 * 279 ≤ 1395 → ((4 : Int32).toInt - sa.toInt).toNat < n1 → us = 1 → ¬ sa < 0 → WB g (aw N ad sz) s.heap N ad (mg g ad y cr dr th kn rf pl pz mc) H locs → ∀ ls : Array Slot, lv_has ls 4 [(2, .int sa), (1, .int us), (0, .ref b0)] → W p l e (rm 5 465 1395) s m args below meth c H locs C1 S1 (MQ below (va_Qi (fun r (u : WS) => (fun r ad' f' => ad = ad' ∧ 1 = r ∧ mg g ad y cr dr th kn rf pl pz mc = f') r u.1 u.2) (fun u t => PO g N u.1 u.2 (aw N ad sz) t) (aw N ad sz)) args s (rm 5 465 1395).cells (rm 5 465 1395).slots (aw N ad sz)) (F0 m 4 ls []) := by
    intro n1
    induction n1 with
    | zero => intro sa us C1 S1 H locs _ _ hn; exact absurd hn (Nat.not_lt_zero _)
    | succ n1 ih1 =>
      intro sa us C1 S1 H locs hC1 hS1 hn1 hus hks B ls hl
      refine lv_iload_n hx hb dX4_isSoundNow_4 rfl (lv_at hl 0 rfl) ?_
      refine lv_iconst (v := 4) hx hb dX4_isSoundNow_5 (by decide) ?_
      refine lv_icmp_ge (tgt := 93) hx hb dX4_isSoundNow_6 (by decide) (fun c2 => ?_) (fun c2 => ?_)
      · refine W.widen (show (C1 + 0) ≤ 465 by omega) (show (S1 + 0) ≤ 1395 by omega) ?_
        refine lv_iload_n hx hb dX4_isSoundNow_93 rfl (lv_at hl 1 rfl) ?_
        exact rt_i X hr (ad, mg g ad y cr dr th kn rf pl pz mc) B (PO_of B) ⟨rfl, hus.symm, rfl⟩ (nb_of (Or.inr hus)) (Nat.le_of_ble_eq_true rfl) (Nat.le_of_ble_eq_true rfl) dX4_isSoundNow_94
      · refine lv_iload_n hx hb dX4_isSoundNow_9 rfl (lv_at hl 1 rfl) ?_
        refine lv_aload_n hx hb dX4_isSoundNow_10 rfl (lv_at hl 2 rfl) ?_
        refine b_get (q := 24) (k := 1) hb0 X hK B rfl in_X4 (by omega) mg_24 (by decide) lk_X4_11 rfl rfl dX4_isSoundNow_11 ?_
        refine lv_iload_n hx hb dX4_isSoundNow_14 rfl (lv_at hl 0 rfl) ?_
        refine b_aald (q := 25) (t0 := 2) (v := ad (28 + sa.toNatClampNeg)) rfl X hK B (by omega) mg_25 rfl rfl (ix_in (n := 4) hks c2 rfl) rfl dX4_isSoundNow_15 ?_
        have g3 : sa.toNatClampNeg < 4 := (ix_lt (n := 4) hks c2 rfl)
        refine k_i (k := (C1 + 8)) (n := (S1 + 24)) hA B (u_S (rest := [.int us]) X (c_X4_isSpanSound l g N ad (mg g ad y cr dr th kn rf pl pz mc) (28 + sa.toNatClampNeg) (ad (28 + sa.toNatClampNeg)) (cr sa.toNatClampNeg) (pl_cr hN g3) rfl (mg_cr g3) H.size) mw_X4_isSpanSound md_X4_isSpanSound rfl lk_X4_254 ⟨Nat.le_of_ble_eq_true rfl, Nat.le_of_ble_eq_true rfl⟩ hA hK hT B hl.1 rfl (Nat.le_of_ble_eq_true rfl) dX4_isSoundNow_16 (by dsimp only [rm]; omega)) (by dsimp only [rm]; omega) (by dsimp only [rm]; omega) (fun r4 ad4 f' H locs hw B => ?_)
        obtain ⟨rfl, rfl, rfl⟩ := hw
        refine lv_iand hx hb dX4_isSoundNow_19 ?_
        refine lv_istore_n (lv' := [(1, .int (us &&& (v_X4_isSpanSound (cr sa.toNatClampNeg)))), (2, .int sa), (0, .ref b0)]) hx hb dX4_isSoundNow_20 rfl hl (by decide) rfl (fun ls hl => ?_)
        refine lv_iconst (v := 0) hx hb dX4_isSoundNow_21 (by decide) ?_
        refine lv_istore_n (lv' := [(3, .int 0), (1, .int (us &&& (v_X4_isSpanSound (cr sa.toNatClampNeg)))), (2, .int sa), (0, .ref b0)]) hx hb dX4_isSoundNow_22 rfl hl (by decide) rfl (fun ls hl => ?_)
        have loop5 : ∀ (n5 : Nat) (sb : Int32) (ut : Int32) (C5 : Nat) (S5 : Nat) (H : Heap) (locs : List Loc), C5 + n5 * 17 ≤ (C1 + 93) → S5 + n5 * 51 ≤ (S1 + 279) → ((4 : Int32).toInt - sb.toInt).toNat < n5 → ut = 1 → ¬ sb < 0 → WB g (aw N ad sz) s.heap N ad (mg g ad y cr dr th kn rf pl pz mc) H locs → ∀ ls : Array Slot, lv_has ls 4 [(3, .int sb), (1, .int ut), (2, .int sa), (0, .ref b0)] → W p l e (rm 5 465 1395) s m args below meth c H locs C5 S5 (MQ below (va_Qi (fun r (u : WS) => (fun r ad' f' => ad = ad' ∧ 1 = r ∧ mg g ad y cr dr th kn rf pl pz mc = f') r u.1 u.2) (fun u t => PO g N u.1 u.2 (aw N ad sz) t) (aw N ad sz)) args s (rm 5 465 1395).cells (rm 5 465 1395).slots (aw N ad sz)) (F0 m 23 ls []) := by
          intro n5
          induction n5 with
          | zero => intro sb ut C5 S5 H locs _ _ hn; exact absurd hn (Nat.not_lt_zero _)
          | succ n5 ih5 =>
            intro sb ut C5 S5 H locs hC5 hS5 hn5 hut hkt B ls hl
            refine lv_iload_n hx hb dX4_isSoundNow_23 rfl (lv_at hl 0 rfl) ?_
            refine lv_iconst (v := 4) hx hb dX4_isSoundNow_24 (by decide) ?_
            refine lv_icmp_ge (tgt := 87) hx hb dX4_isSoundNow_25 (by decide) (fun c6 => ?_) (fun c6 => ?_)
            · refine W.widen (show (C5 + 0) ≤ (C1 + 93) by omega) (show (S5 + 0) ≤ (S1 + 279) by omega) ?_
              refine lv_iinc (v := sa + 1) (lv' := [(2, .int (sa + 1)), (3, .int sb), (1, .int ut), (0, .ref b0)]) hx hb dX4_isSoundNow_87 hl (k := 2) rfl rfl (by decide) rfl (fun ls hl => ?_)
              refine lv_goto (tgt := 4) hx hb dX4_isSoundNow_90 (by decide) ?_
              exact ih1 (sa + 1) ut (C1 + 93) (S1 + 279) H locs (by omega) (by omega) (fu_le c2 hn1) hut (inc_nn hks c2) B ls (lv_sub hl [0, 2, 3] rfl)
            · refine lv_iload_n hx hb dX4_isSoundNow_28 rfl (lv_at hl 1 rfl) ?_
              refine lv_aload_n hx hb dX4_isSoundNow_29 rfl (lv_at hl 3 rfl) ?_
              refine b_get (q := 24) (k := 1) hb0 X hK B rfl in_X4 (by omega) mg_24 (by decide) lk_X4_11 rfl rfl dX4_isSoundNow_30 ?_
              refine lv_iload_n hx hb dX4_isSoundNow_33 rfl (lv_at hl 2 rfl) ?_
              refine b_aald (q := 25) (t0 := 2) (v := ad (28 + sa.toNatClampNeg)) rfl X hK B (by omega) mg_25 rfl rfl (ix_in (n := 4) hks c2 rfl) rfl dX4_isSoundNow_34 ?_
              have g7 : sa.toNatClampNeg < 4 := (ix_lt (n := 4) hks c2 rfl)
              refine lv_aload_n hx hb dX4_isSoundNow_35 rfl (lv_at hl 3 rfl) ?_
              refine b_get (q := 24) (k := 1) hb0 X hK B rfl in_X4 (by omega) mg_24 (by decide) lk_X4_11 rfl rfl dX4_isSoundNow_36 ?_
              refine lv_iload_n hx hb dX4_isSoundNow_39 rfl (lv_at hl 0 rfl) ?_
              refine b_aald (q := 25) (t0 := 2) (v := ad (28 + sb.toNatClampNeg)) rfl X hK B (by omega) mg_25 rfl rfl (ix_in (n := 4) hkt c6 rfl) rfl dX4_isSoundNow_40 ?_
              have g8 : sb.toNatClampNeg < 4 := (ix_lt (n := 4) hkt c6 rfl)
              refine k_i (k := (C5 + 11)) (n := (S5 + 33)) hA B (u_S (rest := [.int ut]) X (c_X4_areSound l g N ad (mg g ad y cr dr th kn rf pl pz mc) (28 + sa.toNatClampNeg) (ad (28 + sa.toNatClampNeg)) (cr sa.toNatClampNeg) (pl_cr hN g7) rfl (mg_cr g7) (28 + sb.toNatClampNeg) (ad (28 + sb.toNatClampNeg)) (cr sb.toNatClampNeg) (pl_cr hN g8) rfl (mg_cr g8) H.size) mw_X4_areSound md_X4_areSound rfl lk_X4_258 ⟨Nat.le_of_ble_eq_true rfl, Nat.le_of_ble_eq_true rfl⟩ hA hK hT B hl.1 rfl (Nat.le_of_ble_eq_true rfl) dX4_isSoundNow_41 (by dsimp only [rm]; omega)) (by dsimp only [rm]; omega) (by dsimp only [rm]; omega) (fun r9 ad9 f' H locs hw B => ?_)
              obtain ⟨rfl, rfl, rfl⟩ := hw
              refine lv_if_eq (tgt := 78) hx hb dX4_isSoundNow_44 (by decide) (fun c10 => ?_) (fun c10 => ?_)
              · refine lv_iconst (v := 0) hx hb dX4_isSoundNow_78 (by decide) ?_
                refine lv_iand hx hb dX4_isSoundNow_79 ?_
                refine lv_istore_n (lv' := [(1, .int (ut &&& 0)), (3, .int sb), (2, .int sa), (0, .ref b0)]) hx hb dX4_isSoundNow_80 rfl hl (by decide) rfl (fun ls hl => ?_)
                refine lv_iinc (v := sb + 1) (lv' := [(3, .int (sb + 1)), (1, .int (ut &&& 0)), (2, .int sa), (0, .ref b0)]) hx hb dX4_isSoundNow_81 hl (k := 1) rfl rfl (by decide) rfl (fun ls hl => ?_)
                refine lv_goto (tgt := 23) hx hb dX4_isSoundNow_84 (by decide) ?_
                exact ih5 (sb + 1) (ut &&& 0) (C5 + 11) (S5 + 33) H locs (by omega) (by omega) (fu_le c6 hn5) (absurd c10 (by rw [x4_as]; decide)) (inc_nn hkt c6) B ls (lv_sub hl [0, 1, 2, 3] rfl)
              · refine lv_aload_n hx hb dX4_isSoundNow_47 rfl (lv_at hl 3 rfl) ?_
                refine b_get (q := 24) (k := 3) hb0 X hK B rfl in_X4 (by omega) mg_24 (by decide) lk_X4_23 rfl rfl dX4_isSoundNow_48 ?_
                refine lv_iload_n hx hb dX4_isSoundNow_51 rfl (lv_at hl 2 rfl) ?_
                refine b_aald (q := 26) (t0 := 2) (v := ad (32 + sa.toNatClampNeg)) rfl X hK B (by omega) mg_26 rfl rfl (ix_in (n := 4) hks c2 rfl) rfl dX4_isSoundNow_52 ?_
                have g11 : sa.toNatClampNeg < 4 := (ix_lt (n := 4) hks c2 rfl)
                refine lv_aload_n hx hb dX4_isSoundNow_53 rfl (lv_at hl 3 rfl) ?_
                refine b_get (q := 24) (k := 3) hb0 X hK B rfl in_X4 (by omega) mg_24 (by decide) lk_X4_23 rfl rfl dX4_isSoundNow_54 ?_
                refine lv_iload_n hx hb dX4_isSoundNow_57 rfl (lv_at hl 0 rfl) ?_
                refine b_aald (q := 26) (t0 := 2) (v := ad (32 + sb.toNatClampNeg)) rfl X hK B (by omega) mg_26 rfl rfl (ix_in (n := 4) hkt c6 rfl) rfl dX4_isSoundNow_58 ?_
                have g12 : sb.toNatClampNeg < 4 := (ix_lt (n := 4) hkt c6 rfl)
                refine k_r (k := (C5 + 13)) (n := (S5 + 39)) hA B (u_S (rest := [.int ut]) X (c_X4_apart l g N ad (mg g ad y cr dr th kn rf pl pz mc) (32 + sa.toNatClampNeg) (ad (32 + sa.toNatClampNeg)) (dr sa.toNatClampNeg) (pl_dr hN g11) rfl (mg_dr g11) (32 + sb.toNatClampNeg) (ad (32 + sb.toNatClampNeg)) (dr sb.toNatClampNeg) (pl_dr hN g12) rfl (mg_dr g12) (hdr _ g11) (hdr _ g12) H.size) mw_X4_apart md_X4_apart rfl lk_X4_219 ⟨Nat.le_of_ble_eq_true rfl, Nat.le_of_ble_eq_true rfl⟩ hA hK hT B hl.1 rfl (Nat.le_of_ble_eq_true rfl) dX4_isSoundNow_59 (by dsimp only [rm]; omega)) (by dsimp only [rm]; omega) (by dsimp only [rm]; omega) (fun r13 ad13 f' H locs hw B => ?_)
                generalize o14 : (v_X4_apart (dr sa.toNatClampNeg) (dr sb.toNatClampNeg)) = v9 at hw B
                cases v9 with
                | none =>
                  obtain ⟨rfl, rfl, rfl⟩ := pw_n hw
                  refine lv_ifnullN (tgt := 74) hx hb dX4_isSoundNow_62 (by decide) ?_
                  refine lv_iconst (v := 1) hx hb dX4_isSoundNow_74 (by decide) ?_
                  refine lv_goto (tgt := 79) hx hb dX4_isSoundNow_75 (by decide) ?_
                  refine lv_iand hx hb dX4_isSoundNow_79 ?_
                  refine lv_istore_n (lv' := [(1, .int (ut &&& 1)), (3, .int sb), (2, .int sa), (0, .ref b0)]) hx hb dX4_isSoundNow_80 rfl hl (by decide) rfl (fun ls hl => ?_)
                  refine lv_iinc (v := sb + 1) (lv' := [(3, .int (sb + 1)), (1, .int (ut &&& 1)), (2, .int sa), (0, .ref b0)]) hx hb dX4_isSoundNow_81 hl (k := 1) rfl rfl (by decide) rfl (fun ls hl => ?_)
                  refine lv_goto (tgt := 23) hx hb dX4_isSoundNow_84 (by decide) ?_
                  exact ih5 (sb + 1) (ut &&& 1) (C5 + 13) (S5 + 39) H locs (by omega) (by omega) (fu_le c6 hn5) (and11 hut rfl) (inc_nn hkt c6) B ls (lv_sub hl [0, 1, 2, 3] rfl)
                | some t14 =>
                  obtain ⟨z14, rfl, rfl, rfl⟩ := pw_s hw
                  have B : WB g (aw N ad sz) s.heap (N + 1) (va_up ad N z14) (mg g (va_up ad N z14) (va_up y N (c_row g t14)) cr dr th kn rf pl pz mc) H locs := WM_push (by omega) B
                  refine lv_ifnull hx hb dX4_isSoundNow_62 ?_
                  refine lv_aload_n hx hb dX4_isSoundNow_65 rfl (lv_at hl 3 rfl) ?_
                  refine lv_iload_n hx hb dX4_isSoundNow_66 rfl (lv_at hl 2 rfl) ?_
                  refine lv_iload_n hx hb dX4_isSoundNow_67 rfl (lv_at hl 0 rfl) ?_
                  refine k_i (k := (C5 + 17)) (n := (S5 + 51)) hA B (b_V (q := 24) (rest := [.int ut]) ((up_lt (by omega)).trans hb0) X (c_X4_leadsBack l g (N + 1) (va_up ad N z14) (va_up y N (c_row g t14)) cr dr th kn rf pl pz mc (by omega) b0 ((up_lt (by omega)).trans hb0) sa sb (no_of hks c2) (no_of hkt c6) hdr H.size) mw_X4_leadsBack md_X4_leadsBack rfl lk_X4_239 ⟨Nat.le_of_ble_eq_true rfl, Nat.le_of_ble_eq_true rfl⟩ hA hK hT B (by omega) mg_24 rfl rfl hl.1 rfl (Nat.le_of_ble_eq_true rfl) dX4_isSoundNow_68 (by dsimp only [rm]; omega)) (by dsimp only [rm]; omega) (by dsimp only [rm]; omega) (fun r15 ad15 f' H locs hw B => ?_)
                  obtain ⟨rfl, rfl, rfl⟩ := hw
                  refine lv_if_eq (tgt := 78) hx hb dX4_isSoundNow_71 (by decide) (fun c16 => ?_) (fun c16 => ?_)
                  · refine lv_iconst (v := 0) hx hb dX4_isSoundNow_78 (by decide) ?_
                    refine lv_iand hx hb dX4_isSoundNow_79 ?_
                    refine lv_istore_n (lv' := [(1, .int (ut &&& 0)), (3, .int sb), (2, .int sa), (0, .ref b0)]) hx hb dX4_isSoundNow_80 rfl hl (by decide) rfl (fun ls hl => ?_)
                    refine lv_iinc (v := sb + 1) (lv' := [(3, .int (sb + 1)), (1, .int (ut &&& 0)), (2, .int sa), (0, .ref b0)]) hx hb dX4_isSoundNow_81 hl (k := 1) rfl rfl (by decide) rfl (fun ls hl => ?_)
                    refine lv_goto (tgt := 23) hx hb dX4_isSoundNow_84 (by decide) ?_
                    have B : WB g (aw N ad sz) s.heap N ad (mg g ad y cr dr th kn rf pl pz mc) H locs := WM_drop B (by omega) (by omega) (fun _ hk => (up_lt hk)) (fun _ hk => (up_lt hk))
                    exact ih5 (sb + 1) (ut &&& 0) (C5 + 17) (S5 + 51) H locs (by omega) (by omega) (fu_le c6 hn5) (absurd c16 (by rw [lb_1 (hov _ g11) (hov _ g12) o14]; decide)) (inc_nn hkt c6) B ls (lv_sub hl [0, 1, 2, 3] rfl)
                  · refine lv_iconst (v := 1) hx hb dX4_isSoundNow_74 (by decide) ?_
                    refine lv_goto (tgt := 79) hx hb dX4_isSoundNow_75 (by decide) ?_
                    refine lv_iand hx hb dX4_isSoundNow_79 ?_
                    refine lv_istore_n (lv' := [(1, .int (ut &&& 1)), (3, .int sb), (2, .int sa), (0, .ref b0)]) hx hb dX4_isSoundNow_80 rfl hl (by decide) rfl (fun ls hl => ?_)
                    refine lv_iinc (v := sb + 1) (lv' := [(3, .int (sb + 1)), (1, .int (ut &&& 1)), (2, .int sa), (0, .ref b0)]) hx hb dX4_isSoundNow_81 hl (k := 1) rfl rfl (by decide) rfl (fun ls hl => ?_)
                    refine lv_goto (tgt := 23) hx hb dX4_isSoundNow_84 (by decide) ?_
                    have B : WB g (aw N ad sz) s.heap N ad (mg g ad y cr dr th kn rf pl pz mc) H locs := WM_drop B (by omega) (by omega) (fun _ hk => (up_lt hk)) (fun _ hk => (up_lt hk))
                    exact ih5 (sb + 1) (ut &&& 1) (C5 + 17) (S5 + 51) H locs (by omega) (by omega) (fu_le c6 hn5) (and11 hut rfl) (inc_nn hkt c6) B ls (lv_sub hl [0, 1, 2, 3] rfl)
        have hT5 : 4 + 1 ≤ 5 := (by decide)
        exact loop5 (4 + 1) 0 (us &&& (v_X4_isSpanSound (cr sa.toNatClampNeg))) (C1 + 8) (S1 + 24) H locs (by omega) (by omega) (by decide) (and11 hus (x4_ss _)) (by decide) B ls hl
  have hT1 : 4 + 1 ≤ 5 := (by decide)
  exact loop1 (4 + 1) 0 1 0 0 H locs (by omega) (by omega) (by decide) rfl (by decide) B ls hl
set_option maxHeartbeats 4000000 in
set_option maxRecDepth 100000 in
theorem c1_X4_isSound (l : Launch) (g : GG) (N : Nat) (ad : Nat → Nat) (y : Nat → va_E) (cr dr : Nat → TR) (th kn rf : Int32) (pl : Nat → TR) (pz : Nat) (mc : Int32) (hN : 36 + pz ≤ N) (b0 : Nat) (hb0 : ad 24 = b0) (hdr : ∀ i, i < 4 → okd (dr i)) (hov : ∀ i, i < 4 → okv (dr i)) : KI l yX4_isSound cX4_isSound 1 (some .boolean) (rm 6 465 1395) g [.ref b0] N ad (mg g ad y cr dr th kn rf pl pz mc) N (fun r ad' f' => ad = ad' ∧ 1 = r ∧ mg g ad y cr dr v_X4_isSound kn rf pl pz mc = f') := by
  intro sz
  refine mt_start (by decide) (Nat.le_of_ble_eq_true rfl) ?_
  intro p e s m args below meth c hsz X hr hnam hA hK hT H locs B ls hl
  obtain ⟨hx, hb, hml, hown, hts, hlocks⟩ := id X
  have hl : lv_has ls 1 [(0, .ref b0)] := hl
  refine lv_aload_n hx hb dX4_isSound_0 rfl (lv_at hl 0 rfl) ?_
  refine lv_iconst (v := 0) hx hb dX4_isSound_1 (by decide) ?_
  refine b_put (q := 24) (k := 0) hb0 X hK B rfl in_X4 tyX4_ok nmX4 (by omega) mg_24 (by decide) lk_X4_26 rfl rfl rfl rfl rfl (Nat.le_of_ble_eq_true rfl) dX4_isSound_2 (fun H locs B => ?_)
  have B : WB g (aw N ad sz) s.heap N ad (mg g ad y cr dr 0 kn rf pl pz mc) H locs := by rw [← mg_up_md]; exact B
  refine lv_aload_n hx hb dX4_isSound_5 rfl (lv_at hl 0 rfl) ?_
  refine k_i (k := 465) (n := 1395) hA B (b_V (q := 24) (rest := []) hb0 X (c1_X4_isSoundNow l g N ad y cr dr 0 kn rf pl pz mc (by omega) b0 hb0 hdr hov H.size) mw_X4_isSoundNow md_X4_isSoundNow rfl lk_X4_261 ⟨Nat.le_of_ble_eq_true rfl, Nat.le_of_ble_eq_true rfl⟩ hA hK hT B (by omega) mg_24 rfl rfl hl.1 rfl (Nat.le_of_ble_eq_true rfl) dX4_isSound_6 ⟨Nat.le_of_ble_eq_true rfl, Nat.le_of_ble_eq_true rfl⟩) (Nat.le_of_ble_eq_true rfl) (Nat.le_of_ble_eq_true rfl) (fun r1 ad1 f' H locs hw B => ?_)
  obtain ⟨rfl, rfl, rfl⟩ := hw
  have ev := (show v_X4_isSound = 0 from rfl)
  exact rt_i X hr (ad, mg g ad y cr dr 0 kn rf pl pz mc) B (PO_of B) ⟨rfl, rfl, by rw [ev]⟩ rfl (Nat.le_of_ble_eq_true rfl) (Nat.le_of_ble_eq_true rfl) dX4_isSound_9
end
