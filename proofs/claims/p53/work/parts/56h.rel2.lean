section
/-! method by method: copies, changes, the pile, what is asked, dates -/
section RLT
variable {sp dy cr dr pl : Nat → TR} {la re rf : Int32} {pz : Nat}
theorem va_cm {α : Type} {f : Nat → α} {k j : Nat} {v w : α} (h : k ≠ j) : va_up (va_up f k v) j w = va_up (va_up f j w) k v := by
  funext i
  by_cases a : i = j
  · rw [a, va_up_self, va_up_ne _ _ (Ne.symm h), va_up_self]
  · rw [va_up_ne _ _ a]
    by_cases b : i = k
    · rw [b, va_up_self, va_up_self]
    · rw [va_up_ne _ _ b, va_up_ne _ _ b, va_up_ne _ _ a]
theorem two_c (a1 a2 : Int32) : (v_X4_isNone a1 = 0 ∧ v_X4_isNone a2 = 0 ∧ xo (x_X2_cardAt a1) (xo (x_X2_cardAt a2) none) = none ∧ a1.toNatClampNeg < 4 ∧ a2.toNatClampNeg < 4) ∨ ((¬ v_X4_isNone a1 = 0 ∨ (v_X4_isNone a1 = 0 ∧ ¬ v_X4_isNone a2 = 0)) ∧ xo (x_X2_cardAt a1) (xo (x_X2_cardAt a2) none) = some iobN) := by
  rcases ca_cs a1 with ⟨h1, h2, h3⟩ | ⟨h1, h2⟩
  · rcases ca_cs a2 with ⟨g1, g2, g3⟩ | ⟨g1, g2⟩
    · exact Or.inl ⟨h1, g1, by rw [h2, g2]; rfl, h3, g3⟩
    · exact Or.inr ⟨Or.inr ⟨h1, g1⟩, by rw [h2, g2]; rfl⟩
  · exact Or.inr ⟨Or.inl h1, by rw [h2]; rfl⟩
theorem two_n {α : Type} {a1 a2 : Int32} {x y : α} (h : ¬ v_X4_isNone a1 = 0 ∨ (v_X4_isNone a1 = 0 ∧ ¬ v_X4_isNone a2 = 0)) : (if v_X4_isNone a1 = 0 then (if v_X4_isNone a2 = 0 then x else y) else y) = y := by
  rcases h with h | ⟨h, g⟩
  · rw [if_neg h]
  · rw [if_pos h, if_neg g]
theorem cA_some {i : Nat} {t : TR} (hi : i ≠ 12) : v_X2_actOnCard (va_up sp 12 t) re i 1 = cA sp re i (some t) := act_c (v := some t) hi
theorem cD_some {j : Nat} {t : TR} (hj : j ≠ 4) (h1 : okv (dy j)) (h2 : okv t) : v_X2_actOnDate (va_up dy 4 t) re j 1 = cD dy re j (some t) := act_d (v := some t) hj h1 (fun u hu => by rw [← Option.some.inj hu]; exact h2)
theorem rl_copy {a1 a2 : Int32} (hR : Rq sp dy la re cr dr rf pl pz) : RO (x_X2_copy a1 a2) (v_X4_copy cr a1 a2).2.2 (v_X2_copy sp re a1 a2).1 (v_X4_copy cr a1 a2).1 (Rq (v_X2_copy sp re a1 a2).2.1 dy la (v_X2_copy sp re a1 a2).2.2 (v_X4_copy cr a1 a2).2.1 dr rf pl pz) (Rq sp dy la re (v_X4_copy cr a1 a2).2.1 dr rf pl pz) := by
  have hE := hR.1
  rcases two_c a1 a2 with ⟨h1, h2, hx, h3, h4⟩ | ⟨h1, hx⟩
  · refine pa_c3 (t := cr a2.toNatClampNeg) hR h3 hx ?_ ?_
    · unfold v_X2_copy
      rw [pe3, psp_all, hE _ h4]
      exact cA_some (by omega)
    · unfold v_X4_copy
      rw [if_pos h1, if_pos h2, get_m]
      rfl
  · have e : v_X4_copy cr a1 a2 = (0, cr, 1) := by
      unfold v_X4_copy
      exact two_n h1
    rw [e]
    exact RO_no hx xcd_b.symm hR
theorem rl_change {a1 a2 a3 : Int32} (hR : Rq sp dy la re cr dr rf pl pz) : RO (x_X2_change a1 a2) (v_X4_change cr a1 a2 a3).2.2 (v_X2_change sp re a1 a2 a3).1 (v_X4_change cr a1 a2 a3).1 (Rq (v_X2_change sp re a1 a2 a3).2.1 dy la (v_X2_change sp re a1 a2 a3).2.2 (v_X4_change cr a1 a2 a3).2.1 dr rf pl pz) (Rq sp dy la re (v_X4_change cr a1 a2 a3).2.1 dr rf pl pz) := by
  have hE := hR.1
  have l2 : (lN 2) = (2 : Int64) := rfl
  have i3 : (nI (2 + 1)) = (3 : Int32) := rfl
  rcases wh_cs a2 3 2 rfl (by decide) with ⟨g1, g2, k, hk, rfl⟩ | ⟨g1, g2⟩
  · rw [l2] at g1
    rcases ca_cs a1 with ⟨h1, h2, h3⟩ | ⟨h1, h2⟩
    · refine pa_c3 (t := rwu (cr a1.toNatClampNeg) k a3) hR h3 (by unfold x_X2_change; rw [h2, g2]; simp only [xo_n, ite_self]) ?_ ?_
      · rcases (show k = 0 ∨ k = 1 ∨ k = 2 by omega) with rfl | rfl | rfl
        · unfold v_X2_change
          rw [if_pos (show nI 0 = 0 by decide), if_neg (show ¬ nI 0 = 1 by decide), if_neg (show ¬ nI 0 = 2 by decide)]
          rw [pe3, put_eq, span_32, hE _ h3]
          exact act_c (by omega)
        · unfold v_X2_change
          rw [if_neg (show ¬ nI 1 = 0 by decide), if_pos (show nI 1 = 1 by decide), if_neg (show ¬ nI 1 = 2 by decide)]
          rw [pe3, put_eq, span_32, hE _ h3]
          exact act_c (by omega)
        · unfold v_X2_change
          rw [if_neg (show ¬ nI 2 = 0 by decide), if_neg (show ¬ nI 2 = 1 by decide), if_pos (show nI 2 = 2 by decide)]
          rw [pe3, put_eq, span_32, hE _ h3]
          exact act_c (by omega)
      · unfold v_X4_change
        rw [if_neg g1, if_pos h1, get_m, nI_clamp (by omega)]
        rfl
    · have e : v_X4_change cr a1 (nI k) a3 = (0, cr, 1) := by
        unfold v_X4_change
        rw [if_neg g1, if_neg h1]
      rw [e]
      exact RO_no (by unfold x_X2_change; rw [h2]; rfl) xcd_b.symm hR
  · rw [l2] at g1
    rcases ca_cs a1 with ⟨h1, h2, h3⟩ | ⟨h1, h2⟩
    · have e : v_X4_change cr a1 a2 a3 = (0, cr, 2) := by
        unfold v_X4_change
        rw [if_pos g1, if_pos h1]
      rw [e]
      exact RO_no (E := iaeN) (by unfold x_X2_change; rw [h2, g2]; rfl) xcd_a.symm hR
    · have e : v_X4_change cr a1 a2 a3 = (0, cr, 1) := by
        unfold v_X4_change
        rw [if_pos g1, if_neg h1]
      rw [e]
      exact RO_no (by unfold x_X2_change; rw [h2]; rfl) xcd_b.symm hR
theorem rl_swap {a1 a2 : Int32} (hR : Rq sp dy la re cr dr rf pl pz) : RO (x_X2_swap a1 a2) (v_X4_swap cr a1 a2).2.2 (v_X2_swap sp re a1 a2).1 (v_X4_swap cr a1 a2).1 (Rq (v_X2_swap sp re a1 a2).2.1 dy la (v_X2_swap sp re a1 a2).2.2 (v_X4_swap cr a1 a2).2.1 dr rf pl pz) (Rq sp dy la re (v_X4_swap cr a1 a2).2.1 dr rf pl pz) := by
  obtain ⟨hE, b, c, d, e, f, g⟩ := id hR
  rcases two_c a1 a2 with ⟨h1, h2, hx, h3, h4⟩ | ⟨h1, hx⟩
  · have e4 : v_X4_swap cr a1 a2 = (if cr a1.toNatClampNeg = cr a2.toNatClampNeg then 0 else 1, va_up (va_up cr a1.toNatClampNeg (cr a2.toNatClampNeg)) a2.toNatClampNeg (cr a1.toNatClampNeg), 0) := by
      unfold v_X4_swap
      rw [if_pos h1, if_pos h2]
      have eK : v_X4_getK cr a1 (cr a2.toNatClampNeg) = v_X4_get cr a1 (cr a2.toNatClampNeg) := rfl
      rw [eK, get_m, get_m]
    have e2 : v_X2_swap sp re a1 a2 = cA (va_up sp a2.toNatClampNeg (sp a1.toNatClampNeg)) re a1.toNatClampNeg (some (sp a2.toNatClampNeg)) := by
      unfold v_X2_swap
      rw [pe3, psp_all, psp_all, va_up_ne _ _ (show a1.toNatClampNeg ≠ 12 by omega), va_cm (show 12 ≠ a2.toNatClampNeg by omega)]
      exact cA_some (by omega)
    rw [e4, e2]
    have z1 := hE _ h3
    have z2 := hE _ h4
    generalize a1.toNatClampNeg = i at h3 z1 ⊢
    generalize a2.toNatClampNeg = j at h4 z2 ⊢
    have ei : va_up sp j (sp i) i = cr i := by
      by_cases q : i = j
      · rw [q, va_up_self, hE _ h4]
      · rw [va_up_ne _ _ q]; exact z1
    refine RO_ok hx rfl ?_ ?_
    · show (if va_up sp j (sp i) i = sp j then (0 : Int32) else 1) = if cr i = cr j then 0 else 1
      rw [ei, z2]
    · refine ⟨?_, b, c, ?_, e, f, g⟩
      · show E4 (if va_up sp j (sp i) i = sp j then va_up (va_up sp j (sp i)) 12 (sp j) else va_up (va_up (va_up sp j (sp i)) 12 (sp j)) i (sp j)) (va_up (va_up cr i (cr j)) j (cr i))
        rw [ei, z2]
        intro k hk
        by_cases q : cr i = cr j
        · rw [if_pos q, va_up_ne _ _ (by omega)]
          by_cases kj : k = j
          · rw [kj, va_up_self, va_up_self, z1]
          · rw [va_up_ne _ _ kj, va_up_ne _ _ kj]
            by_cases ki : k = i
            · rw [ki, va_up_self, z1]; exact q
            · rw [va_up_ne _ _ ki]; exact hE k hk
        · rw [if_neg q]
          by_cases ki : k = i
          · rw [ki, va_up_self]
            by_cases ij : i = j
            · exact absurd (by rw [ij]) q
            · rw [va_up_ne _ _ ij, va_up_self]
          · rw [va_up_ne _ _ ki, va_up_ne _ _ (by omega)]
            by_cases kj : k = j
            · rw [kj, va_up_self, va_up_self, z1]
            · rw [va_up_ne _ _ kj, va_up_ne _ _ kj, va_up_ne _ _ ki]; exact hE k hk
      · intro k hk
        show (if va_up sp j (sp i) i = sp j then va_up (va_up sp j (sp i)) 12 (sp j) else va_up (va_up (va_up sp j (sp i)) 12 (sp j)) i (sp j)) (4 + k) = pl k
        by_cases q : va_up sp j (sp i) i = sp j
        · rw [if_pos q, va_up_ne _ _ (by omega), va_up_ne _ _ (by omega)]; exact d k hk
        · rw [if_neg q, va_up_ne _ _ (by omega), va_up_ne _ _ (by omega), va_up_ne _ _ (by omega)]; exact d k hk
  · have e : v_X4_swap cr a1 a2 = (0, cr, 1) := by
      unfold v_X4_swap
      exact two_n h1
    rw [e]
    exact RO_no hx xcd_b.symm hR
theorem pz_n {pz : Nat} (h : pz ≤ 9) : Int32.ofNat (pz - 1) = nI (pz - 1) ∧ pz - 1 ≤ 8 := ⟨rfl, by omega⟩
theorem rl_lay {a1 mc : Int32} (hR : Rq sp dy la re cr dr rf pl pz) : RO (x_X2_lay la a1) (v_X4_lay cr rf pl pz mc a1).2.1 (v_X2_lay sp la re a1).1 (v_X4_lay cr rf pl pz mc a1).1 (Rq (v_X2_lay sp la re a1).2.1 dy (v_X2_lay sp la re a1).2.2.1 (v_X2_lay sp la re a1).2.2.2 cr dr (v_X4_lay cr rf pl pz mc a1).2.2.1 (v_X4_lay cr rf pl pz mc a1).2.2.2.1 (v_X4_lay cr rf pl pz mc a1).2.2.2.2.1) (Rq sp dy la re cr dr (v_X4_lay cr rf pl pz mc a1).2.2.1 (v_X4_lay cr rf pl pz mc a1).2.2.2.1 (v_X4_lay cr rf pl pz mc a1).2.2.2.2.1) := by
  obtain ⟨hE, b, c, d, e, f, g⟩ := id hR
  have hla : la = nI (pz - 1) := c
  rcases ca_cs a1 with ⟨h1, h2, h3⟩ | ⟨h1, h2⟩
  · by_cases q : pz = 9
    · have q8 : la = 8 := by rw [hla, q]; rfl
      have e4 : v_X4_lay cr rf pl pz mc a1 = (-9, 0, rf + 1, pl, pz, mc) := by
        unfold v_X4_lay
        rw [if_pos h1, if_pos (show Int32.ofNat (pz - 1) = 8 by rw [q]; rfl)]; rfl
      have e2 : v_X2_lay sp la re a1 = (-9, sp, la, re + 1) := by
        unfold v_X2_lay
        rw [if_neg (show ¬ la < 8 by rw [q8]; decide)]; rfl
      rw [e4, e2]
      refine RO_ok (by unfold x_X2_lay; rw [h2]; simp only [xo_n, ite_self]) rfl rfl ⟨hE, b, c, d, by show re + 1 = rf + 1; rw [e], f, g⟩
    · have q8 : la < 8 := by rw [hla]; exact nI_lt (b := 8) (by omega) (by decide)
      have e2 : v_X2_lay sp la re a1 = (la + 1, va_up sp (4 + (pz - 1)) (sp a1.toNatClampNeg), la + 1, re) := by
        unfold v_X2_lay
        rw [if_pos q8, psp_all, hla, nI_clamp (by omega)]
      have e4 : v_X4_lay cr rf pl pz mc a1 = (la + 1, 0, rf, va_up pl (pz - 1) (cr a1.toNatClampNeg), if pz = 0 then 2 else pz + 1, mc + 1) := by
        unfold v_X4_lay
        rw [if_pos h1, if_neg (show ¬ Int32.ofNat (pz - 1) = 8 from fun z => by
          have := (nI_eq (a := pz - 1) (b := 8) (by omega) (by omega)).mp z
          omega)]
        by_cases z : pz = 0
        · rw [if_pos z, if_pos z, hla, z]; rfl
        · rw [if_neg z, if_neg z, hla, nI_1]
          have : pz + 1 - 1 = pz - 1 + 1 := by omega
          rw [this]; rfl
      rw [e4, e2]
      refine RO_ok (by unfold x_X2_lay; rw [h2]; simp only [xo_n, ite_self]) rfl rfl ⟨fun j hj => ?_, b, ?_, fun k hk => ?_, e, ?_, g⟩
      · show va_up sp (4 + (pz - 1)) (sp a1.toNatClampNeg) j = cr j
        rw [va_up_ne _ _ (by omega)]; exact hE j hj
      · show la + 1 = Int32.ofNat ((if pz = 0 then 2 else pz + 1) - 1)
        by_cases z : pz = 0
        · rw [if_pos z, hla, z]; rfl
        · rw [if_neg z, hla, nI_1]
          have : pz + 1 - 1 = pz - 1 + 1 := by omega
          rw [this]; rfl
      · show va_up sp (4 + (pz - 1)) (sp a1.toNatClampNeg) (4 + k) = va_up pl (pz - 1) (cr a1.toNatClampNeg) k
        have hk : k + 1 < if pz = 0 then 2 else pz + 1 := hk
        have hk2 : k ≤ pz - 1 := by
          by_cases z : pz = 0
          · rw [if_pos z] at hk; omega
          · rw [if_neg z] at hk; omega
        by_cases z : k = pz - 1
        · rw [z, va_up_self, va_up_self]; exact hE _ h3
        · rw [va_up_ne _ _ (by omega), va_up_ne _ _ z]; exact d k (by omega)
      · show (if pz = 0 then 2 else pz + 1) ≤ 9
        by_cases z : pz = 0
        · rw [if_pos z]; omega
        · rw [if_neg z]; omega
  · have e4 : v_X4_lay cr rf pl pz mc a1 = (0, 1, rf, pl, pz, mc) := by
      unfold v_X4_lay
      rw [if_neg h1]
    rw [e4]
    exact RO_no (E := iobN) (by unfold x_X2_lay; rw [h2]; rfl) xcd_b.symm hR
theorem rl_take {a1 mc : Int32} (hR : Rq sp dy la re cr dr rf pl pz) : RO (x_X2_take la a1) (v_X4_take cr rf pl pz mc a1).2.2.1 (v_X2_take sp la re a1).1 (v_X4_take cr rf pl pz mc a1).1 (Rq (v_X2_take sp la re a1).2.1 dy (v_X2_take sp la re a1).2.2.1 (v_X2_take sp la re a1).2.2.2 (v_X4_take cr rf pl pz mc a1).2.1 dr (v_X4_take cr rf pl pz mc a1).2.2.2.1 pl (v_X4_take cr rf pl pz mc a1).2.2.2.2.1) (Rq sp dy la re (v_X4_take cr rf pl pz mc a1).2.1 dr (v_X4_take cr rf pl pz mc a1).2.2.2.1 pl (v_X4_take cr rf pl pz mc a1).2.2.2.2.1) := by
  obtain ⟨hE, b, c, d, e, f, g⟩ := id hR
  have hla : la = nI (pz - 1) := c
  rcases ca_cs a1 with ⟨h1, h2, h3⟩ | ⟨h1, h2⟩
  · by_cases q : pz - 1 = 0
    · have q8 : la = 0 := by rw [hla, q]; rfl
      have e4 : v_X4_take cr rf pl pz mc a1 = (-9, cr, 0, rf + 1, pz, mc) := by
        unfold v_X4_take
        rw [if_pos h1, if_pos (show Int32.ofNat (pz - 1) = 0 by rw [q]; rfl), if_neg (by decide)]; rfl
      have e2 : v_X2_take sp la re a1 = (-9, sp, la, re + 1) := by
        unfold v_X2_take
        rw [if_neg (show ¬ 1 ≤ la by rw [q8]; decide)]; rfl
      rw [e4, e2]
      exact RO_ok (by unfold x_X2_take; rw [h2]; simp only [xo_n, ite_self]) rfl rfl ⟨hE, b, c, d, by show re + 1 = rf + 1; rw [e], f, g⟩
    · have q8 : 1 ≤ la := by rw [hla]; exact nI_le (a := 1) (by omega) (by omega)
      obtain ⟨m, hm⟩ : ∃ m : Nat, pz - 1 = m + 1 := ⟨pz - 1 - 1, by omega⟩
      have el : la - 1 = nI m := by rw [hla, hm]; exact nI_pred m
      have e2 : v_X2_take sp la re a1 = (nI m, va_up sp a1.toNatClampNeg (sp (4 + m)), nI m, re) := by
        unfold v_X2_take
        rw [if_pos q8, psp_all, el, nI_clamp (by omega)]
      have e4 : v_X4_take cr rf pl pz mc a1 = (nI m, va_up cr a1.toNatClampNeg (pl m), 0, rf, pz - 1, mc + 1) := by
        unfold v_X4_take
        rw [if_pos h1, if_neg (show ¬ Int32.ofNat (pz - 1) = 0 from fun z => by
          have := (nI_eq (a := pz - 1) (b := 0) (by omega) (by omega)).mp z
          omega), if_pos rfl, get_m]
        have : pz - 1 - 1 = m := by omega
        rw [this]; rfl
      rw [e4, e2]
      have em := d m (by omega)
      refine RO_ok (by unfold x_X2_take; rw [h2]; simp only [xo_n, ite_self]) rfl rfl ⟨?_, b, ?_, fun k hk => ?_, e, ?_, g⟩
      · show E4 (va_up sp a1.toNatClampNeg (sp (4 + m))) (va_up cr a1.toNatClampNeg (pl m))
        rw [em]
        exact E4_up hE
      · show nI m = Int32.ofNat (pz - 1 - 1)
        have : pz - 1 - 1 = m := by omega
        rw [this]; rfl
      · show va_up sp a1.toNatClampNeg (sp (4 + m)) (4 + k) = pl k
        have hk : k + 1 < pz - 1 := hk
        rw [va_up_ne _ _ (by omega)]; exact d k (by omega)
      · show pz - 1 ≤ 9
        omega
  · have e4 : v_X4_take cr rf pl pz mc a1 = (0, cr, 1, rf, pz, mc) := by
      unfold v_X4_take
      rw [if_neg h1]
    rw [e4]
    exact RO_no (E := iobN) (by unfold x_X2_take; rw [h2]; rfl) xcd_b.symm hR
/-- the sum's loops: the class's running sum is in the scratch span -/
theorem sum_w {a1 : Int32} (hi : a1.toNatClampNeg < 4) (hP : ∀ k, k + 1 < pz → sp (4 + k) = pl k) (hz : pz ≤ 9) : ∀ (n m : Nat) (t : TR), pz - 1 - m < n → m ≤ pz - 1 →
    ∃ (sp' : Nat → TR) (v : Option TR), (∀ j, j < 12 → sp' j = sp j) ∧ wX2_sum_20 (nI (pz - 1)) re a1 n (nI m) 1 (va_up sp 12 t) = cA sp' re a1.toNatClampNeg v ∧ wX4_sum__20 cr rf pl pz a1 n (nI m) t = m4 (mA cr rf a1.toNatClampNeg v) := by
  intro n
  induction n with
  | zero => intro m t h; omega
  | succ n ih =>
    intro m t hn hm
    have eo : Int32.ofNat (pz - 1) = nI (pz - 1) := rfl
    rw [wX2_sum_20, wX4_sum__20, eo]
    by_cases c : nI (pz - 1) ≤ nI m
    · rw [if_pos c, if_pos c]
      refine ⟨sp, some t, fun _ _ => rfl, cA_some (by omega), ?_⟩
      show ((v_X4_get cr a1 t).1, (v_X4_get cr a1 t).2, 0, rf) = _
      rw [get_m]; rfl
    · rw [if_neg c, if_neg c, if_neg (show ¬ (1 : Int32) = 0 by decide)]
      have c2 : ¬ pz - 1 ≤ m := fun q => c ((nI_leI (by omega) (by omega)).mpr q)
      have e12 : va_up sp 12 t 12 = t := va_up_self _ _ _
      have ek : va_up sp 12 t (4 + m) = pl m := by
        rw [va_up_ne _ _ (by omega)]; exact hP m (by omega)
      rw [psum_eq, nI_clamp (by omega), e12, ek]
      cases e : v_X4_sum t 1 (pl m) with
      | none =>
        refine ⟨va_up sp 12 t, none, fun j hj => va_up_ne _ _ (by omega), ?_, ?_⟩
        · show wX2_sum_20 (nI (pz - 1)) re a1 n (nI m + 1) 0 (va_up sp 12 t) = _
          cases n with
          | zero => omega
          | succ n =>
            rw [wX2_sum_20]
            by_cases d : nI (pz - 1) ≤ nI m + 1
            · rw [if_pos d]; rfl
            · rw [if_neg d, if_pos rfl]; rfl
        · show (if nI (pz - 1) ≤ nI m + 1 then ((v_X4_getN rf).1, cr, (0 : Int32), (v_X4_getN rf).2) else ((v_X4_getN rf).1, cr, 0, (v_X4_getN rf).2)) = _
          by_cases d : nI (pz - 1) ≤ nI m + 1
          · rw [if_pos d]; rfl
          · rw [if_neg d]; rfl
      | some u =>
        have h := ih (m + 1) u (by omega) (by omega)
        rw [← nI_1] at h
        obtain ⟨sp', v, h1, h2, h3⟩ := h
        refine ⟨sp', v, h1, ?_, h3⟩
        show wX2_sum_20 (nI (pz - 1)) re a1 n (nI m + 1) 1 (va_up (va_up sp 12 t) 12 u) = _
        rw [bx_uu]
        exact h2
theorem rl_sum {a1 : Int32} (hR : Rq sp dy la re cr dr rf pl pz) : RO (x_X2_sum a1) (v_X4_sum_ cr rf pl pz a1).2.2.1 (v_X2_sum sp la re a1).1 (v_X4_sum_ cr rf pl pz a1).1 (Rq (v_X2_sum sp la re a1).2.1 dy la (v_X2_sum sp la re a1).2.2 (v_X4_sum_ cr rf pl pz a1).2.1 dr (v_X4_sum_ cr rf pl pz a1).2.2.2 pl pz) (Rq sp dy la re (v_X4_sum_ cr rf pl pz a1).2.1 dr (v_X4_sum_ cr rf pl pz a1).2.2.2 pl pz) := by
  obtain ⟨hE, b, c, d, e, f, g⟩ := id hR
  have hla : la = nI (pz - 1) := c
  rcases ca_cs a1 with ⟨h1, h2, h3⟩ | ⟨h1, h2⟩
  · have e0 : (0 : Int32).toInt = 0 := rfl
    have ef : ((nI (pz - 1)).toInt - (0 : Int32).toInt).toNat + 1 = pz - 1 + 1 := by rw [e0, nI_toInt (by omega)]; omega
    obtain ⟨sp', v, k1, k2, k3⟩ := sum_w (sp := sp) (cr := cr) (re := re) (rf := rf) h3 d f (pz - 1 + 1) 0 (0, 0, 0) (by omega) (by omega)
    have e2 : v_X2_sum sp la re a1 = cA sp' re a1.toNatClampNeg v := by
      unfold v_X2_sum
      rw [hla, ef]
      have ep : v_X1_put sp 12 0 0 0 = (1, va_up sp 12 (0, 0, 0)) := by
        rw [put_eq]
        have : v_X4_span 0 0 0 = some (0, 0, 0) := span_32 0 0 0
        rw [this]; rfl
      rw [ep]
      exact k2
    have e4 : v_X4_sum_ cr rf pl pz a1 = m4 (mA cr rf a1.toNatClampNeg v) := by
      unfold v_X4_sum_
      have eo : Int32.ofNat (pz - 1) = nI (pz - 1) := rfl
      rw [if_pos h1, eo, ef]
      exact k3
    have hR' := RL_far hR k1 (fun j _ => rfl)
    exact pa_c hR' h3 (by unfold x_X2_sum; rw [h2]; rfl) e2 e4
  · have e4 : v_X4_sum_ cr rf pl pz a1 = (0, cr, 1, rf) := by
      unfold v_X4_sum_
      rw [if_neg h1]
    rw [e4]
    exact RO_no (E := iobN) (by unfold x_X2_sum; rw [h2]; rfl) xcd_b.symm hR
/-! what is asked -/
theorem rl_part {a1 a2 : Int32} (hR : Rq sp dy la re cr dr rf pl pz) : RO (x_X2_part a1 a2) (v_X4_part cr a1 a2).2 (v_X2_part sp a1 a2) (v_X4_part cr a1 a2).1 True True := by
  have hE := hR.1
  have l2 : (lN 2) = (2 : Int64) := rfl
  rcases wh_cs a2 3 2 rfl (by decide) with ⟨g1, g2, k, hk, rfl⟩ | ⟨g1, g2⟩
  · rw [l2] at g1
    rcases ca_cs a1 with ⟨h1, h2, h3⟩ | ⟨h1, h2⟩
    · have e : v_X4_part cr a1 (nI k) = (rw3 (cr a1.toNatClampNeg) k, 0) := by
        unfold v_X4_part
        rw [if_neg g1, if_pos h1, nI_clamp (by omega)]
      rw [e]
      refine RO_ok (by unfold x_X2_part; rw [h2, g2]; rfl) rfl ?_ trivial
      unfold v_X2_part v_X1_number rw3
      rw [hE _ h3]
      rcases (show k = 0 ∨ k = 1 ∨ k = 2 by omega) with rfl | rfl | rfl
      · rw [if_pos (show nI 0 = 0 by decide)]; rfl
      · rw [if_neg (show ¬ nI 1 = 0 by decide), if_pos (show nI 1 = 1 by decide)]; rfl
      · rw [if_neg (show ¬ nI 2 = 0 by decide), if_neg (show ¬ nI 2 = 1 by decide)]; rfl
    · have e : v_X4_part cr a1 (nI k) = (0, 1) := by
        unfold v_X4_part
        rw [if_neg g1, if_neg h1]
      rw [e]
      exact RO_no (by unfold x_X2_part; rw [h2]; rfl) xcd_b.symm trivial
  · rw [l2] at g1
    rcases ca_cs a1 with ⟨h1, h2, h3⟩ | ⟨h1, h2⟩
    · have e : v_X4_part cr a1 a2 = (0, 2) := by
        unfold v_X4_part
        rw [if_pos g1, if_pos h1]
      rw [e]
      exact RO_no (E := iaeN) (by unfold x_X2_part; rw [h2, g2]; rfl) xcd_a.symm trivial
    · have e : v_X4_part cr a1 a2 = (0, 1) := by
        unfold v_X4_part
        rw [if_pos g1, if_neg h1]
      rw [e]
      exact RO_no (by unfold x_X2_part; rw [h2]; rfl) xcd_b.symm trivial
theorem zer_eq {i : Nat} (h : sp i = cr i) : v_X1_isNothing sp i = v_X4_isSame (cr i) v_X4_nothing := by
  unfold v_X1_isNothing v_X4_isSame v_X4_nothing
  rw [h]
theorem b01 (x : Int32) (h : x = 0 ∨ x = 1) : (if x = 0 then ((0 : Int32), (0 : Int32)) else (1, 0)) = (x, 0) := by
  rcases h with rfl | rfl <;> rfl
theorem if01 {c : Prop} [Decidable c] : (if c then (1 : Int32) else 0) = 0 ∨ (if c then (1 : Int32) else 0) = 1 := by
  by_cases h : c
  · rw [if_pos h]; exact Or.inr rfl
  · rw [if_neg h]; exact Or.inl rfl
theorem same01 (a b : TR) : v_X4_isSame a b = 0 ∨ v_X4_isSame a b = 1 := by rw [same_eq]; exact if01
theorem neg01 (i : Int32) : v_X4_isNegativeNow cr i = 0 ∨ v_X4_isNegativeNow cr i = 1 := by
  unfold v_X4_isNegativeNow
  by_cases h1 : (cr i.toNatClampNeg).1 < 0
  · rw [if_pos h1]; exact Or.inr rfl
  · rw [if_neg h1]
    by_cases h2 : (cr i.toNatClampNeg).2.1 < 0
    · rw [if_pos h2]; exact Or.inr rfl
    · rw [if_neg h2]
      by_cases h3 : 0 ≤ (cr i.toNatClampNeg).2.2
      · rw [if_pos h3]; exact Or.inl rfl
      · rw [if_neg h3]; exact Or.inr rfl
theorem alike01 (a b : TR) : v_X4_isAlike a b = 0 ∨ v_X4_isAlike a b = 1 := by
  unfold v_X4_isAlike
  by_cases h1 : lg_cmp (v_X4_total a) (v_X4_total b) = 0
  · rw [if_pos h1]; exact if01
  · rw [if_neg h1]; exact Or.inl rfl
theorem neg_eq {i : Int32} (h : sp i.toNatClampNeg = cr i.toNatClampNeg) : v_X1_isBelowZero sp i.toNatClampNeg = v_X4_isNegativeNow cr i := by
  unfold v_X1_isBelowZero v_X4_isNegativeNow
  rw [h]
theorem sam_eq {i j : Nat} (h : sp i = cr i) (g : sp j = cr j) : v_X1_isSameAs sp i j = v_X4_isSame (cr i) (cr j) := by
  unfold v_X1_isSameAs v_X4_isSame
  rw [h, g]
theorem ali_eq {i j : Nat} (h : sp i = cr i) (g : sp j = cr j) : v_X1_isAlikeTo sp i j = v_X4_isAlike (cr i) (cr j) := by
  unfold v_X1_isAlikeTo v_X4_isAlike
  rw [all_tot, all_tot, h, g]
theorem rl_isZero {a1 : Int32} (hR : Rq sp dy la re cr dr rf pl pz) : RO (x_X2_isZero a1) (v_X4_isZero cr a1).2 (v_X2_isZero sp a1) (v_X4_isZero cr a1).1 True True := by
  have hE := hR.1
  rcases ca_cs a1 with ⟨h1, h2, h3⟩ | ⟨h1, h2⟩
  · have e : v_X4_isZero cr a1 = (v_X4_isSame (cr a1.toNatClampNeg) v_X4_nothing, 0) := by
      unfold v_X4_isZero v_X4_isZeroNow
      rw [if_pos h1]
      exact b01 _ (same01 _ _)
    rw [e]
    exact RO_ok (by unfold x_X2_isZero; rw [h2]; rfl) rfl (zer_eq (hE _ h3)) trivial
  · have e : v_X4_isZero cr a1 = (0, 1) := by
      unfold v_X4_isZero
      rw [if_neg h1]
    rw [e]
    exact RO_no (by unfold x_X2_isZero; rw [h2]; rfl) xcd_b.symm trivial
theorem rl_isNegative {a1 : Int32} (hR : Rq sp dy la re cr dr rf pl pz) : RO (x_X2_isNegative a1) (v_X4_isNegative cr a1).2 (v_X2_isNegative sp a1) (v_X4_isNegative cr a1).1 True True := by
  have hE := hR.1
  rcases ca_cs a1 with ⟨h1, h2, h3⟩ | ⟨h1, h2⟩
  · have e : v_X4_isNegative cr a1 = (v_X4_isNegativeNow cr a1, 0) := by
      unfold v_X4_isNegative
      rw [if_pos h1]
      exact b01 _ (neg01 _)
    rw [e]
    exact RO_ok (by unfold x_X2_isNegative; rw [h2]; rfl) rfl (neg_eq (hE _ h3)) trivial
  · have e : v_X4_isNegative cr a1 = (0, 1) := by
      unfold v_X4_isNegative
      rw [if_neg h1]
    rw [e]
    exact RO_no (by unfold x_X2_isNegative; rw [h2]; rfl) xcd_b.symm trivial
theorem rl_areSame {a1 a2 : Int32} (hR : Rq sp dy la re cr dr rf pl pz) : RO (x_X2_areSame a1 a2) (v_X4_areSame cr a1 a2).2 (v_X2_areSame sp a1 a2) (v_X4_areSame cr a1 a2).1 True True := by
  have hE := hR.1
  rcases two_c a1 a2 with ⟨h1, h2, hx, h3, h4⟩ | ⟨h1, hx⟩
  · have e : v_X4_areSame cr a1 a2 = (v_X4_isSame (cr a1.toNatClampNeg) (cr a2.toNatClampNeg), 0) := by
      unfold v_X4_areSame
      rw [if_pos h1, if_pos h2]
      exact b01 _ (same01 _ _)
    rw [e]
    exact RO_ok hx rfl (sam_eq (hE _ h3) (hE _ h4)) trivial
  · have e : v_X4_areSame cr a1 a2 = (0, 1) := by
      unfold v_X4_areSame
      exact two_n h1
    rw [e]
    exact RO_no hx xcd_b.symm trivial
theorem rl_areAlike {a1 a2 : Int32} (hR : Rq sp dy la re cr dr rf pl pz) : RO (x_X2_areAlike a1 a2) (v_X4_areAlike cr a1 a2).2 (v_X2_areAlike sp a1 a2) (v_X4_areAlike cr a1 a2).1 True True := by
  have hE := hR.1
  rcases two_c a1 a2 with ⟨h1, h2, hx, h3, h4⟩ | ⟨h1, hx⟩
  · have e : v_X4_areAlike cr a1 a2 = (v_X4_isAlike (cr a1.toNatClampNeg) (cr a2.toNatClampNeg), 0) := by
      unfold v_X4_areAlike
      rw [if_pos h1, if_pos h2]
      exact b01 _ (alike01 _ _)
    rw [e]
    exact RO_ok hx rfl (ali_eq (hE _ h3) (hE _ h4)) trivial
  · have e : v_X4_areAlike cr a1 a2 = (0, 1) := by
      unfold v_X4_areAlike
      exact two_n h1
    rw [e]
    exact RO_no hx xcd_b.symm trivial
end RLT
end
section
/-! method by method: dates, the whole -/
section RLU
variable {sp dy cr dr pl : Nat → TR} {la re rf : Int32} {pz : Nat}
theorem pdy_all {j k : Nat} : v_X0_putDay dy j k = va_up dy j (dy k) := rfl
theorem cal_eq {a2 a3 a4 : Int32} : v_X2_isInCalendar a2 a3 a4 = 0 ↔ ¬ (¬ v_X4_isIn a2.toInt64 1600 2400 = 0 ∧ ¬ v_X4_isIn a3.toInt64 1 12 = 0 ∧ ¬ v_X4_isIn a4.toInt64 1 (v_X4_length a2 a3).toInt64 = 0) := by
  have i1 := in_iff (x := a2.toInt64) (a := 1600) (b := 2400)
  have i2 := in_iff (x := a3.toInt64) (a := 1) (b := 12)
  have i3 := in_iff (x := a4.toInt64) (a := 1) (b := (v_X4_length a2 a3).toInt64)
  rw [Int64.le_iff_toInt_le, Int64.le_iff_toInt_le, Int32.toInt_toInt64] at i1 i2 i3
  rw [Int32.toInt_toInt64] at i3
  have z1 : (1600 : Int64).toInt = 1600 := rfl
  have z2 : (2400 : Int64).toInt = 2400 := rfl
  have z3 : (1 : Int64).toInt = 1 := rfl
  have z4 : (12 : Int64).toInt = 12 := rfl
  have y1 : (1600 : Int32).toInt = 1600 := rfl
  have y2 : (2400 : Int32).toInt = 2400 := rfl
  have y3 : (1 : Int32).toInt = 1 := rfl
  have y4 : (12 : Int32).toInt = 12 := rfl
  rw [i1, i2, i3, z1, z2, z3, z4]
  unfold v_X2_isInCalendar
  by_cases h1 : a2 < 1600
  · rw [if_pos h1]
    rw [Int32.lt_iff_toInt_lt] at h1
    exact ⟨fun _ q => by omega, fun _ => rfl⟩
  · rw [if_neg h1]
    rw [Int32.lt_iff_toInt_lt] at h1
    by_cases h2 : 2400 < a2
    · rw [if_pos h2]
      rw [Int32.lt_iff_toInt_lt] at h2
      exact ⟨fun _ q => by omega, fun _ => rfl⟩
    · rw [if_neg h2]
      rw [Int32.lt_iff_toInt_lt] at h2
      by_cases h3 : a3 < 1
      · rw [if_pos h3]
        rw [Int32.lt_iff_toInt_lt] at h3
        exact ⟨fun _ q => by omega, fun _ => rfl⟩
      · rw [if_neg h3]
        rw [Int32.lt_iff_toInt_lt] at h3
        by_cases h4 : a3 ≤ 12
        · rw [if_pos h4]
          rw [Int32.le_iff_toInt_le] at h4
          rw [dom_len' (by omega) (by omega)]
          by_cases h5 : a4 < 1
          · rw [if_pos h5]
            rw [Int32.lt_iff_toInt_lt] at h5
            exact ⟨fun _ q => by omega, fun _ => rfl⟩
          · rw [if_neg h5]
            rw [Int32.lt_iff_toInt_lt] at h5
            by_cases h6 : v_X4_length a2 a3 < a4
            · rw [if_pos h6]
              rw [Int32.lt_iff_toInt_lt] at h6
              exact ⟨fun _ q => by omega, fun _ => rfl⟩
            · rw [if_neg h6]
              rw [Int32.lt_iff_toInt_lt] at h6
              exact ⟨fun q => absurd q (by decide), fun q => absurd ⟨by omega, by omega, by omega⟩ q⟩
        · rw [if_neg h4]
          rw [Int32.le_iff_toInt_le] at h4
          exact ⟨fun _ q => by omega, fun _ => rfl⟩
theorem rl_date {a1 a2 a3 a4 : Int32} (hR : Rq sp dy la re cr dr rf pl pz) : RO (x_X2_date a1 a2 a3 a4) (v_X4_date dr a1 a2 a3 a4).2.2 (v_X2_date dy re a1 a2 a3 a4).1 (v_X4_date dr a1 a2 a3 a4).1 (Rq sp (v_X2_date dy re a1 a2 a3 a4).2.1 la (v_X2_date dy re a1 a2 a3 a4).2.2 cr (v_X4_date dr a1 a2 a3 a4).2.1 rf pl pz) (Rq sp dy la re cr (v_X4_date dr a1 a2 a3 a4).2.1 rf pl pz) := by
  have hc := cal_eq (a2 := a2) (a3 := a3) (a4 := a4)
  by_cases q : ¬ v_X4_isIn a2.toInt64 1600 2400 = 0 ∧ ¬ v_X4_isIn a3.toInt64 1 12 = 0 ∧ ¬ v_X4_isIn a4.toInt64 1 (v_X4_length a2 a3).toInt64 = 0
  · obtain ⟨q1, q2, q3⟩ := id q
    have hc2 : ¬ v_X2_isInCalendar a2 a3 a4 = 0 := fun z => hc.mp z q
    have ho : okv (a2, a3, a4) := by
      refine ⟨isin_okd q1 q2 q3, ?_⟩
      have := (in_iff.mp q3).2
      rw [Int64.le_iff_toInt_le, Int32.toInt_toInt64, Int32.toInt_toInt64] at this
      exact this
    rcases da_cs a1 with ⟨h1, h2, h3⟩ | ⟨h1, h2⟩
    · obtain ⟨r1, r2, r3⟩ := RL_d hR h3
      refine pa_d3 (t := (a2, a3, a4)) hR h3 ho (by unfold x_X2_date; rw [h2]; show (if v_X2_isInCalendar a2 a3 a4 = 0 then some iaeN else none) = none; rw [if_neg hc2]) ?_ ?_
      · unfold v_X2_date
        rw [if_neg hc2, pe3]
        exact cD_some (by omega) r1 ho
      · unfold v_X4_date
        rw [if_neg q1, if_neg q2, if_neg q3, if_pos h1, bec_m r2 ho]
        rfl
    · have e : v_X4_date dr a1 a2 a3 a4 = (0, dr, 1) := by
        unfold v_X4_date
        rw [if_neg q1, if_neg q2, if_neg q3, if_neg h1]
      rw [e]
      exact RO_no (E := iobN) (by unfold x_X2_date; rw [h2]; rfl) xcd_b.symm hR
  · have hc2 : v_X2_isInCalendar a2 a3 a4 = 0 := hc.mpr q
    rcases da_cs a1 with ⟨h1, h2, h3⟩ | ⟨h1, h2⟩
    · have e : v_X4_date dr a1 a2 a3 a4 = (0, dr, 2) := by
        unfold v_X4_date
        by_cases q1 : v_X4_isIn a2.toInt64 1600 2400 = 0
        · rw [if_pos q1, if_pos h1]
        · rw [if_neg q1]
          by_cases q2 : v_X4_isIn a3.toInt64 1 12 = 0
          · rw [if_pos q2, if_pos h1]
          · rw [if_neg q2]
            by_cases q3 : v_X4_isIn a4.toInt64 1 (v_X4_length a2 a3).toInt64 = 0
            · rw [if_pos q3, if_pos h1]
            · exact absurd ⟨q1, q2, q3⟩ q
      rw [e]
      exact RO_no (E := iaeN) (by unfold x_X2_date; rw [h2]; show (if v_X2_isInCalendar a2 a3 a4 = 0 then some iaeN else none) = some iaeN; rw [if_pos hc2]) xcd_a.symm hR
    · have e : v_X4_date dr a1 a2 a3 a4 = (0, dr, 1) := by
        unfold v_X4_date
        by_cases q1 : v_X4_isIn a2.toInt64 1600 2400 = 0
        · rw [if_pos q1, if_neg h1]
        · rw [if_neg q1]
          by_cases q2 : v_X4_isIn a3.toInt64 1 12 = 0
          · rw [if_pos q2, if_neg h1]
          · rw [if_neg q2]
            by_cases q3 : v_X4_isIn a4.toInt64 1 (v_X4_length a2 a3).toInt64 = 0
            · rw [if_pos q3, if_neg h1]
            · exact absurd ⟨q1, q2, q3⟩ q
      rw [e]
      exact RO_no (E := iobN) (by unfold x_X2_date; rw [h2]; rfl) xcd_b.symm hR
theorem two_d (a1 a2 : Int32) : (v_X4_isNone a1 = 0 ∧ v_X4_isNone a2 = 0 ∧ xo (x_X2_dateAt a1) (xo (x_X2_dateAt a2) none) = none ∧ a1.toNatClampNeg < 4 ∧ a2.toNatClampNeg < 4) ∨ ((¬ v_X4_isNone a1 = 0 ∨ (v_X4_isNone a1 = 0 ∧ ¬ v_X4_isNone a2 = 0)) ∧ xo (x_X2_dateAt a1) (xo (x_X2_dateAt a2) none) = some iobN) := two_c a1 a2
theorem two_m (a1 a2 : Int32) : (v_X4_isNone a1 = 0 ∧ v_X4_isNone a2 = 0 ∧ xo (x_X2_dateAt a1) (xo (x_X2_cardAt a2) none) = none ∧ a1.toNatClampNeg < 4 ∧ a2.toNatClampNeg < 4) ∨ ((¬ v_X4_isNone a1 = 0 ∨ (v_X4_isNone a1 = 0 ∧ ¬ v_X4_isNone a2 = 0)) ∧ xo (x_X2_dateAt a1) (xo (x_X2_cardAt a2) none) = some iobN) := two_c a1 a2
theorem rl_copyDate {a1 a2 : Int32} (hR : Rq sp dy la re cr dr rf pl pz) : RO (x_X2_copyDate a1 a2) (v_X4_copyDate dr a1 a2).2.2 (v_X2_copyDate dy re a1 a2).1 (v_X4_copyDate dr a1 a2).1 (Rq sp (v_X2_copyDate dy re a1 a2).2.1 la (v_X2_copyDate dy re a1 a2).2.2 cr (v_X4_copyDate dr a1 a2).2.1 rf pl pz) (Rq sp dy la re cr (v_X4_copyDate dr a1 a2).2.1 rf pl pz) := by
  rcases two_d a1 a2 with ⟨h1, h2, hx, h3, h4⟩ | ⟨h1, hx⟩
  · obtain ⟨r1, r2, r3⟩ := RL_d hR h3
    obtain ⟨s1, s2, s3⟩ := RL_d hR h4
    refine pa_d3 (t := dr a2.toNatClampNeg) hR h3 s2 hx ?_ ?_
    · unfold v_X2_copyDate
      rw [pe3, pdy_all, s3]
      exact cD_some (by omega) r1 s2
    · unfold v_X4_copyDate
      rw [if_pos h1, if_pos h2, bec_m r2 s2]
      rfl
  · have e : v_X4_copyDate dr a1 a2 = (0, dr, 1) := by
      unfold v_X4_copyDate
      exact two_n h1
    rw [e]
    exact RO_no hx xcd_b.symm hR
theorem sgn_0 : sgn 0 = 1 := rfl
theorem sgn_1 : sgn 1 = -1 := rfl
theorem rl_move {a1 a2 : Int32} (hR : Rq sp dy la re cr dr rf pl pz) : RO (x_X2_move a1 a2) (v_X4_move cr dr rf a1 a2).2.2.1 (v_X2_move sp dy re a1 a2).1 (v_X4_move cr dr rf a1 a2).1 (Rq sp (v_X2_move sp dy re a1 a2).2.1 la (v_X2_move sp dy re a1 a2).2.2 cr (v_X4_move cr dr rf a1 a2).2.1 (v_X4_move cr dr rf a1 a2).2.2.2 pl pz) (Rq sp dy la re cr (v_X4_move cr dr rf a1 a2).2.1 (v_X4_move cr dr rf a1 a2).2.2.2 pl pz) := by
  have hE := hR.1
  rcases two_m a1 a2 with ⟨h1, h2, hx, h3, h4⟩ | ⟨h1, hx⟩
  · obtain ⟨r1, r2, r3⟩ := RL_d hR h3
    have hv : ∀ t, v_X4_onBy (dr a1.toNatClampNeg) (cr a2.toNatClampNeg) 1 = some t → okv t := fun t h => onBy_okv h r2.1 (Or.inl rfl)
    refine pa_d (v := v_X4_onBy (dr a1.toNatClampNeg) (cr a2.toNatClampNeg) 1) hR h3 hv hx ?_ ?_
    · unfold v_X2_move
      rw [pe3, rch_eq r1.1, sgn_0, r3, hE _ h4]
      exact act_d (by omega) r1 hv
    · unfold v_X4_move
      rw [if_pos h1, if_pos h2]
      exact om_bec r2 hv
  · have e : v_X4_move cr dr rf a1 a2 = (0, dr, 1, rf) := by
      unfold v_X4_move
      exact two_n h1
    rw [e]
    exact RO_no hx xcd_b.symm hR
theorem rl_back {a1 a2 : Int32} (hR : Rq sp dy la re cr dr rf pl pz) : RO (x_X2_back a1 a2) (v_X4_back cr dr rf a1 a2).2.2.1 (v_X2_back sp dy re a1 a2).1 (v_X4_back cr dr rf a1 a2).1 (Rq sp (v_X2_back sp dy re a1 a2).2.1 la (v_X2_back sp dy re a1 a2).2.2 cr (v_X4_back cr dr rf a1 a2).2.1 (v_X4_back cr dr rf a1 a2).2.2.2 pl pz) (Rq sp dy la re cr (v_X4_back cr dr rf a1 a2).2.1 (v_X4_back cr dr rf a1 a2).2.2.2 pl pz) := by
  have hE := hR.1
  rcases two_m a1 a2 with ⟨h1, h2, hx, h3, h4⟩ | ⟨h1, hx⟩
  · obtain ⟨r1, r2, r3⟩ := RL_d hR h3
    have hv : ∀ t, v_X4_onBy (dr a1.toNatClampNeg) (cr a2.toNatClampNeg) (-1) = some t → okv t := fun t h => onBy_okv h r2.1 (Or.inr rfl)
    refine pa_d (v := v_X4_onBy (dr a1.toNatClampNeg) (cr a2.toNatClampNeg) (-1)) hR h3 hv hx ?_ ?_
    · unfold v_X2_back
      rw [pe3, rch_eq r1.1, sgn_1, r3, hE _ h4]
      exact act_d (by omega) r1 hv
    · unfold v_X4_back
      rw [if_pos h1, if_pos h2]
      exact om_bec r2 hv
  · have e : v_X4_back cr dr rf a1 a2 = (0, dr, 1, rf) := by
      unfold v_X4_back
      exact two_n h1
    rw [e]
    exact RO_no hx xcd_b.symm hR
/-- walking -/
theorem walk_w {a1 a2 a3 : Int32} (hi : a1.toNatClampNeg < 4) (hk : a2.toNatClampNeg < 4) (hE : E4 sp cr) {N : Nat} (h3 : a3 = nI N) (hN : N ≤ 12) : ∀ (n m : Nat) (dy dr : Nat → TR), N - m < n → m ≤ N → E4 dy dr → (∀ i, i < 4 → okv (dr i)) →
    (wX2_walk_38 sp a1 a2 a3 n (nI m) dy).1 = (wX4_walk_48 cr a1 a2 a3 n (nI m) dr).1 ∧ E4 (wX2_walk_38 sp a1 a2 a3 n (nI m) dy).2 (wX4_walk_48 cr a1 a2 a3 n (nI m) dr).2.1 ∧ (wX4_walk_48 cr a1 a2 a3 n (nI m) dr).2.2 = 0 ∧ ∀ i, i < 4 → okv ((wX4_walk_48 cr a1 a2 a3 n (nI m) dr).2.1 i) := by
  intro n
  induction n with
  | zero => intro m dy dr h; omega
  | succ n ih =>
    intro m dy dr hn hm hD hv
    have r2 := hv _ hi
    have r3 := hD _ hi
    have r1 : okv (dy a1.toNatClampNeg) := by rw [r3]; exact r2
    rw [wX2_walk_38, wX4_walk_48, h3]
    by_cases c : nI N ≤ nI m
    · rw [if_pos c, if_pos c]
      exact ⟨rfl, hD, rfl, hv⟩
    · rw [if_neg c, if_neg c, rch_eq r1.1, sgn_0, r3, hE _ hk]
      have c2 : ¬ N ≤ m := fun q => c ((nI_leI (by omega) (by omega)).mpr q)
      cases e : v_X4_onBy (dr a1.toNatClampNeg) (cr a2.toNatClampNeg) 1 with
      | none =>
        show (if (0 : Int32) = 0 then (nI m, dy) else _).1 = nI m ∧ E4 (if (0 : Int32) = 0 then (nI m, dy) else _).2 dr ∧ (0 : Int32) = 0 ∧ ∀ i, i < 4 → okv (dr i)
        rw [if_pos rfl]
        exact ⟨rfl, hD, rfl, hv⟩
      | some t =>
        have ht := onBy_okv e r2.1 (Or.inl rfl)
        rw [om_s, om_s, if_neg (show ¬ ((1 : Int32), va_up dy 4 t).1 = 0 from (by decide : ¬ (1 : Int32) = 0)), bec_m r2 ht, nI_1, ← h3]
        have ep : v_X0_putDay (va_up dy 4 t) a1.toNatClampNeg 4 = va_up (va_up dy 4 t) a1.toNatClampNeg t := by
          rw [pdy_all, va_up_self]
        show (wX2_walk_38 sp a1 a2 a3 n (nI (m + 1)) (v_X0_putDay (va_up dy 4 t) a1.toNatClampNeg 4)).1 = _ ∧ E4 (wX2_walk_38 sp a1 a2 a3 n (nI (m + 1)) (v_X0_putDay (va_up dy 4 t) a1.toNatClampNeg 4)).2 _ ∧ _
        rw [ep]
        refine ih (m + 1) _ _ (by omega) (by omega) (E4_up (E4_far hD (by omega))) (fun i hi => ?_)
        by_cases q : i = a1.toNatClampNeg
        · show okv (va_up dr a1.toNatClampNeg t i)
          rw [q, va_up_self]; exact ht
        · show okv (va_up dr a1.toNatClampNeg t i)
          rw [va_up_ne _ _ q]; exact hv i hi
theorem many_cs (a : Int32) : (¬ v_X4_isIn a.toInt64 1 12 = 0 ∧ ¬ a < 1 ∧ a ≤ 12 ∧ ∃ N : Nat, N ≤ 12 ∧ a = nI N) ∨ (v_X4_isIn a.toInt64 1 12 = 0 ∧ (a < 1 ∨ (¬ a < 1 ∧ ¬ a ≤ 12))) := by
  have hi := in_iff (x := a.toInt64) (a := 1) (b := 12)
  have z3 : (1 : Int64).toInt = 1 := rfl
  have z4 : (12 : Int64).toInt = 12 := rfl
  have y3 : (1 : Int32).toInt = 1 := rfl
  have y4 : (12 : Int32).toInt = 12 := rfl
  rw [Int64.le_iff_toInt_le, Int64.le_iff_toInt_le, Int32.toInt_toInt64, z3, z4] at hi
  by_cases h1 : a < 1
  · have h := h1
    rw [Int32.lt_iff_toInt_lt] at h
    exact Or.inr ⟨Classical.byContradiction fun q => by have := hi.mp q; omega, Or.inl h1⟩
  · have h := h1
    rw [Int32.lt_iff_toInt_lt] at h
    by_cases h2 : a ≤ 12
    · have g := h2
      rw [Int32.le_iff_toInt_le] at g
      exact Or.inl ⟨hi.mpr (by omega), h1, h2, a.toInt.toNat, by omega, Int32.toInt_inj.mp (by rw [nI_toInt (by omega)]; omega)⟩
    · have g := h2
      rw [Int32.le_iff_toInt_le] at g
      exact Or.inr ⟨Classical.byContradiction fun q => by have := hi.mp q; omega, Or.inr ⟨h1, h2⟩⟩
theorem rl_walk {a1 a2 a3 : Int32} (hR : Rq sp dy la re cr dr rf pl pz) : RO (x_X2_walk a1 a2 a3) (v_X4_walk cr dr a1 a2 a3).2.2 (v_X2_walk sp dy a1 a2 a3).1 (v_X4_walk cr dr a1 a2 a3).1 (Rq sp (v_X2_walk sp dy a1 a2 a3).2 la re cr (v_X4_walk cr dr a1 a2 a3).2.1 rf pl pz) (Rq sp dy la re cr (v_X4_walk cr dr a1 a2 a3).2.1 rf pl pz) := by
  obtain ⟨hE, b, c, d, e, f, g⟩ := id hR
  rcases da_cs a1 with ⟨h1, h2, h3⟩ | ⟨h1, h2⟩
  · rcases ca_cs a2 with ⟨g1, g2, g3⟩ | ⟨g1, g2⟩
    · rcases many_cs a3 with ⟨m1, m2, m3, N, hN, eN⟩ | ⟨m1, m2⟩
      · have e0 : (0 : Int32).toInt = 0 := rfl
        have ef : (a3.toInt - (0 : Int32).toInt).toNat + 1 = N + 1 := by rw [e0, eN, nI_toInt (by omega)]; omega
        have e2 : v_X2_walk sp dy a1 a2 a3 = wX2_walk_38 sp a1 a2 a3 (N + 1) (nI 0) dy := by
          unfold v_X2_walk
          rw [if_neg m2, if_pos m3, ef]; rfl
        have e4 : v_X4_walk cr dr a1 a2 a3 = wX4_walk_48 cr a1 a2 a3 (N + 1) (nI 0) dr := by
          unfold v_X4_walk
          rw [if_pos h1, if_pos g1, if_neg m1, ef]; rfl
        obtain ⟨k1, k2, k3, k4⟩ := walk_w (sp := sp) (cr := cr) h3 g3 hE eN hN (N + 1) 0 dy dr (by omega) (by omega) b g
        rw [e2, e4]
        exact RO_ok (by unfold x_X2_walk; rw [h2, g2, xo_n, xo_n, if_neg m2, if_pos m3]) k3 k1 ⟨hE, k2, c, d, e, f, k4⟩
      · have e4 : v_X4_walk cr dr a1 a2 a3 = (0, dr, 2) := by
          unfold v_X4_walk
          rw [if_pos h1, if_pos g1, if_pos m1]
        rw [e4]
        refine RO_no (E := iaeN) ?_ xcd_a.symm hR
        unfold x_X2_walk
        rw [h2, g2, xo_n, xo_n]
        rcases m2 with m2 | ⟨m2, m3⟩
        · rw [if_pos m2]
        · rw [if_neg m2, if_neg m3]
    · have e4 : v_X4_walk cr dr a1 a2 a3 = (0, dr, 1) := by
        unfold v_X4_walk
        rw [if_pos h1, if_neg g1]
        by_cases q : v_X4_isIn a3.toInt64 1 12 = 0
        · rw [if_pos q]
        · rw [if_neg q]
      rw [e4]
      exact RO_no (E := iobN) (by unfold x_X2_walk; rw [h2, g2]; rfl) xcd_b.symm hR
  · have e4 : v_X4_walk cr dr a1 a2 a3 = (0, dr, 1) := by
      unfold v_X4_walk
      rw [if_neg h1]
      by_cases q : v_X4_isIn a3.toInt64 1 12 = 0
      · rw [if_pos q]
      · rw [if_neg q]
    rw [e4]
    exact RO_no (E := iobN) (by unfold x_X2_walk; rw [h2]; rfl) xcd_b.symm hR
theorem rl_between {a1 a2 a3 : Int32} (hR : Rq sp dy la re cr dr rf pl pz) : RO (x_X2_between a1 a2 a3) (v_X4_between cr dr rf a1 a2 a3).2.2.1 (v_X2_between sp dy re a1 a2 a3).1 (v_X4_between cr dr rf a1 a2 a3).1 (Rq (v_X2_between sp dy re a1 a2 a3).2.1 dy la (v_X2_between sp dy re a1 a2 a3).2.2 (v_X4_between cr dr rf a1 a2 a3).2.1 dr (v_X4_between cr dr rf a1 a2 a3).2.2.2 pl pz) (Rq sp dy la re (v_X4_between cr dr rf a1 a2 a3).2.1 dr (v_X4_between cr dr rf a1 a2 a3).2.2.2 pl pz) := by
  rcases ca_cs a1 with ⟨h1, h2, h3⟩ | ⟨h1, h2⟩
  · rcases two_d a2 a3 with ⟨g1, g2, gx, g3, g4⟩ | ⟨g1, gx⟩
    · obtain ⟨r1, r2, r3⟩ := RL_d hR g3
      obtain ⟨s1, s2, s3⟩ := RL_d hR g4
      refine pa_c (v := v_X4_apart (dr a2.toNatClampNeg) (dr a3.toNatClampNeg)) hR h3 (by unfold x_X2_between x_X2_actByBetween; rw [h2, gx]; rfl) ?_ ?_
      · unfold v_X2_between
        rw [pe3]
        unfold v_X2_actByBetween
        rw [pe3, btw_eq r1.1 s1.1, r3, s3]
        exact act_c (by omega)
      · unfold v_X4_between
        rw [if_pos h1, if_pos g1, if_pos g2]
        exact om_get
    · have e4 : v_X4_between cr dr rf a1 a2 a3 = (0, cr, 1, rf) := by
        unfold v_X4_between
        rw [if_pos h1]
        exact two_n g1
      rw [e4]
      exact RO_no (E := iobN) (by unfold x_X2_between x_X2_actByBetween; rw [h2, gx]; rfl) xcd_b.symm hR
  · have e4 : v_X4_between cr dr rf a1 a2 a3 = (0, cr, 1, rf) := by
      unfold v_X4_between
      rw [if_neg h1]
    rw [e4]
    exact RO_no (E := iobN) (by unfold x_X2_between x_X2_actByBetween; rw [h2]; rfl) xcd_b.symm hR
theorem rl_until {a1 a2 a3 : Int32} (hR : Rq sp dy la re cr dr rf pl pz) : RO (x_X2_until a1 a2 a3) (v_X4_until cr dr rf a1 a2 a3).2.2.1 (v_X2_until sp dy re a1 a2 a3).1 (v_X4_until cr dr rf a1 a2 a3).1 (Rq (v_X2_until sp dy re a1 a2 a3).2.1 dy la (v_X2_until sp dy re a1 a2 a3).2.2 (v_X4_until cr dr rf a1 a2 a3).2.1 dr (v_X4_until cr dr rf a1 a2 a3).2.2.2 pl pz) (Rq sp dy la re (v_X4_until cr dr rf a1 a2 a3).2.1 dr (v_X4_until cr dr rf a1 a2 a3).2.2.2 pl pz) := by
  have h := rl_between (a1 := a1) (a2 := a2) (a3 := a3) hR
  unfold v_X4_until
  rw [pe4]
  unfold v_X2_until x_X2_until
  unfold v_X2_between x_X2_between at h
  exact h
theorem rl_ofDate {a1 a2 : Int32} (hR : Rq sp dy la re cr dr rf pl pz) : RO (x_X2_ofDate a1 a2) (v_X4_ofDate dr a1 a2).2 (v_X2_ofDate dy a1 a2) (v_X4_ofDate dr a1 a2).1 True True := by
  have l3 : (lN 3) = (3 : Int64) := rfl
  rcases wh_cs a2 4 3 rfl (by decide) with ⟨g1, g2, k, hk, rfl⟩ | ⟨g1, g2⟩
  · rw [l3] at g1
    rcases da_cs a1 with ⟨h1, h2, h3⟩ | ⟨h1, h2⟩
    · obtain ⟨r1, r2, r3⟩ := RL_d hR h3
      have e : v_X4_ofDate dr a1 (nI k) = (v_X4_ofDateNow dr a1 (nI k), 0) := by
        unfold v_X4_ofDate
        rw [if_neg g1, if_pos h1]
      rw [e]
      refine RO_ok (by unfold x_X2_ofDate; rw [h2, g2]; rfl) rfl ?_ trivial
      unfold v_X2_ofDate v_X0_number v_X4_ofDateNow v_X0_dayNumber
      rw [num_t r1.1, r3, nI_clamp (by omega)]
      unfold rw3
      rcases (show k = 0 ∨ k = 1 ∨ k = 2 ∨ k = 3 by omega) with rfl | rfl | rfl | rfl
      · rw [if_pos (show nI 0 = 0 by decide), if_neg (show ¬ nI 0 = 3 by decide)]; rfl
      · rw [if_neg (show ¬ nI 1 = 0 by decide), if_pos (show nI 1 = 1 by decide), if_neg (show ¬ nI 1 = 3 by decide)]; rfl
      · rw [if_neg (show ¬ nI 2 = 0 by decide), if_neg (show ¬ nI 2 = 1 by decide), if_pos (show nI 2 = 2 by decide), if_neg (show ¬ nI 2 = 3 by decide)]; rfl
      · rw [if_neg (show ¬ nI 3 = 0 by decide), if_neg (show ¬ nI 3 = 1 by decide), if_neg (show ¬ nI 3 = 2 by decide), if_pos (show nI 3 = 3 by decide)]
    · have e : v_X4_ofDate dr a1 (nI k) = (0, 1) := by
        unfold v_X4_ofDate
        rw [if_neg g1, if_neg h1]
      rw [e]
      exact RO_no (E := iobN) (by unfold x_X2_ofDate; rw [h2]; rfl) xcd_b.symm trivial
  · rw [l3] at g1
    rcases da_cs a1 with ⟨h1, h2, h3⟩ | ⟨h1, h2⟩
    · have e : v_X4_ofDate dr a1 a2 = (0, 2) := by
        unfold v_X4_ofDate
        rw [if_pos g1, if_pos h1]
      rw [e]
      exact RO_no (E := iaeN) (by unfold x_X2_ofDate; rw [h2, g2]; rfl) xcd_a.symm trivial
    · have e : v_X4_ofDate dr a1 a2 = (0, 1) := by
        unfold v_X4_ofDate
        rw [if_pos g1, if_neg h1]
      rw [e]
      exact RO_no (E := iobN) (by unfold x_X2_ofDate; rw [h2]; rfl) xcd_b.symm trivial
theorem ordn_eq {i j : Int32} (hi : okv (dy i.toNatClampNeg)) (hj : okv (dy j.toNatClampNeg)) (ei : dy i.toNatClampNeg = dr i.toNatClampNeg) (ej : dy j.toNatClampNeg = dr j.toNatClampNeg) : v_X0_orderTo dy i.toNatClampNeg j.toNatClampNeg = v_X4_orderNow dr i j := by
  have b1 := num_bd hi
  have b2 := num_bd hj
  rw [ord_eq hi.1 hj.1]
  unfold v_X4_orderNow
  rw [ei, ej] at *
  generalize v_X4_number (dr i.toNatClampNeg) = x at *
  generalize v_X4_number (dr j.toNatClampNeg) = y at *
  have e := sub_i (x := x) (y := y) (by omega) (by omega)
  have e0 : (0 : Int32).toInt = 0 := rfl
  by_cases h1 : y ≤ x
  · have g1 := h1
    rw [Int32.le_iff_toInt_le] at g1
    rw [if_pos h1, if_pos (show 0 ≤ x - y by rw [Int32.le_iff_toInt_le]; omega)]
    by_cases h2 : x ≤ y
    · have g2 := h2
      rw [Int32.le_iff_toInt_le] at g2
      rw [if_pos h2, if_pos (show x - y ≤ 0 by rw [Int32.le_iff_toInt_le]; omega)]
      rfl
    · have g2 := h2
      rw [Int32.le_iff_toInt_le] at g2
      rw [if_neg h2, if_neg (show ¬ x - y ≤ 0 by rw [Int32.le_iff_toInt_le]; omega)]
      rfl
  · have g1 := h1
    rw [Int32.le_iff_toInt_le] at g1
    rw [if_neg h1, if_neg (show ¬ 0 ≤ x - y by rw [Int32.le_iff_toInt_le]; omega)]
theorem rl_order {a1 a2 : Int32} (hR : Rq sp dy la re cr dr rf pl pz) : RO (x_X2_order a1 a2) (v_X4_order dr a1 a2).2 (v_X2_order dy a1 a2) (v_X4_order dr a1 a2).1 True True := by
  rcases two_d a1 a2 with ⟨h1, h2, hx, h3, h4⟩ | ⟨h1, hx⟩
  · obtain ⟨r1, r2, r3⟩ := RL_d hR h3
    obtain ⟨s1, s2, s3⟩ := RL_d hR h4
    have e : v_X4_order dr a1 a2 = (v_X4_orderNow dr a1 a2, 0) := by
      unfold v_X4_order
      rw [if_pos h1, if_pos h2]
    rw [e]
    exact RO_ok hx rfl (ordn_eq r1 s1 r3 s3) trivial
  · have e : v_X4_order dr a1 a2 = (0, 1) := by
      unfold v_X4_order
      exact two_n h1
    rw [e]
    exact RO_no hx xcd_b.symm trivial
theorem told_eq {i j : Nat} (hi : okv (dy i)) (hj : okv (dy j)) (h4 : j ≠ 4) (a1 a2 : Int32) (e1 : dy i = dr a1.toNatClampNeg) (e2 : dy j = dr a2.toNatClampNeg) :
    (if (v_X1_putBetween sp dy 12 i j).1 = 0 then (0 : Int32) else if (v_X2_leads (v_X1_putBetween sp dy 12 i j).2 dy i 12 j).1 = 0 then 0 else 1) = v_X4_leadsBack dr a1 a2 := by
  rw [btw_eq hi.1 hj.1]
  unfold v_X4_leadsBack
  rw [← e1, ← e2]
  cases e : v_X4_apart (dy i) (dy j) with
  | none => rfl
  | some t =>
    show (if (1 : Int32) = 0 then (0 : Int32) else if (v_X2_leads (va_up sp 12 t) dy i 12 j).1 = 0 then 0 else 1) = _
    rw [if_neg (by decide), lds_eq hi.1 hj.1 h4, va_up_self]
    show _ = om (v_X4_onBy (dy i) t 1) 0 (fun t7 => if v_X4_number t7 = v_X4_number (dy j) then 1 else 0)
    cases e2 : v_X4_onBy (dy i) t 1 with
    | none => rfl
    | some u =>
      show (if (if v_X4_number u = v_X4_number (dy j) then (1 : Int32) else 0) = 0 then (0 : Int32) else 1) = if v_X4_number u = v_X4_number (dy j) then 1 else 0
      by_cases c : v_X4_number u = v_X4_number (dy j)
      · rw [if_pos c, if_neg (by decide)]
      · rw [if_neg c, if_pos rfl]
theorem lb01 (a1 a2 : Int32) : v_X4_leadsBack dr a1 a2 = 0 ∨ v_X4_leadsBack dr a1 a2 = 1 := by
  unfold v_X4_leadsBack
  cases v_X4_apart (dr a1.toNatClampNeg) (dr a2.toNatClampNeg) with
  | none => exact Or.inl rfl
  | some t =>
    show om (v_X4_onBy (dr a1.toNatClampNeg) t 1) 0 (fun t7 => if v_X4_number t7 = v_X4_number (dr a2.toNatClampNeg) then (1 : Int32) else 0) = 0 ∨ om (v_X4_onBy (dr a1.toNatClampNeg) t 1) 0 (fun t7 => if v_X4_number t7 = v_X4_number (dr a2.toNatClampNeg) then (1 : Int32) else 0) = 1
    cases v_X4_onBy (dr a1.toNatClampNeg) t 1 with
    | none => exact Or.inl rfl
    | some u => exact if01
theorem rl_isToldBack {a1 a2 : Int32} (hR : Rq sp dy la re cr dr rf pl pz) : RO (x_X2_isToldBack sp dy a1 a2) (v_X4_isToldBack dr a1 a2).2 (v_X2_isToldBack sp dy a1 a2).1 (v_X4_isToldBack dr a1 a2).1 (Rq (v_X2_isToldBack sp dy a1 a2).2.1 (v_X2_isToldBack sp dy a1 a2).2.2 la re cr dr rf pl pz) True := by
  rcases two_d a1 a2 with ⟨h1, h2, hx, h3, h4⟩ | ⟨h1, hx⟩
  · obtain ⟨r1, r2, r3⟩ := RL_d hR h3
    obtain ⟨s1, s2, s3⟩ := RL_d hR h4
    have e : v_X4_isToldBack dr a1 a2 = (v_X4_leadsBack dr a1 a2, 0) := by
      unfold v_X4_isToldBack
      rw [if_pos h1, if_pos h2]
      exact b01 _ (lb01 _ _)
    have et := told_eq (sp := sp) r1 s1 (by omega) a1 a2 r3 s3
    rw [e]
    have q1 : ∀ j, j < 12 → (v_X1_putBetween sp dy 12 a1.toNatClampNeg a2.toNatClampNeg).2 j = sp j := by
      rw [btw_eq r1.1 s1.1]
      cases v_X4_apart (dy a1.toNatClampNeg) (dy a2.toNatClampNeg) with
      | none => exact fun _ _ => rfl
      | some t => exact fun j hj => va_up_ne _ _ (by omega)
    have q2 : ∀ (sp' : Nat → TR) (j : Nat), j < 4 → (v_X2_leads sp' dy a1.toNatClampNeg 12 a2.toNatClampNeg).2 j = dy j := by
      intro sp'
      rw [lds_eq r1.1 s1.1 (by omega)]
      cases v_X4_onBy (dy a1.toNatClampNeg) (sp' 12) 1 with
      | none => exact fun _ _ => rfl
      | some t => exact fun j hj => va_up_ne _ _ (by omega)
    have ex : x_X2_isToldBack sp dy a1 a2 = none := by
      have : x_X2_isToldBack sp dy a1 a2 = xo (x_X2_dateAt a1) (xo (x_X2_dateAt a2) none) := by
        unfold x_X2_isToldBack
        simp only [ite_self]
      rw [this]; exact hx
    refine RO_ok ex rfl ?_ ?_
    · show (v_X2_isToldBack sp dy a1 a2).1 = v_X4_leadsBack dr a1 a2
      rw [← et]
      unfold v_X2_isToldBack
      by_cases c : (v_X1_putBetween sp dy 12 a1.toNatClampNeg a2.toNatClampNeg).1 = 0
      · rw [if_pos c, if_pos c]
      · rw [if_neg c, if_neg c]
        by_cases c2 : (v_X2_leads (v_X1_putBetween sp dy 12 a1.toNatClampNeg a2.toNatClampNeg).2 dy a1.toNatClampNeg 12 a2.toNatClampNeg).1 = 0
        · rw [if_pos c2, if_pos c2]
        · rw [if_neg c2, if_neg c2]
    · unfold v_X2_isToldBack
      have q2 := q2 (v_X1_putBetween sp dy 12 a1.toNatClampNeg a2.toNatClampNeg).2
      generalize v_X1_putBetween sp dy 12 a1.toNatClampNeg a2.toNatClampNeg = B at q1 q2 ⊢
      generalize v_X2_leads B.2 dy a1.toNatClampNeg 12 a2.toNatClampNeg = L at q2 ⊢
      by_cases c : B.1 = 0
      · rw [if_pos c]
        exact RL_far hR q1 (fun _ _ => rfl)
      · rw [if_neg c]
        by_cases c2 : L.1 = 0
        · rw [if_pos c2]
          exact RL_far hR q1 q2
        · rw [if_neg c2]
          exact RL_far hR q1 q2
  · have e : v_X4_isToldBack dr a1 a2 = (0, 1) := by
      unfold v_X4_isToldBack
      exact two_n h1
    rw [e]
    refine RO_no (E := iobN) ?_ xcd_b.symm trivial
    have : x_X2_isToldBack sp dy a1 a2 = xo (x_X2_dateAt a1) (xo (x_X2_dateAt a2) none) := by
      unfold x_X2_isToldBack
      simp only [ite_self]
    rw [this]; exact hx
/-! the house -/
def hs5 (kn rf la zz nn : Int32) (k : Nat) : Int32 := if k = 4 then nn else if k = 3 then zz else if k = 2 then la else if k = 1 then rf else if k = 0 then kn else 0
theorem hs5_eq (kn rf la zz nn : Int32) (k : Nat) : upd (upd (upd (upd (upd (fun _ => 0) (0 : Int32).toNatClampNeg kn) (1 : Int32).toNatClampNeg rf) (2 : Int32).toNatClampNeg la) (3 : Int32).toNatClampNeg zz) (4 : Int32).toNatClampNeg nn k = hs5 kn rf la zz nn k := by
  have t0 : (0 : Int32).toNatClampNeg = 0 := rfl
  have t1 : (1 : Int32).toNatClampNeg = 1 := rfl
  have t2 : (2 : Int32).toNatClampNeg = 2 := rfl
  have t3 : (3 : Int32).toNatClampNeg = 3 := rfl
  have t4 : (4 : Int32).toNatClampNeg = 4 := rfl
  rw [t0, t1, t2, t3, t4]
  rfl
theorem house_w {kn a1 : Int32} (hE : E4 sp cr) : ∀ (n i : Nat) (nn zz : Int32), 4 - i < n → i ≤ 4 → wX4_houseNow_7 cr kn rf pz a1 n (nI i) nn zz = hs5 kn rf (Int32.ofNat (pz - 1)) (wX2_zeroCards_4 sp n (nI i) zz) (wX2_negativeCards_4 sp n (nI i) nn) a1.toNatClampNeg := by
  intro n
  induction n with
  | zero => intro i nn zz h; omega
  | succ n ih =>
    intro i nn zz hn hi
    rw [wX4_houseNow_7, wX2_zeroCards_4, wX2_negativeCards_4]
    by_cases c : 4 ≤ nI i
    · rw [if_pos c, if_pos c, if_pos c]
      exact hs5_eq _ _ _ _ _ _
    · rw [if_neg c, if_neg c, if_neg c, nI_1]
      have c2 : ¬ 4 ≤ i := fun q => c (nI_le (a := 4) q (by omega))
      have ec : (nI i).toNatClampNeg = i := nI_clamp (by omega)
      have h0 := hE i (by omega)
      have e1 : v_X1_isNothing sp (nI i).toNatClampNeg = v_X4_isZeroNow cr (nI i) := by
        rw [ec]
        show _ = v_X4_isSame (cr (nI i).toNatClampNeg) v_X4_nothing
        rw [ec]
        exact zer_eq h0
      have e2 : v_X1_isBelowZero sp (nI i).toNatClampNeg = v_X4_isNegativeNow cr (nI i) := neg_eq (by rw [ec]; exact h0)
      rw [ih (i + 1) _ _ (by omega) (by omega), e1, e2]
      have k : ∀ (x z : Int32) (F : Int32 → Int32), (if x = 0 then F (z + 0) else F (z + 1)) = F (z + v_X4_one x) := by
        intro x z F
        unfold v_X4_one
        by_cases q : x = 0
        · rw [if_pos q, if_pos q]
        · rw [if_neg q, if_neg q]
      rw [k (v_X4_isZeroNow cr (nI i)) zz (fun y => wX2_zeroCards_4 sp n (nI (i + 1)) y), k (v_X4_isNegativeNow cr (nI i)) nn (fun y => wX2_negativeCards_4 sp n (nI (i + 1)) y)]
theorem fu_40 : ((4 : Int32).toInt - (0 : Int32).toInt).toNat + 1 = 4 + 1 := by decide
theorem ofh_eq {kn : Int32} {k : Nat} (hk : k ≤ 4) (hR : Rq sp dy la re cr dr rf pl pz) : v_X2_ofHouse sp la kn re (nI k) = v_X4_houseNow cr kn rf pz (nI k) := by
  obtain ⟨hE, b, c, d, e, f, g⟩ := id hR
  have h := house_w (rf := rf) (pz := pz) (kn := kn) (a1 := nI k) hE (4 + 1) 0 0 0 (by omega) (by omega)
  unfold v_X4_houseNow
  rw [show (0 : Int32) = nI 0 from rfl] at h ⊢
  rw [h, nI_clamp (by omega)]
  unfold v_X2_ofHouse v_X2_zeroCards v_X2_negativeCards
  rw [fu_40, show (0 : Int32) = nI 0 from rfl, c, e]
  unfold hs5
  rcases (show k = 0 ∨ k = 1 ∨ k = 2 ∨ k = 3 ∨ k = 4 by omega) with rfl | rfl | rfl | rfl | rfl
  · rw [if_pos (show nI 0 = nI 0 by decide), if_neg (show ¬ (0 : Nat) = 4 by decide), if_neg (show ¬ (0 : Nat) = 3 by decide), if_neg (show ¬ (0 : Nat) = 2 by decide), if_neg (show ¬ (0 : Nat) = 1 by decide), if_pos (rfl : (0 : Nat) = 0)]
  · rw [if_neg (show ¬ nI 1 = nI 0 by decide), if_pos (show nI 1 = 1 by decide), if_neg (show ¬ (1 : Nat) = 4 by decide), if_neg (show ¬ (1 : Nat) = 3 by decide), if_neg (show ¬ (1 : Nat) = 2 by decide), if_pos (rfl : (1 : Nat) = 1)]
  · rw [if_neg (show ¬ nI 2 = nI 0 by decide), if_neg (show ¬ nI 2 = 1 by decide), if_pos (show nI 2 = 2 by decide), if_neg (show ¬ (2 : Nat) = 4 by decide), if_neg (show ¬ (2 : Nat) = 3 by decide), if_pos (rfl : (2 : Nat) = 2)]
  · rw [if_neg (show ¬ nI 3 = nI 0 by decide), if_neg (show ¬ nI 3 = 1 by decide), if_neg (show ¬ nI 3 = 2 by decide), if_pos (show nI 3 = 3 by decide), if_neg (show ¬ (3 : Nat) = 4 by decide), if_pos (rfl : (3 : Nat) = 3)]
  · rw [if_neg (show ¬ nI 4 = nI 0 by decide), if_neg (show ¬ nI 4 = 1 by decide), if_neg (show ¬ nI 4 = 2 by decide), if_neg (show ¬ nI 4 = 3 by decide), if_pos (rfl : (4 : Nat) = 4)]
theorem rl_house {a1 kn : Int32} (hR : Rq sp dy la re cr dr rf pl pz) : (x_X2_house a1 = none → (v_X4_house cr kn rf pz a1).2 = 0 ∧ v_X2_house sp la kn re a1 = (v_X4_house cr kn rf pz a1).1) ∧ ∀ E, x_X2_house a1 = some E → (v_X4_house cr kn rf pz a1).2 = 1 := by
  have l4 : (lN 4) = (4 : Int64) := rfl
  rcases wh_cs a1 5 4 rfl (by decide) with ⟨g1, g2, k, hk, rfl⟩ | ⟨g1, g2⟩
  · rw [l4] at g1
    have e : v_X4_house cr kn rf pz (nI k) = (v_X4_houseNow cr kn rf pz (nI k), 0) := by
      unfold v_X4_house
      rw [if_neg g1]
    rw [e]
    refine ⟨fun _ => ⟨rfl, ofh_eq hk hR⟩, fun E h => ?_⟩
    unfold x_X2_house at h
    rw [g2] at h
    exact (nomatch h)
  · rw [l4] at g1
    have e : v_X4_house cr kn rf pz a1 = (0, 1) := by
      unfold v_X4_house
      rw [if_pos g1]
    rw [e]
    refine ⟨fun h => ?_, fun _ _ => rfl⟩
    unfold x_X2_house at h
    rw [g2] at h
    exact (nomatch h)
/-! texts and the like leave the relation -/
theorem rl_times {a1 a2 : Int32} (hR : Rq sp dy la re cr dr rf pl pz) : Rq (v_X2_times sp a1 a2) dy la re cr dr rf pl pz := by
  unfold v_X2_times
  rw [ptim_eq]
  exact RL_12 hR
theorem rl_tidy {a1 : Int32} (hR : Rq sp dy la re cr dr rf pl pz) : Rq (v_X2_tidy sp a1) dy la re cr dr rf pl pz := by
  unfold v_X2_tidy
  rw [ptid_eq]
  exact RL_12 hR
theorem rl_opposite {a1 : Int32} (hR : Rq sp dy la re cr dr rf pl pz) : Rq (v_X2_opposite sp a1) dy la re cr dr rf pl pz := by
  unfold v_X2_opposite
  rw [popp_eq]
  exact RL_12 hR
theorem rl_with {a1 a2 a3 : Int32} (hR : Rq sp dy la re cr dr rf pl pz) : Rq (v_X2_with sp a1 a2 a3) dy la re cr dr rf pl pz := by
  unfold v_X2_with
  by_cases c : a3 = 0
  · rw [if_pos c, psum_eq]
    exact RL_12 hR
  · rw [if_neg c, pdif_eq]
    exact RL_12 hR
theorem rl_addw {a1 a2 : Int32} : ∀ (n : Nat) (kk ok : Int32) (sp : Nat → TR), Rq sp dy la re cr dr rf pl pz → Rq (wX2_added_41 a1 a2 n kk ok sp) dy la re cr dr rf pl pz := by
  intro n
  induction n with
  | zero => intro kk ok sp h; exact h
  | succ n ih =>
    intro kk ok sp h
    rw [wX2_added_41]
    by_cases c : a2 ≤ kk
    · rw [if_pos c]; exact h
    · rw [if_neg c]
      by_cases d : ok = 0
      · rw [if_pos d]; exact h
      · rw [if_neg d, psum_eq]
        exact ih _ _ _ (RL_12 h)
theorem rl_added {a1 a2 : Int32} (hR : Rq sp dy la re cr dr rf pl pz) : Rq (v_X2_added sp a1 a2) dy la re cr dr rf pl pz := by
  unfold v_X2_added
  by_cases c : a2 < 0
  · rw [if_pos c]; exact hR
  · rw [if_neg c]
    by_cases d : a2 ≤ 9
    · rw [if_pos d, put_eq]
      exact rl_addw _ _ _ _ (RL_12 hR)
    · rw [if_neg d]; exact hR
theorem rl_moved {a1 a2 a3 : Int32} (h1 : a1.toNatClampNeg < 4) (hR : Rq sp dy la re cr dr rf pl pz) : Rq sp (v_X2_moved sp dy a1 a2 a3) la re cr dr rf pl pz := by
  obtain ⟨r1, r2, r3⟩ := RL_d hR h1
  have e : v_X2_moved sp dy a1 a2 a3 = (v_X2_reach sp dy a1.toNatClampNeg a2.toNatClampNeg a3).2 := by
    unfold v_X2_moved
    by_cases c : (v_X2_reach sp dy a1.toNatClampNeg a2.toNatClampNeg a3).1 = 0
    · rw [if_pos c]
    · rw [if_neg c]
  rw [e, rch_eq r1.1]
  exact RL_4 hR
theorem rl_apart {a1 a2 : Int32} (h1 : a1.toNatClampNeg < 4) (h2 : a2.toNatClampNeg < 4) (hR : Rq sp dy la re cr dr rf pl pz) : Rq (v_X2_apart sp dy a1 a2) dy la re cr dr rf pl pz := by
  obtain ⟨r1, r2, r3⟩ := RL_d hR h1
  obtain ⟨s1, s2, s3⟩ := RL_d hR h2
  unfold v_X2_apart
  rw [btw_eq r1.1 s1.1]
  exact RL_12 hR
/-- what a date's place that is there says of its number -/
theorem x_da {a : Int32} {b : Option String} (h : xo (x_X2_dateAt a) b = none) : a.toNatClampNeg < 4 ∧ b = none := by
  rcases da_cs a with ⟨h1, h2, h3⟩ | ⟨h1, h2⟩
  · rw [h2] at h; exact ⟨h3, h⟩
  · rw [h2] at h; exact (nomatch h)
end RLU
end
section
/-! that all is sound, always: of the reference's rows -/
theorem same_refl (t : TR) : v_X4_isSame t t = 1 := by rw [same_eq, if_pos rfl]
theorem alike_eq (a b : TR) : v_X4_isAlike a b = if v_X4_total a = v_X4_total b ∧ a.2.2 = b.2.2 then 1 else 0 := by
  unfold v_X4_isAlike
  by_cases h1 : v_X4_total a = v_X4_total b
  · rw [if_pos ((lg_cmp_eq _ _).mpr h1)]
    by_cases h2 : a.2.2 = b.2.2
    · rw [if_pos h2, if_pos ⟨h1, h2⟩]
    · rw [if_neg h2, if_neg (fun q => h2 q.2)]
  · rw [if_neg (fun q => h1 ((lg_cmp_eq _ _).mp q)), if_neg (fun q => h1 q.1)]
theorem tid_tot {t u : TR} (h : v_X4_tidied t = some u) : v_X4_total u = v_X4_total t ∧ u.2.2 = t.2.2 := by
  unfold v_X4_tidied at h
  rw [om_id] at h
  obtain ⟨⟨h1, h2, h3⟩, rfl⟩ := span_some.mp h
  refine ⟨?_, i32_64 _⟩
  show 12 * (v_X4_total t / 12).toInt32.toInt64 + (v_X4_total t - v_X4_total t / 12 * 12).toInt32.toInt64 = v_X4_total t
  rw [inr_32 h1, inr_32 h2]
  exact tot_i _
theorem tid_alike {t u : TR} (h : v_X4_tidied t = some u) : v_X4_isAlike u t = 1 := by rw [alike_eq, if_pos (tid_tot h)]
theorem x4_ss (t : TR) : v_X4_isSpanSound t = 1 := by
  unfold v_X4_isSpanSound
  cases e : v_X4_tidied t with
  | none =>
    cases v_X4_opposed t with
    | none => rfl
    | some w =>
      show (if v_X4_isSame t t = 0 then (0 : Int32) else 1) = 1
      rw [same_refl, if_neg (by decide)]
  | some u =>
    have a := tid_alike e
    cases v_X4_opposed t with
    | none =>
      show (if v_X4_isAlike u t = 0 then (0 : Int32) else if v_X4_isSame u u = 0 then 0 else 1) = 1
      rw [a, same_refl, if_neg (by decide), if_neg (by decide)]
    | some w =>
      show (if v_X4_isSame t t = 0 then (0 : Int32) else if v_X4_isAlike u t = 0 then (0 : Int32) else if v_X4_isSame u u = 0 then 0 else 1) = 1
      rw [a, same_refl, same_refl, if_neg (by decide), if_neg (by decide), if_neg (by decide)]
theorem sum_cm (a b : TR) : v_X4_sum a 1 b = v_X4_sum b 1 a := by
  have e : ∀ x y : Int64, x + 1 * y = y + 1 * x := by intro x y; grind
  unfold v_X4_sum
  rw [e a.1.toInt64, e a.2.1.toInt64, e a.2.2.toInt64]
theorem opp_tot {t u : TR} (h : v_X4_opposed t = some u) : v_X4_total u = -1 * v_X4_total t ∧ u.2.2.toInt64 = -1 * t.2.2.toInt64 := by
  unfold v_X4_opposed v_X4_sum v_X4_nothing at h
  rw [om_id, om_id] at h
  obtain ⟨⟨h1, h2, h3⟩, rfl⟩ := span_some.mp h
  have z : (0 : Int32).toInt64 = 0 := rfl
  have h1 : inr ((0 : Int32).toInt64 + -1 * t.1.toInt64) := h1
  have h2 : inr ((0 : Int32).toInt64 + -1 * t.2.1.toInt64) := h2
  have h3 : inr ((0 : Int32).toInt64 + -1 * t.2.2.toInt64) := h3
  unfold v_X4_total
  constructor
  · show 12 * ((0 : Int32).toInt64 + -1 * t.1.toInt64).toInt32.toInt64 + ((0 : Int32).toInt64 + -1 * t.2.1.toInt64).toInt32.toInt64 = _
    rw [inr_32 h1, inr_32 h2, z]
    grind
  · show ((0 : Int32).toInt64 + -1 * t.2.2.toInt64).toInt32.toInt64 = _
    rw [inr_32 h3, z]
    grind
theorem neg_inj {x y : Int64} : -1 * x = -1 * y ↔ x = y := by
  constructor
  · intro h; grind
  · intro h; rw [h]
theorem i64_inj {x y : Int32} : x.toInt64 = y.toInt64 ↔ x = y := by
  constructor
  · intro h
    rw [← i32_64 x, ← i32_64 y, h]
  · intro h; rw [h]
theorem opp_alike {a b u w : TR} (h1 : v_X4_opposed a = some u) (h2 : v_X4_opposed b = some w) : v_X4_isAlike a b = v_X4_isAlike u w := by
  obtain ⟨t1, d1⟩ := opp_tot h1
  obtain ⟨t2, d2⟩ := opp_tot h2
  rw [alike_eq, alike_eq, t1, t2]
  have e1 : (a.2.2 = b.2.2) ↔ (u.2.2 = w.2.2) := by
    rw [← i64_inj (x := u.2.2), d1, d2, neg_inj, i64_inj]
  by_cases c : v_X4_total a = v_X4_total b ∧ a.2.2 = b.2.2
  · rw [if_pos c, if_pos ⟨neg_inj.mpr c.1, e1.mp c.2⟩]
  · rw [if_neg c, if_neg (fun q => c ⟨neg_inj.mp q.1, e1.mpr q.2⟩)]
theorem x4_as (a b : TR) : v_X4_areSound a b = 1 := by
  unfold v_X4_areSound
  rw [sum_cm b a]
  cases e : v_X4_sum a 1 b with
  | none => rfl
  | some t =>
    show (if v_X4_isSame t t = 0 then (0 : Int32) else if v_X4_isSame a a = 0 then 0 else om (v_X4_opposed a) 1 (fun t7 => om (v_X4_opposed b) 1 (fun t8 => if v_X4_isAlike a b = v_X4_isAlike t7 t8 then 1 else 0))) = 1
    rw [same_refl, same_refl, if_neg (by decide), if_neg (by decide)]
    cases h1 : v_X4_opposed a with
    | none => rfl
    | some u =>
      cases h2 : v_X4_opposed b with
      | none => rfl
      | some w =>
        show (if v_X4_isAlike a b = v_X4_isAlike u w then (1 : Int32) else 0) = 1
        rw [if_pos (opp_alike h1 h2)]
/-- between leads back -/
theorem tot_w (w : Int32) (d : Int32) : v_X4_total (w / 12, w - w / 12 * 12, d) = w.toInt64 := by
  unfold v_X4_total
  show 12 * (w / 12).toInt64 + (w - w / 12 * 12).toInt64 = w.toInt64
  refine Int64.toInt_inj.mp ?_
  have h1 := Int32.toInt_lt w
  have h2 := Int32.le_toInt w
  have e12 : (12 : Int32).toInt = 12 := rfl
  have f12 : (12 : Int64).toInt = 12 := rfl
  have q1 := Int.mul_tdiv_add_tmod w.toInt 12
  have q4 : (w.toInt.tdiv 12).natAbs = w.toInt.natAbs / 12 := Int.natAbs_tdiv w.toInt 12
  have q2 := Int.tmod_lt_of_pos w.toInt (show (0 : Int) < 12 by decide)
  have q3 := Int.lt_tmod_of_pos w.toInt (show (0 : Int) < 12 by decide)
  have ed : (w / 12).toInt = w.toInt.tdiv 12 := by
    rw [Int32.toInt_div, e12, Int.bmod_eq_of_le (by omega) (by omega)]
  have em : (w / 12 * 12).toInt = w.toInt.tdiv 12 * 12 := by
    rw [Int32.toInt_mul, ed, e12, Int.bmod_eq_of_le (by omega) (by omega)]
  have es : (w - w / 12 * 12).toInt = w.toInt - w.toInt.tdiv 12 * 12 := by
    rw [Int32.toInt_sub, em, Int.bmod_eq_of_le (by omega) (by omega)]
  have ga : (12 * (w / 12).toInt64).toInt = 12 * w.toInt.tdiv 12 := by
    rw [Int64.toInt_mul, f12, Int32.toInt_toInt64, ed, Int.bmod_eq_of_le (by omega) (by omega)]
  rw [Int64.toInt_add, ga, Int32.toInt_toInt64, es, Int32.toInt_toInt64, Int.bmod_eq_of_le (by omega) (by omega)]
  omega
theorem lead_k {a b t1 : TR} {w : Int32} (hb : okv b) (ha : okd a) (e : v_X4_onByMonths a w.toInt64 = some t1) : v_X4_onBy a (w / 12, w - w / 12 * 12, v_X4_number b - v_X4_number t1) 1 = some b := by
  have bw := d64_bd w
  have h1 := (mo_some (dy := fun _ => a) (j := 0) rfl ha bw.1 bw.2 e).1
  have n1 := num_bd h1
  have n2 := num_bd hb
  rw [onBy_1]
  unfold mv2
  rw [tot_w, e, om_s, om_id]
  show v_X4_dateOf ((v_X4_number t1).toInt64 + (v_X4_number b - v_X4_number t1).toInt64) = some b
  have es := sub_i (x := v_X4_number b) (y := v_X4_number t1) (by omega) (by omega)
  have ea : ((v_X4_number t1).toInt64 + (v_X4_number b - v_X4_number t1).toInt64).toInt = (v_X4_number b).toInt := by
    have e1 : (v_X4_number t1).toInt64.toInt = (v_X4_number t1).toInt := Int32.toInt_toInt64 _
    have e2 : (v_X4_number b - v_X4_number t1).toInt64.toInt = (v_X4_number b - v_X4_number t1).toInt := Int32.toInt_toInt64 _
    rw [add_l (by omega) (by omega)]
    omega
  obtain ⟨t, ht, hd, -, hn⟩ := day_of (x := (v_X4_number t1).toInt64 + (v_X4_number b - v_X4_number t1).toInt64) (by omega) (by omega)
  rw [hd, num_inj ht hb (Int32.toInt_inj.mp (by omega))]
theorem lead_b {a b s : TR} (ha : okv a) (hb : okv b) (h : v_X4_apart a b = some s) : v_X4_onBy a s 1 = some b := by
  unfold v_X4_apart at h
  generalize 12 * (b.1 - a.1) + b.2.1 - a.2.1 = w at h
  have k : ∀ w : Int32, om (v_X4_onByMonths a w.toInt64) none (fun t => some (w / 12, w - w / 12 * 12, v_X4_number b - v_X4_number t)) = some s → v_X4_onBy a s 1 = some b := by
    intro w h
    cases e : v_X4_onByMonths a w.toInt64 with
    | none => rw [e] at h; exact (nomatch h)
    | some t1 =>
      rw [e, om_s] at h
      rw [← Option.some.inj h]
      exact lead_k hb ha.1 e
  by_cases c : v_X4_number a ≤ v_X4_number b
  · rw [if_pos c] at h
    by_cases d : a.2.2 ≤ b.2.2
    · rw [if_pos d] at h; exact k _ h
    · rw [if_neg d] at h; exact k _ h
  · rw [if_neg c] at h
    by_cases d : a.2.2 ≤ 28
    · rw [if_pos d] at h
      by_cases f : b.2.2 ≤ a.2.2
      · rw [if_pos f] at h; exact k _ h
      · rw [if_neg f] at h
        by_cases z : 0 ≤ w
        · rw [if_pos z] at h; exact k _ h
        · rw [if_neg z] at h; exact k _ h
    · rw [if_neg d] at h; exact (nomatch h)
theorem lb_1 {dr : Nat → TR} {i j : Int32} {s : TR} (hi : okv (dr i.toNatClampNeg)) (hj : okv (dr j.toNatClampNeg)) (h : v_X4_apart (dr i.toNatClampNeg) (dr j.toNatClampNeg) = some s) : v_X4_leadsBack dr i j = 1 := by
  unfold v_X4_leadsBack
  rw [h, om_s, lead_b hi hj h, om_s, if_pos rfl]
/-! of the class's -/
theorem x2_same {sp : Nat → TR} {i k : Nat} (h : sp i = sp k) : ¬ v_X1_isSameAs sp i k = 0 := fun q => (same_iff.mp q) h
theorem ne_ld {sp dy : Nat → TR} {i j : Nat} (hi : okv (dy i)) (hj : okv (dy j)) (h4 : j ≠ 4) (h : ¬ (v_X1_putBetween sp dy 12 i j).1 = 0) : ¬ (v_X2_leads (v_X1_putBetween sp dy 12 i j).2 dy i 12 j).1 = 0 := by
  rw [btw_eq hi.1 hj.1] at h ⊢
  cases e : v_X4_apart (dy i) (dy j) with
  | none => rw [e] at h; exact absurd rfl h
  | some t =>
    have e2 : ((1 : Int32), va_up sp 12 t).2 12 = t := by
      show va_up sp 12 t 12 = t
      exact va_up_self _ _ _
    rw [om_s, lds_eq hi.1 hj.1 h4, e2, lead_b hi hj e, om_s]
    show ¬ (if v_X4_number (dy j) = v_X4_number (dy j) then (1 : Int32) else 0) = 0
    rw [if_pos rfl]
    decide
end
section
def v_X2_isSpanSound (sp : Nat → TR) (i1 : Nat) : Int32 × (Nat → TR) := if (v_X1_put sp 12 ((sp i1).1.toInt64) ((sp i1).2.1.toInt64) ((sp i1).2.2.toInt64)).1 = 0 then (0, (v_X1_put sp 12 ((sp i1).1.toInt64) ((sp i1).2.1.toInt64) ((sp i1).2.2.toInt64)).2) else (if (v_X1_isSameAs (v_X1_put sp 12 ((sp i1).1.toInt64) ((sp i1).2.1.toInt64) ((sp i1).2.2.toInt64)).2 12 i1) = 0 then (0, (v_X1_put sp 12 ((sp i1).1.toInt64) ((sp i1).2.1.toInt64) ((sp i1).2.2.toInt64)).2) else (if (v_X1_putOpposite (v_X1_put sp 12 ((sp i1).1.toInt64) ((sp i1).2.1.toInt64) ((sp i1).2.2.toInt64)).2 12 i1).1 = 0 then (if (v_X1_putTidy (v_X1_putOpposite (v_X1_put sp 12 ((sp i1).1.toInt64) ((sp i1).2.1.toInt64) ((sp i1).2.2.toInt64)).2 12 i1).2 12 i1).1 = 0 then (1, (v_X1_putTidy (v_X1_putOpposite (v_X1_put sp 12 ((sp i1).1.toInt64) ((sp i1).2.1.toInt64) ((sp i1).2.2.toInt64)).2 12 i1).2 12 i1).2) else (if (v_X1_isAlikeTo (v_X1_putTidy (v_X1_putOpposite (v_X1_put sp 12 ((sp i1).1.toInt64) ((sp i1).2.1.toInt64) ((sp i1).2.2.toInt64)).2 12 i1).2 12 i1).2 12 i1) = 0 then (0, (v_X1_putTidy (v_X1_putOpposite (v_X1_put sp 12 ((sp i1).1.toInt64) ((sp i1).2.1.toInt64) ((sp i1).2.2.toInt64)).2 12 i1).2 12 i1).2) else (if (v_X1_putTidy (v_X1_putTidy (v_X1_putOpposite (v_X1_put sp 12 ((sp i1).1.toInt64) ((sp i1).2.1.toInt64) ((sp i1).2.2.toInt64)).2 12 i1).2 12 i1).2 13 12).1 = 0 then (0, (v_X1_putTidy (v_X1_putTidy (v_X1_putOpposite (v_X1_put sp 12 ((sp i1).1.toInt64) ((sp i1).2.1.toInt64) ((sp i1).2.2.toInt64)).2 12 i1).2 12 i1).2 13 12).2) else (if (v_X1_isSameAs (v_X1_putTidy (v_X1_putTidy (v_X1_putOpposite (v_X1_put sp 12 ((sp i1).1.toInt64) ((sp i1).2.1.toInt64) ((sp i1).2.2.toInt64)).2 12 i1).2 12 i1).2 13 12).2 13 12) = 0 then (0, (v_X1_putTidy (v_X1_putTidy (v_X1_putOpposite (v_X1_put sp 12 ((sp i1).1.toInt64) ((sp i1).2.1.toInt64) ((sp i1).2.2.toInt64)).2 12 i1).2 12 i1).2 13 12).2) else (1, (v_X1_putTidy (v_X1_putTidy (v_X1_putOpposite (v_X1_put sp 12 ((sp i1).1.toInt64) ((sp i1).2.1.toInt64) ((sp i1).2.2.toInt64)).2 12 i1).2 12 i1).2 13 12).2))))) else (if (v_X1_putOpposite (v_X1_putOpposite (v_X1_put sp 12 ((sp i1).1.toInt64) ((sp i1).2.1.toInt64) ((sp i1).2.2.toInt64)).2 12 i1).2 13 12).1 = 0 then (0, (v_X1_putOpposite (v_X1_putOpposite (v_X1_put sp 12 ((sp i1).1.toInt64) ((sp i1).2.1.toInt64) ((sp i1).2.2.toInt64)).2 12 i1).2 13 12).2) else (if (v_X1_isSameAs (v_X1_putOpposite (v_X1_putOpposite (v_X1_put sp 12 ((sp i1).1.toInt64) ((sp i1).2.1.toInt64) ((sp i1).2.2.toInt64)).2 12 i1).2 13 12).2 13 i1) = 0 then (0, (v_X1_putOpposite (v_X1_putOpposite (v_X1_put sp 12 ((sp i1).1.toInt64) ((sp i1).2.1.toInt64) ((sp i1).2.2.toInt64)).2 12 i1).2 13 12).2) else (if (v_X1_putTidy (v_X1_putOpposite (v_X1_putOpposite (v_X1_put sp 12 ((sp i1).1.toInt64) ((sp i1).2.1.toInt64) ((sp i1).2.2.toInt64)).2 12 i1).2 13 12).2 12 i1).1 = 0 then (1, (v_X1_putTidy (v_X1_putOpposite (v_X1_putOpposite (v_X1_put sp 12 ((sp i1).1.toInt64) ((sp i1).2.1.toInt64) ((sp i1).2.2.toInt64)).2 12 i1).2 13 12).2 12 i1).2) else (if (v_X1_isAlikeTo (v_X1_putTidy (v_X1_putOpposite (v_X1_putOpposite (v_X1_put sp 12 ((sp i1).1.toInt64) ((sp i1).2.1.toInt64) ((sp i1).2.2.toInt64)).2 12 i1).2 13 12).2 12 i1).2 12 i1) = 0 then (0, (v_X1_putTidy (v_X1_putOpposite (v_X1_putOpposite (v_X1_put sp 12 ((sp i1).1.toInt64) ((sp i1).2.1.toInt64) ((sp i1).2.2.toInt64)).2 12 i1).2 13 12).2 12 i1).2) else (if (v_X1_putTidy (v_X1_putTidy (v_X1_putOpposite (v_X1_putOpposite (v_X1_put sp 12 ((sp i1).1.toInt64) ((sp i1).2.1.toInt64) ((sp i1).2.2.toInt64)).2 12 i1).2 13 12).2 12 i1).2 13 12).1 = 0 then (0, (v_X1_putTidy (v_X1_putTidy (v_X1_putOpposite (v_X1_putOpposite (v_X1_put sp 12 ((sp i1).1.toInt64) ((sp i1).2.1.toInt64) ((sp i1).2.2.toInt64)).2 12 i1).2 13 12).2 12 i1).2 13 12).2) else (if (v_X1_isSameAs (v_X1_putTidy (v_X1_putTidy (v_X1_putOpposite (v_X1_putOpposite (v_X1_put sp 12 ((sp i1).1.toInt64) ((sp i1).2.1.toInt64) ((sp i1).2.2.toInt64)).2 12 i1).2 13 12).2 12 i1).2 13 12).2 13 12) = 0 then (0, (v_X1_putTidy (v_X1_putTidy (v_X1_putOpposite (v_X1_putOpposite (v_X1_put sp 12 ((sp i1).1.toInt64) ((sp i1).2.1.toInt64) ((sp i1).2.2.toInt64)).2 12 i1).2 13 12).2 12 i1).2 13 12).2) else (1, (v_X1_putTidy (v_X1_putTidy (v_X1_putOpposite (v_X1_putOpposite (v_X1_put sp 12 ((sp i1).1.toInt64) ((sp i1).2.1.toInt64) ((sp i1).2.2.toInt64)).2 12 i1).2 13 12).2 12 i1).2 13 12).2)))))))))
theorem b01_X2_isSpanSound {sp : Nat → TR} {i1 : Nat} : (v_X2_isSpanSound sp i1).1 = 0 ∨ (v_X2_isSpanSound sp i1).1 = 1 := by
  unfold v_X2_isSpanSound
  by_cases q1 : (v_X1_put sp 12 ((sp i1).1.toInt64) ((sp i1).2.1.toInt64) ((sp i1).2.2.toInt64)).1 = 0
  · rw [if_pos q1]
    exact Or.inl rfl
  · rw [if_neg q1]
    by_cases q2 : (v_X1_isSameAs (v_X1_put sp 12 ((sp i1).1.toInt64) ((sp i1).2.1.toInt64) ((sp i1).2.2.toInt64)).2 12 i1) = 0
    · rw [if_pos q2]
      exact Or.inl rfl
    · rw [if_neg q2]
      by_cases q3 : (v_X1_putOpposite (v_X1_put sp 12 ((sp i1).1.toInt64) ((sp i1).2.1.toInt64) ((sp i1).2.2.toInt64)).2 12 i1).1 = 0
      · rw [if_pos q3]
        by_cases q4 : (v_X1_putTidy (v_X1_putOpposite (v_X1_put sp 12 ((sp i1).1.toInt64) ((sp i1).2.1.toInt64) ((sp i1).2.2.toInt64)).2 12 i1).2 12 i1).1 = 0
        · rw [if_pos q4]
          exact Or.inr rfl
        · rw [if_neg q4]
          by_cases q5 : (v_X1_isAlikeTo (v_X1_putTidy (v_X1_putOpposite (v_X1_put sp 12 ((sp i1).1.toInt64) ((sp i1).2.1.toInt64) ((sp i1).2.2.toInt64)).2 12 i1).2 12 i1).2 12 i1) = 0
          · rw [if_pos q5]
            exact Or.inl rfl
          · rw [if_neg q5]
            by_cases q6 : (v_X1_putTidy (v_X1_putTidy (v_X1_putOpposite (v_X1_put sp 12 ((sp i1).1.toInt64) ((sp i1).2.1.toInt64) ((sp i1).2.2.toInt64)).2 12 i1).2 12 i1).2 13 12).1 = 0
            · rw [if_pos q6]
              exact Or.inl rfl
            · rw [if_neg q6]
              by_cases q7 : (v_X1_isSameAs (v_X1_putTidy (v_X1_putTidy (v_X1_putOpposite (v_X1_put sp 12 ((sp i1).1.toInt64) ((sp i1).2.1.toInt64) ((sp i1).2.2.toInt64)).2 12 i1).2 12 i1).2 13 12).2 13 12) = 0
              · rw [if_pos q7]
                exact Or.inl rfl
              · rw [if_neg q7]
                exact Or.inr rfl
      · rw [if_neg q3]
        by_cases q8 : (v_X1_putOpposite (v_X1_putOpposite (v_X1_put sp 12 ((sp i1).1.toInt64) ((sp i1).2.1.toInt64) ((sp i1).2.2.toInt64)).2 12 i1).2 13 12).1 = 0
        · rw [if_pos q8]
          exact Or.inl rfl
        · rw [if_neg q8]
          by_cases q9 : (v_X1_isSameAs (v_X1_putOpposite (v_X1_putOpposite (v_X1_put sp 12 ((sp i1).1.toInt64) ((sp i1).2.1.toInt64) ((sp i1).2.2.toInt64)).2 12 i1).2 13 12).2 13 i1) = 0
          · rw [if_pos q9]
            exact Or.inl rfl
          · rw [if_neg q9]
            by_cases q10 : (v_X1_putTidy (v_X1_putOpposite (v_X1_putOpposite (v_X1_put sp 12 ((sp i1).1.toInt64) ((sp i1).2.1.toInt64) ((sp i1).2.2.toInt64)).2 12 i1).2 13 12).2 12 i1).1 = 0
            · rw [if_pos q10]
              exact Or.inr rfl
            · rw [if_neg q10]
              by_cases q11 : (v_X1_isAlikeTo (v_X1_putTidy (v_X1_putOpposite (v_X1_putOpposite (v_X1_put sp 12 ((sp i1).1.toInt64) ((sp i1).2.1.toInt64) ((sp i1).2.2.toInt64)).2 12 i1).2 13 12).2 12 i1).2 12 i1) = 0
              · rw [if_pos q11]
                exact Or.inl rfl
              · rw [if_neg q11]
                by_cases q12 : (v_X1_putTidy (v_X1_putTidy (v_X1_putOpposite (v_X1_putOpposite (v_X1_put sp 12 ((sp i1).1.toInt64) ((sp i1).2.1.toInt64) ((sp i1).2.2.toInt64)).2 12 i1).2 13 12).2 12 i1).2 13 12).1 = 0
                · rw [if_pos q12]
                  exact Or.inl rfl
                · rw [if_neg q12]
                  by_cases q13 : (v_X1_isSameAs (v_X1_putTidy (v_X1_putTidy (v_X1_putOpposite (v_X1_putOpposite (v_X1_put sp 12 ((sp i1).1.toInt64) ((sp i1).2.1.toInt64) ((sp i1).2.2.toInt64)).2 12 i1).2 13 12).2 12 i1).2 13 12).2 13 12) = 0
                  · rw [if_pos q13]
                    exact Or.inl rfl
                  · rw [if_neg q13]
                    exact Or.inr rfl
set_option maxHeartbeats 4000000 in
set_option maxRecDepth 100000 in
theorem ce_X2_isSpanSound (l : Launch) (g : GG) (N : Nat) (ad : Nat → Nat) (x : Nat → va_E) (sp dy : Nat → TR) (la kn re : Int32) (hN : 23 ≤ N) (i1 : Nat) (hi1 : i1 < 14) : KI l yX2_isSpanSound cX2_isSpanSound 2 (some .boolean) (rm 4 0 0) g [.ref (ad 0), .ref (ad (4 + i1))] N ad (cf g ad x sp dy la kn re) N (fun r ad' f' => ad = ad' ∧ (v_X2_isSpanSound sp i1).1 = r ∧ (cf g ad x (v_X2_isSpanSound sp i1).2 dy la kn re) = f') := by
  intro sz
  refine mt_start (by decide) (Nat.le_of_ble_eq_true rfl) ?_
  intro p e s m args below meth c hsz X hr hnam hA hK hT H locs B ls hl
  obtain ⟨hx, hb, hml, hown, hts, hlocks⟩ := id X
  have hl : lv_has ls 2 [(0, .ref (ad 0)), (1, .ref (ad (4 + i1)))] := hl
  refine lv_aload_n hx hb dX2_isSpanSound_0 rfl (lv_at hl 0 rfl) ?_
  refine g_get (q := 0) (k := 6) X hK B rfl in_X2 (pl_c hN 0 (by decide)) cf_0 (by decide) lk_X2_25 rfl rfl dX2_isSpanSound_1 ?_
  refine lv_aload_n hx hb dX2_isSpanSound_4 rfl (lv_at hl 1 rfl) ?_
  refine g_getN (q := (4 + i1)) (k := 0) X hK hT B rfl in_X1 (pl_sp hN hi1) (cf_sp hi1) (by decide) lk_X2_55 rfl rfl dX2_isSpanSound_5 ?_
  refine lv_i2l (v := (sp i1).1.toInt64) hx hb dX2_isSpanSound_8 rfl ?_
  refine lv_aload_n hx hb dX2_isSpanSound_9 rfl (lv_at hl 1 rfl) ?_
  refine g_getN (q := (4 + i1)) (k := 1) X hK hT B rfl in_X1 (pl_sp hN hi1) (cf_sp hi1) (by decide) lk_X2_59 rfl rfl dX2_isSpanSound_10 ?_
  refine lv_i2l (v := (sp i1).2.1.toInt64) hx hb dX2_isSpanSound_13 rfl ?_
  refine lv_aload_n hx hb dX2_isSpanSound_14 rfl (lv_at hl 1 rfl) ?_
  refine g_getN (q := (4 + i1)) (k := 2) X hK hT B rfl in_X1 (pl_sp hN hi1) (cf_sp hi1) (by decide) lk_X2_62 rfl rfl dX2_isSpanSound_15 ?_
  refine lv_i2l (v := (sp i1).2.2.toInt64) hx hb dX2_isSpanSound_18 rfl ?_
  refine k_i (k := 0) (n := 0) hA B (u_VN (rest := []) X (c_X1_put l g N ad x sp dy la kn re hN 12 (by decide) ((sp i1).1.toInt64) ((sp i1).2.1.toInt64) ((sp i1).2.2.toInt64) H.size) mw_X1_put md_X1_put rfl lk_X2_41 ⟨Nat.le_of_ble_eq_true rfl, Nat.le_of_ble_eq_true rfl⟩ hA hK hT B (pl_sp hN (by decide)) (cf_sp (by decide)) rfl rfl hl.1 rfl (Nat.le_of_ble_eq_true rfl) dX2_isSpanSound_19 ⟨Nat.le_of_ble_eq_true rfl, Nat.le_of_ble_eq_true rfl⟩) (Nat.le_of_ble_eq_true rfl) (Nat.le_of_ble_eq_true rfl) (fun r ad' f' H locs hw B => ?_)
  obtain ⟨rfl, rfl, rfl⟩ := hw
  refine lv_if_eq (tgt := 36) hx hb dX2_isSpanSound_22 (by decide) (fun c1 => ?_) (fun c1 => ?_)
  · refine lv_iconst (v := 0) hx hb dX2_isSpanSound_36 (by decide) ?_
    have ev := (show v_X2_isSpanSound sp i1 = (0, (v_X1_put sp 12 ((sp i1).1.toInt64) ((sp i1).2.1.toInt64) ((sp i1).2.2.toInt64)).2) from by unfold v_X2_isSpanSound; rw [if_pos c1])
    exact rt_i X hr (ad, (cf g ad x (v_X1_put sp 12 ((sp i1).1.toInt64) ((sp i1).2.1.toInt64) ((sp i1).2.2.toInt64)).2 dy la kn re)) B (PO_of B) ⟨rfl, by rw [ev], by rw [ev]⟩ rfl (Nat.le_of_ble_eq_true rfl) (Nat.le_of_ble_eq_true rfl) dX2_isSpanSound_37
  · refine lv_aload_n hx hb dX2_isSpanSound_25 rfl (lv_at hl 0 rfl) ?_
    refine g_get (q := 0) (k := 6) X hK B rfl in_X2 (pl_c hN 0 (by decide)) cf_0 (by decide) lk_X2_25 rfl rfl dX2_isSpanSound_26 ?_
    refine lv_aload_n hx hb dX2_isSpanSound_29 rfl (lv_at hl 1 rfl) ?_
    refine k_i (k := 0) (n := 0) hA B (u_VN (rest := []) X (c_X1_isSameAs l g N ad x (v_X1_put sp 12 ((sp i1).1.toInt64) ((sp i1).2.1.toInt64) ((sp i1).2.2.toInt64)).2 dy la kn re hN 12 (by decide) i1 hi1 H.size) mw_X1_isSameAs md_X1_isSameAs rfl lk_X2_123 ⟨Nat.le_of_ble_eq_true rfl, Nat.le_of_ble_eq_true rfl⟩ hA hK hT B (pl_sp hN (by decide)) (cf_sp (by decide)) rfl rfl hl.1 rfl (Nat.le_of_ble_eq_true rfl) dX2_isSpanSound_30 ⟨Nat.le_of_ble_eq_true rfl, Nat.le_of_ble_eq_true rfl⟩) (Nat.le_of_ble_eq_true rfl) (Nat.le_of_ble_eq_true rfl) (fun r ad' f' H locs hw B => ?_)
    obtain ⟨rfl, rfl, rfl⟩ := hw
    refine lv_if_ne (tgt := 38) hx hb dX2_isSpanSound_33 (by decide) (fun c2 => ?_) (fun c2 => ?_)
    · refine lv_aload_n hx hb dX2_isSpanSound_38 rfl (lv_at hl 0 rfl) ?_
      refine g_get (q := 0) (k := 6) X hK B rfl in_X2 (pl_c hN 0 (by decide)) cf_0 (by decide) lk_X2_25 rfl rfl dX2_isSpanSound_39 ?_
      refine lv_aload_n hx hb dX2_isSpanSound_42 rfl (lv_at hl 1 rfl) ?_
      refine k_i (k := 0) (n := 0) hA B (u_VN (rest := []) X (c_X1_putOpposite l g N ad x (v_X1_put sp 12 ((sp i1).1.toInt64) ((sp i1).2.1.toInt64) ((sp i1).2.2.toInt64)).2 dy la kn re hN 12 (by decide) i1 hi1 H.size) mw_X1_putOpposite md_X1_putOpposite rfl lk_X2_84 ⟨Nat.le_of_ble_eq_true rfl, Nat.le_of_ble_eq_true rfl⟩ hA hK hT B (pl_sp hN (by decide)) (cf_sp (by decide)) rfl rfl hl.1 rfl (Nat.le_of_ble_eq_true rfl) dX2_isSpanSound_43 ⟨Nat.le_of_ble_eq_true rfl, Nat.le_of_ble_eq_true rfl⟩) (Nat.le_of_ble_eq_true rfl) (Nat.le_of_ble_eq_true rfl) (fun r ad' f' H locs hw B => ?_)
      obtain ⟨rfl, rfl, rfl⟩ := hw
      refine lv_if_eq (tgt := 76) hx hb dX2_isSpanSound_46 (by decide) (fun c3 => ?_) (fun c3 => ?_)
      · refine lv_aload_n hx hb dX2_isSpanSound_76 rfl (lv_at hl 0 rfl) ?_
        refine g_get (q := 0) (k := 6) X hK B rfl in_X2 (pl_c hN 0 (by decide)) cf_0 (by decide) lk_X2_25 rfl rfl dX2_isSpanSound_77 ?_
        refine lv_aload_n hx hb dX2_isSpanSound_80 rfl (lv_at hl 1 rfl) ?_
        refine k_i (k := 0) (n := 0) hA B (u_VN (rest := []) X (c_X1_putTidy l g N ad x (v_X1_putOpposite (v_X1_put sp 12 ((sp i1).1.toInt64) ((sp i1).2.1.toInt64) ((sp i1).2.2.toInt64)).2 12 i1).2 dy la kn re hN 12 (by decide) i1 hi1 H.size) mw_X1_putTidy md_X1_putTidy rfl lk_X2_88 ⟨Nat.le_of_ble_eq_true rfl, Nat.le_of_ble_eq_true rfl⟩ hA hK hT B (pl_sp hN (by decide)) (cf_sp (by decide)) rfl rfl hl.1 rfl (Nat.le_of_ble_eq_true rfl) dX2_isSpanSound_81 ⟨Nat.le_of_ble_eq_true rfl, Nat.le_of_ble_eq_true rfl⟩) (Nat.le_of_ble_eq_true rfl) (Nat.le_of_ble_eq_true rfl) (fun r ad' f' H locs hw B => ?_)
        obtain ⟨rfl, rfl, rfl⟩ := hw
        refine lv_if_ne (tgt := 89) hx hb dX2_isSpanSound_84 (by decide) (fun c4 => ?_) (fun c4 => ?_)
        · refine lv_aload_n hx hb dX2_isSpanSound_89 rfl (lv_at hl 0 rfl) ?_
          refine g_get (q := 0) (k := 6) X hK B rfl in_X2 (pl_c hN 0 (by decide)) cf_0 (by decide) lk_X2_25 rfl rfl dX2_isSpanSound_90 ?_
          refine lv_aload_n hx hb dX2_isSpanSound_93 rfl (lv_at hl 1 rfl) ?_
          refine k_i (k := 0) (n := 0) hA B (u_VN (rest := []) X (c_X1_isAlikeTo l g N ad x (v_X1_putTidy (v_X1_putOpposite (v_X1_put sp 12 ((sp i1).1.toInt64) ((sp i1).2.1.toInt64) ((sp i1).2.2.toInt64)).2 12 i1).2 12 i1).2 dy la kn re hN 12 (by decide) i1 hi1 H.size) mw_X1_isAlikeTo md_X1_isAlikeTo rfl lk_X2_126 ⟨Nat.le_of_ble_eq_true rfl, Nat.le_of_ble_eq_true rfl⟩ hA hK hT B (pl_sp hN (by decide)) (cf_sp (by decide)) rfl rfl hl.1 rfl (Nat.le_of_ble_eq_true rfl) dX2_isSpanSound_94 ⟨Nat.le_of_ble_eq_true rfl, Nat.le_of_ble_eq_true rfl⟩) (Nat.le_of_ble_eq_true rfl) (Nat.le_of_ble_eq_true rfl) (fun r ad' f' H locs hw B => ?_)
          obtain ⟨rfl, rfl, rfl⟩ := hw
          refine lv_if_eq (tgt := 132) hx hb dX2_isSpanSound_97 (by decide) (fun c5 => ?_) (fun c5 => ?_)
          · refine lv_iconst (v := 0) hx hb dX2_isSpanSound_132 (by decide) ?_
            have ev := (show v_X2_isSpanSound sp i1 = (0, (v_X1_putTidy (v_X1_putOpposite (v_X1_put sp 12 ((sp i1).1.toInt64) ((sp i1).2.1.toInt64) ((sp i1).2.2.toInt64)).2 12 i1).2 12 i1).2) from by unfold v_X2_isSpanSound; rw [if_neg c1, if_neg c2, if_pos c3, if_neg c4, if_pos c5])
            exact rt_i X hr (ad, (cf g ad x (v_X1_putTidy (v_X1_putOpposite (v_X1_put sp 12 ((sp i1).1.toInt64) ((sp i1).2.1.toInt64) ((sp i1).2.2.toInt64)).2 12 i1).2 12 i1).2 dy la kn re)) B (PO_of B) ⟨rfl, by rw [ev], by rw [ev]⟩ rfl (Nat.le_of_ble_eq_true rfl) (Nat.le_of_ble_eq_true rfl) dX2_isSpanSound_133
          · refine lv_aload_n hx hb dX2_isSpanSound_100 rfl (lv_at hl 0 rfl) ?_
            refine g_get (q := 0) (k := 7) X hK B rfl in_X2 (pl_c hN 0 (by decide)) cf_0 (by decide) lk_X2_29 rfl rfl dX2_isSpanSound_101 ?_
            refine lv_aload_n hx hb dX2_isSpanSound_104 rfl (lv_at hl 0 rfl) ?_
            refine g_get (q := 0) (k := 6) X hK B rfl in_X2 (pl_c hN 0 (by decide)) cf_0 (by decide) lk_X2_25 rfl rfl dX2_isSpanSound_105 ?_
            refine k_i (k := 0) (n := 0) hA B (u_VN (rest := []) X (c_X1_putTidy l g N ad x (v_X1_putTidy (v_X1_putOpposite (v_X1_put sp 12 ((sp i1).1.toInt64) ((sp i1).2.1.toInt64) ((sp i1).2.2.toInt64)).2 12 i1).2 12 i1).2 dy la kn re hN 13 (by decide) 12 (by decide) H.size) mw_X1_putTidy md_X1_putTidy rfl lk_X2_88 ⟨Nat.le_of_ble_eq_true rfl, Nat.le_of_ble_eq_true rfl⟩ hA hK hT B (pl_sp hN (by decide)) (cf_sp (by decide)) rfl rfl hl.1 rfl (Nat.le_of_ble_eq_true rfl) dX2_isSpanSound_108 ⟨Nat.le_of_ble_eq_true rfl, Nat.le_of_ble_eq_true rfl⟩) (Nat.le_of_ble_eq_true rfl) (Nat.le_of_ble_eq_true rfl) (fun r ad' f' H locs hw B => ?_)
            obtain ⟨rfl, rfl, rfl⟩ := hw
            refine lv_if_eq (tgt := 132) hx hb dX2_isSpanSound_111 (by decide) (fun c6 => ?_) (fun c6 => ?_)
            · refine lv_iconst (v := 0) hx hb dX2_isSpanSound_132 (by decide) ?_
              have ev := (show v_X2_isSpanSound sp i1 = (0, (v_X1_putTidy (v_X1_putTidy (v_X1_putOpposite (v_X1_put sp 12 ((sp i1).1.toInt64) ((sp i1).2.1.toInt64) ((sp i1).2.2.toInt64)).2 12 i1).2 12 i1).2 13 12).2) from by unfold v_X2_isSpanSound; rw [if_neg c1, if_neg c2, if_pos c3, if_neg c4, if_neg c5, if_pos c6])
              exact rt_i X hr (ad, (cf g ad x (v_X1_putTidy (v_X1_putTidy (v_X1_putOpposite (v_X1_put sp 12 ((sp i1).1.toInt64) ((sp i1).2.1.toInt64) ((sp i1).2.2.toInt64)).2 12 i1).2 12 i1).2 13 12).2 dy la kn re)) B (PO_of B) ⟨rfl, by rw [ev], by rw [ev]⟩ rfl (Nat.le_of_ble_eq_true rfl) (Nat.le_of_ble_eq_true rfl) dX2_isSpanSound_133
            · refine lv_aload_n hx hb dX2_isSpanSound_114 rfl (lv_at hl 0 rfl) ?_
              refine g_get (q := 0) (k := 7) X hK B rfl in_X2 (pl_c hN 0 (by decide)) cf_0 (by decide) lk_X2_29 rfl rfl dX2_isSpanSound_115 ?_
              refine lv_aload_n hx hb dX2_isSpanSound_118 rfl (lv_at hl 0 rfl) ?_
              refine g_get (q := 0) (k := 6) X hK B rfl in_X2 (pl_c hN 0 (by decide)) cf_0 (by decide) lk_X2_25 rfl rfl dX2_isSpanSound_119 ?_
              refine k_i (k := 0) (n := 0) hA B (u_VN (rest := []) X (c_X1_isSameAs l g N ad x (v_X1_putTidy (v_X1_putTidy (v_X1_putOpposite (v_X1_put sp 12 ((sp i1).1.toInt64) ((sp i1).2.1.toInt64) ((sp i1).2.2.toInt64)).2 12 i1).2 12 i1).2 13 12).2 dy la kn re hN 13 (by decide) 12 (by decide) H.size) mw_X1_isSameAs md_X1_isSameAs rfl lk_X2_123 ⟨Nat.le_of_ble_eq_true rfl, Nat.le_of_ble_eq_true rfl⟩ hA hK hT B (pl_sp hN (by decide)) (cf_sp (by decide)) rfl rfl hl.1 rfl (Nat.le_of_ble_eq_true rfl) dX2_isSpanSound_122 ⟨Nat.le_of_ble_eq_true rfl, Nat.le_of_ble_eq_true rfl⟩) (Nat.le_of_ble_eq_true rfl) (Nat.le_of_ble_eq_true rfl) (fun r ad' f' H locs hw B => ?_)
              obtain ⟨rfl, rfl, rfl⟩ := hw
              refine lv_if_eq (tgt := 132) hx hb dX2_isSpanSound_125 (by decide) (fun c7 => ?_) (fun c7 => ?_)
              · refine lv_iconst (v := 0) hx hb dX2_isSpanSound_132 (by decide) ?_
                have ev := (show v_X2_isSpanSound sp i1 = (0, (v_X1_putTidy (v_X1_putTidy (v_X1_putOpposite (v_X1_put sp 12 ((sp i1).1.toInt64) ((sp i1).2.1.toInt64) ((sp i1).2.2.toInt64)).2 12 i1).2 12 i1).2 13 12).2) from by unfold v_X2_isSpanSound; rw [if_neg c1, if_neg c2, if_pos c3, if_neg c4, if_neg c5, if_neg c6, if_pos c7])
                exact rt_i X hr (ad, (cf g ad x (v_X1_putTidy (v_X1_putTidy (v_X1_putOpposite (v_X1_put sp 12 ((sp i1).1.toInt64) ((sp i1).2.1.toInt64) ((sp i1).2.2.toInt64)).2 12 i1).2 12 i1).2 13 12).2 dy la kn re)) B (PO_of B) ⟨rfl, by rw [ev], by rw [ev]⟩ rfl (Nat.le_of_ble_eq_true rfl) (Nat.le_of_ble_eq_true rfl) dX2_isSpanSound_133
              · refine lv_iconst (v := 1) hx hb dX2_isSpanSound_128 (by decide) ?_
                refine lv_goto (tgt := 133) hx hb dX2_isSpanSound_129 (by decide) ?_
                have ev := (show v_X2_isSpanSound sp i1 = (1, (v_X1_putTidy (v_X1_putTidy (v_X1_putOpposite (v_X1_put sp 12 ((sp i1).1.toInt64) ((sp i1).2.1.toInt64) ((sp i1).2.2.toInt64)).2 12 i1).2 12 i1).2 13 12).2) from by unfold v_X2_isSpanSound; rw [if_neg c1, if_neg c2, if_pos c3, if_neg c4, if_neg c5, if_neg c6, if_neg c7])
                exact rt_i X hr (ad, (cf g ad x (v_X1_putTidy (v_X1_putTidy (v_X1_putOpposite (v_X1_put sp 12 ((sp i1).1.toInt64) ((sp i1).2.1.toInt64) ((sp i1).2.2.toInt64)).2 12 i1).2 12 i1).2 13 12).2 dy la kn re)) B (PO_of B) ⟨rfl, by rw [ev], by rw [ev]⟩ rfl (Nat.le_of_ble_eq_true rfl) (Nat.le_of_ble_eq_true rfl) dX2_isSpanSound_133
        · refine lv_iconst (v := 1) hx hb dX2_isSpanSound_87 (by decide) ?_
          have ev := (show v_X2_isSpanSound sp i1 = (1, (v_X1_putTidy (v_X1_putOpposite (v_X1_put sp 12 ((sp i1).1.toInt64) ((sp i1).2.1.toInt64) ((sp i1).2.2.toInt64)).2 12 i1).2 12 i1).2) from by unfold v_X2_isSpanSound; rw [if_neg c1, if_neg c2, if_pos c3, if_pos c4])
          exact rt_i X hr (ad, (cf g ad x (v_X1_putTidy (v_X1_putOpposite (v_X1_put sp 12 ((sp i1).1.toInt64) ((sp i1).2.1.toInt64) ((sp i1).2.2.toInt64)).2 12 i1).2 12 i1).2 dy la kn re)) B (PO_of B) ⟨rfl, by rw [ev], by rw [ev]⟩ rfl (Nat.le_of_ble_eq_true rfl) (Nat.le_of_ble_eq_true rfl) dX2_isSpanSound_88
      · refine lv_aload_n hx hb dX2_isSpanSound_49 rfl (lv_at hl 0 rfl) ?_
        refine g_get (q := 0) (k := 7) X hK B rfl in_X2 (pl_c hN 0 (by decide)) cf_0 (by decide) lk_X2_29 rfl rfl dX2_isSpanSound_50 ?_
        refine lv_aload_n hx hb dX2_isSpanSound_53 rfl (lv_at hl 0 rfl) ?_
        refine g_get (q := 0) (k := 6) X hK B rfl in_X2 (pl_c hN 0 (by decide)) cf_0 (by decide) lk_X2_25 rfl rfl dX2_isSpanSound_54 ?_
        refine k_i (k := 0) (n := 0) hA B (u_VN (rest := []) X (c_X1_putOpposite l g N ad x (v_X1_putOpposite (v_X1_put sp 12 ((sp i1).1.toInt64) ((sp i1).2.1.toInt64) ((sp i1).2.2.toInt64)).2 12 i1).2 dy la kn re hN 13 (by decide) 12 (by decide) H.size) mw_X1_putOpposite md_X1_putOpposite rfl lk_X2_84 ⟨Nat.le_of_ble_eq_true rfl, Nat.le_of_ble_eq_true rfl⟩ hA hK hT B (pl_sp hN (by decide)) (cf_sp (by decide)) rfl rfl hl.1 rfl (Nat.le_of_ble_eq_true rfl) dX2_isSpanSound_57 ⟨Nat.le_of_ble_eq_true rfl, Nat.le_of_ble_eq_true rfl⟩) (Nat.le_of_ble_eq_true rfl) (Nat.le_of_ble_eq_true rfl) (fun r ad' f' H locs hw B => ?_)
        obtain ⟨rfl, rfl, rfl⟩ := hw
        refine lv_if_eq (tgt := 74) hx hb dX2_isSpanSound_60 (by decide) (fun c8 => ?_) (fun c8 => ?_)
        · refine lv_iconst (v := 0) hx hb dX2_isSpanSound_74 (by decide) ?_
          have ev := (show v_X2_isSpanSound sp i1 = (0, (v_X1_putOpposite (v_X1_putOpposite (v_X1_put sp 12 ((sp i1).1.toInt64) ((sp i1).2.1.toInt64) ((sp i1).2.2.toInt64)).2 12 i1).2 13 12).2) from by unfold v_X2_isSpanSound; rw [if_neg c1, if_neg c2, if_neg c3, if_pos c8])
          exact rt_i X hr (ad, (cf g ad x (v_X1_putOpposite (v_X1_putOpposite (v_X1_put sp 12 ((sp i1).1.toInt64) ((sp i1).2.1.toInt64) ((sp i1).2.2.toInt64)).2 12 i1).2 13 12).2 dy la kn re)) B (PO_of B) ⟨rfl, by rw [ev], by rw [ev]⟩ rfl (Nat.le_of_ble_eq_true rfl) (Nat.le_of_ble_eq_true rfl) dX2_isSpanSound_75
        · refine lv_aload_n hx hb dX2_isSpanSound_63 rfl (lv_at hl 0 rfl) ?_
          refine g_get (q := 0) (k := 7) X hK B rfl in_X2 (pl_c hN 0 (by decide)) cf_0 (by decide) lk_X2_29 rfl rfl dX2_isSpanSound_64 ?_
          refine lv_aload_n hx hb dX2_isSpanSound_67 rfl (lv_at hl 1 rfl) ?_
          refine k_i (k := 0) (n := 0) hA B (u_VN (rest := []) X (c_X1_isSameAs l g N ad x (v_X1_putOpposite (v_X1_putOpposite (v_X1_put sp 12 ((sp i1).1.toInt64) ((sp i1).2.1.toInt64) ((sp i1).2.2.toInt64)).2 12 i1).2 13 12).2 dy la kn re hN 13 (by decide) i1 hi1 H.size) mw_X1_isSameAs md_X1_isSameAs rfl lk_X2_123 ⟨Nat.le_of_ble_eq_true rfl, Nat.le_of_ble_eq_true rfl⟩ hA hK hT B (pl_sp hN (by decide)) (cf_sp (by decide)) rfl rfl hl.1 rfl (Nat.le_of_ble_eq_true rfl) dX2_isSpanSound_68 ⟨Nat.le_of_ble_eq_true rfl, Nat.le_of_ble_eq_true rfl⟩) (Nat.le_of_ble_eq_true rfl) (Nat.le_of_ble_eq_true rfl) (fun r ad' f' H locs hw B => ?_)
          obtain ⟨rfl, rfl, rfl⟩ := hw
          refine lv_if_ne (tgt := 76) hx hb dX2_isSpanSound_71 (by decide) (fun c9 => ?_) (fun c9 => ?_)
          · refine lv_aload_n hx hb dX2_isSpanSound_76 rfl (lv_at hl 0 rfl) ?_
            refine g_get (q := 0) (k := 6) X hK B rfl in_X2 (pl_c hN 0 (by decide)) cf_0 (by decide) lk_X2_25 rfl rfl dX2_isSpanSound_77 ?_
            refine lv_aload_n hx hb dX2_isSpanSound_80 rfl (lv_at hl 1 rfl) ?_
            refine k_i (k := 0) (n := 0) hA B (u_VN (rest := []) X (c_X1_putTidy l g N ad x (v_X1_putOpposite (v_X1_putOpposite (v_X1_put sp 12 ((sp i1).1.toInt64) ((sp i1).2.1.toInt64) ((sp i1).2.2.toInt64)).2 12 i1).2 13 12).2 dy la kn re hN 12 (by decide) i1 hi1 H.size) mw_X1_putTidy md_X1_putTidy rfl lk_X2_88 ⟨Nat.le_of_ble_eq_true rfl, Nat.le_of_ble_eq_true rfl⟩ hA hK hT B (pl_sp hN (by decide)) (cf_sp (by decide)) rfl rfl hl.1 rfl (Nat.le_of_ble_eq_true rfl) dX2_isSpanSound_81 ⟨Nat.le_of_ble_eq_true rfl, Nat.le_of_ble_eq_true rfl⟩) (Nat.le_of_ble_eq_true rfl) (Nat.le_of_ble_eq_true rfl) (fun r ad' f' H locs hw B => ?_)
            obtain ⟨rfl, rfl, rfl⟩ := hw
            refine lv_if_ne (tgt := 89) hx hb dX2_isSpanSound_84 (by decide) (fun c10 => ?_) (fun c10 => ?_)
            · refine lv_aload_n hx hb dX2_isSpanSound_89 rfl (lv_at hl 0 rfl) ?_
              refine g_get (q := 0) (k := 6) X hK B rfl in_X2 (pl_c hN 0 (by decide)) cf_0 (by decide) lk_X2_25 rfl rfl dX2_isSpanSound_90 ?_
              refine lv_aload_n hx hb dX2_isSpanSound_93 rfl (lv_at hl 1 rfl) ?_
              refine k_i (k := 0) (n := 0) hA B (u_VN (rest := []) X (c_X1_isAlikeTo l g N ad x (v_X1_putTidy (v_X1_putOpposite (v_X1_putOpposite (v_X1_put sp 12 ((sp i1).1.toInt64) ((sp i1).2.1.toInt64) ((sp i1).2.2.toInt64)).2 12 i1).2 13 12).2 12 i1).2 dy la kn re hN 12 (by decide) i1 hi1 H.size) mw_X1_isAlikeTo md_X1_isAlikeTo rfl lk_X2_126 ⟨Nat.le_of_ble_eq_true rfl, Nat.le_of_ble_eq_true rfl⟩ hA hK hT B (pl_sp hN (by decide)) (cf_sp (by decide)) rfl rfl hl.1 rfl (Nat.le_of_ble_eq_true rfl) dX2_isSpanSound_94 ⟨Nat.le_of_ble_eq_true rfl, Nat.le_of_ble_eq_true rfl⟩) (Nat.le_of_ble_eq_true rfl) (Nat.le_of_ble_eq_true rfl) (fun r ad' f' H locs hw B => ?_)
              obtain ⟨rfl, rfl, rfl⟩ := hw
              refine lv_if_eq (tgt := 132) hx hb dX2_isSpanSound_97 (by decide) (fun c11 => ?_) (fun c11 => ?_)
              · refine lv_iconst (v := 0) hx hb dX2_isSpanSound_132 (by decide) ?_
                have ev := (show v_X2_isSpanSound sp i1 = (0, (v_X1_putTidy (v_X1_putOpposite (v_X1_putOpposite (v_X1_put sp 12 ((sp i1).1.toInt64) ((sp i1).2.1.toInt64) ((sp i1).2.2.toInt64)).2 12 i1).2 13 12).2 12 i1).2) from by unfold v_X2_isSpanSound; rw [if_neg c1, if_neg c2, if_neg c3, if_neg c8, if_neg c9, if_neg c10, if_pos c11])
                exact rt_i X hr (ad, (cf g ad x (v_X1_putTidy (v_X1_putOpposite (v_X1_putOpposite (v_X1_put sp 12 ((sp i1).1.toInt64) ((sp i1).2.1.toInt64) ((sp i1).2.2.toInt64)).2 12 i1).2 13 12).2 12 i1).2 dy la kn re)) B (PO_of B) ⟨rfl, by rw [ev], by rw [ev]⟩ rfl (Nat.le_of_ble_eq_true rfl) (Nat.le_of_ble_eq_true rfl) dX2_isSpanSound_133
              · refine lv_aload_n hx hb dX2_isSpanSound_100 rfl (lv_at hl 0 rfl) ?_
                refine g_get (q := 0) (k := 7) X hK B rfl in_X2 (pl_c hN 0 (by decide)) cf_0 (by decide) lk_X2_29 rfl rfl dX2_isSpanSound_101 ?_
                refine lv_aload_n hx hb dX2_isSpanSound_104 rfl (lv_at hl 0 rfl) ?_
                refine g_get (q := 0) (k := 6) X hK B rfl in_X2 (pl_c hN 0 (by decide)) cf_0 (by decide) lk_X2_25 rfl rfl dX2_isSpanSound_105 ?_
                refine k_i (k := 0) (n := 0) hA B (u_VN (rest := []) X (c_X1_putTidy l g N ad x (v_X1_putTidy (v_X1_putOpposite (v_X1_putOpposite (v_X1_put sp 12 ((sp i1).1.toInt64) ((sp i1).2.1.toInt64) ((sp i1).2.2.toInt64)).2 12 i1).2 13 12).2 12 i1).2 dy la kn re hN 13 (by decide) 12 (by decide) H.size) mw_X1_putTidy md_X1_putTidy rfl lk_X2_88 ⟨Nat.le_of_ble_eq_true rfl, Nat.le_of_ble_eq_true rfl⟩ hA hK hT B (pl_sp hN (by decide)) (cf_sp (by decide)) rfl rfl hl.1 rfl (Nat.le_of_ble_eq_true rfl) dX2_isSpanSound_108 ⟨Nat.le_of_ble_eq_true rfl, Nat.le_of_ble_eq_true rfl⟩) (Nat.le_of_ble_eq_true rfl) (Nat.le_of_ble_eq_true rfl) (fun r ad' f' H locs hw B => ?_)
                obtain ⟨rfl, rfl, rfl⟩ := hw
                refine lv_if_eq (tgt := 132) hx hb dX2_isSpanSound_111 (by decide) (fun c12 => ?_) (fun c12 => ?_)
                · refine lv_iconst (v := 0) hx hb dX2_isSpanSound_132 (by decide) ?_
                  have ev := (show v_X2_isSpanSound sp i1 = (0, (v_X1_putTidy (v_X1_putTidy (v_X1_putOpposite (v_X1_putOpposite (v_X1_put sp 12 ((sp i1).1.toInt64) ((sp i1).2.1.toInt64) ((sp i1).2.2.toInt64)).2 12 i1).2 13 12).2 12 i1).2 13 12).2) from by unfold v_X2_isSpanSound; rw [if_neg c1, if_neg c2, if_neg c3, if_neg c8, if_neg c9, if_neg c10, if_neg c11, if_pos c12])
                  exact rt_i X hr (ad, (cf g ad x (v_X1_putTidy (v_X1_putTidy (v_X1_putOpposite (v_X1_putOpposite (v_X1_put sp 12 ((sp i1).1.toInt64) ((sp i1).2.1.toInt64) ((sp i1).2.2.toInt64)).2 12 i1).2 13 12).2 12 i1).2 13 12).2 dy la kn re)) B (PO_of B) ⟨rfl, by rw [ev], by rw [ev]⟩ rfl (Nat.le_of_ble_eq_true rfl) (Nat.le_of_ble_eq_true rfl) dX2_isSpanSound_133
                · refine lv_aload_n hx hb dX2_isSpanSound_114 rfl (lv_at hl 0 rfl) ?_
                  refine g_get (q := 0) (k := 7) X hK B rfl in_X2 (pl_c hN 0 (by decide)) cf_0 (by decide) lk_X2_29 rfl rfl dX2_isSpanSound_115 ?_
                  refine lv_aload_n hx hb dX2_isSpanSound_118 rfl (lv_at hl 0 rfl) ?_
                  refine g_get (q := 0) (k := 6) X hK B rfl in_X2 (pl_c hN 0 (by decide)) cf_0 (by decide) lk_X2_25 rfl rfl dX2_isSpanSound_119 ?_
                  refine k_i (k := 0) (n := 0) hA B (u_VN (rest := []) X (c_X1_isSameAs l g N ad x (v_X1_putTidy (v_X1_putTidy (v_X1_putOpposite (v_X1_putOpposite (v_X1_put sp 12 ((sp i1).1.toInt64) ((sp i1).2.1.toInt64) ((sp i1).2.2.toInt64)).2 12 i1).2 13 12).2 12 i1).2 13 12).2 dy la kn re hN 13 (by decide) 12 (by decide) H.size) mw_X1_isSameAs md_X1_isSameAs rfl lk_X2_123 ⟨Nat.le_of_ble_eq_true rfl, Nat.le_of_ble_eq_true rfl⟩ hA hK hT B (pl_sp hN (by decide)) (cf_sp (by decide)) rfl rfl hl.1 rfl (Nat.le_of_ble_eq_true rfl) dX2_isSpanSound_122 ⟨Nat.le_of_ble_eq_true rfl, Nat.le_of_ble_eq_true rfl⟩) (Nat.le_of_ble_eq_true rfl) (Nat.le_of_ble_eq_true rfl) (fun r ad' f' H locs hw B => ?_)
                  obtain ⟨rfl, rfl, rfl⟩ := hw
                  refine lv_if_eq (tgt := 132) hx hb dX2_isSpanSound_125 (by decide) (fun c13 => ?_) (fun c13 => ?_)
                  · refine lv_iconst (v := 0) hx hb dX2_isSpanSound_132 (by decide) ?_
                    have ev := (show v_X2_isSpanSound sp i1 = (0, (v_X1_putTidy (v_X1_putTidy (v_X1_putOpposite (v_X1_putOpposite (v_X1_put sp 12 ((sp i1).1.toInt64) ((sp i1).2.1.toInt64) ((sp i1).2.2.toInt64)).2 12 i1).2 13 12).2 12 i1).2 13 12).2) from by unfold v_X2_isSpanSound; rw [if_neg c1, if_neg c2, if_neg c3, if_neg c8, if_neg c9, if_neg c10, if_neg c11, if_neg c12, if_pos c13])
                    exact rt_i X hr (ad, (cf g ad x (v_X1_putTidy (v_X1_putTidy (v_X1_putOpposite (v_X1_putOpposite (v_X1_put sp 12 ((sp i1).1.toInt64) ((sp i1).2.1.toInt64) ((sp i1).2.2.toInt64)).2 12 i1).2 13 12).2 12 i1).2 13 12).2 dy la kn re)) B (PO_of B) ⟨rfl, by rw [ev], by rw [ev]⟩ rfl (Nat.le_of_ble_eq_true rfl) (Nat.le_of_ble_eq_true rfl) dX2_isSpanSound_133
                  · refine lv_iconst (v := 1) hx hb dX2_isSpanSound_128 (by decide) ?_
                    refine lv_goto (tgt := 133) hx hb dX2_isSpanSound_129 (by decide) ?_
                    have ev := (show v_X2_isSpanSound sp i1 = (1, (v_X1_putTidy (v_X1_putTidy (v_X1_putOpposite (v_X1_putOpposite (v_X1_put sp 12 ((sp i1).1.toInt64) ((sp i1).2.1.toInt64) ((sp i1).2.2.toInt64)).2 12 i1).2 13 12).2 12 i1).2 13 12).2) from by unfold v_X2_isSpanSound; rw [if_neg c1, if_neg c2, if_neg c3, if_neg c8, if_neg c9, if_neg c10, if_neg c11, if_neg c12, if_neg c13])
                    exact rt_i X hr (ad, (cf g ad x (v_X1_putTidy (v_X1_putTidy (v_X1_putOpposite (v_X1_putOpposite (v_X1_put sp 12 ((sp i1).1.toInt64) ((sp i1).2.1.toInt64) ((sp i1).2.2.toInt64)).2 12 i1).2 13 12).2 12 i1).2 13 12).2 dy la kn re)) B (PO_of B) ⟨rfl, by rw [ev], by rw [ev]⟩ rfl (Nat.le_of_ble_eq_true rfl) (Nat.le_of_ble_eq_true rfl) dX2_isSpanSound_133
            · refine lv_iconst (v := 1) hx hb dX2_isSpanSound_87 (by decide) ?_
              have ev := (show v_X2_isSpanSound sp i1 = (1, (v_X1_putTidy (v_X1_putOpposite (v_X1_putOpposite (v_X1_put sp 12 ((sp i1).1.toInt64) ((sp i1).2.1.toInt64) ((sp i1).2.2.toInt64)).2 12 i1).2 13 12).2 12 i1).2) from by unfold v_X2_isSpanSound; rw [if_neg c1, if_neg c2, if_neg c3, if_neg c8, if_neg c9, if_pos c10])
              exact rt_i X hr (ad, (cf g ad x (v_X1_putTidy (v_X1_putOpposite (v_X1_putOpposite (v_X1_put sp 12 ((sp i1).1.toInt64) ((sp i1).2.1.toInt64) ((sp i1).2.2.toInt64)).2 12 i1).2 13 12).2 12 i1).2 dy la kn re)) B (PO_of B) ⟨rfl, by rw [ev], by rw [ev]⟩ rfl (Nat.le_of_ble_eq_true rfl) (Nat.le_of_ble_eq_true rfl) dX2_isSpanSound_88
          · refine lv_iconst (v := 0) hx hb dX2_isSpanSound_74 (by decide) ?_
            have ev := (show v_X2_isSpanSound sp i1 = (0, (v_X1_putOpposite (v_X1_putOpposite (v_X1_put sp 12 ((sp i1).1.toInt64) ((sp i1).2.1.toInt64) ((sp i1).2.2.toInt64)).2 12 i1).2 13 12).2) from by unfold v_X2_isSpanSound; rw [if_neg c1, if_neg c2, if_neg c3, if_neg c8, if_pos c9])
            exact rt_i X hr (ad, (cf g ad x (v_X1_putOpposite (v_X1_putOpposite (v_X1_put sp 12 ((sp i1).1.toInt64) ((sp i1).2.1.toInt64) ((sp i1).2.2.toInt64)).2 12 i1).2 13 12).2 dy la kn re)) B (PO_of B) ⟨rfl, by rw [ev], by rw [ev]⟩ rfl (Nat.le_of_ble_eq_true rfl) (Nat.le_of_ble_eq_true rfl) dX2_isSpanSound_75
    · refine lv_iconst (v := 0) hx hb dX2_isSpanSound_36 (by decide) ?_
      have ev := (show v_X2_isSpanSound sp i1 = (0, (v_X1_put sp 12 ((sp i1).1.toInt64) ((sp i1).2.1.toInt64) ((sp i1).2.2.toInt64)).2) from by unfold v_X2_isSpanSound; rw [if_neg c1, if_pos c2])
      exact rt_i X hr (ad, (cf g ad x (v_X1_put sp 12 ((sp i1).1.toInt64) ((sp i1).2.1.toInt64) ((sp i1).2.2.toInt64)).2 dy la kn re)) B (PO_of B) ⟨rfl, by rw [ev], by rw [ev]⟩ rfl (Nat.le_of_ble_eq_true rfl) (Nat.le_of_ble_eq_true rfl) dX2_isSpanSound_37
def v_X2_isSumSound (sp : Nat → TR) (i1 : Nat) (i2 : Nat) : Int32 × (Nat → TR) := if (v_X1_putSum sp 12 i1 i2).1 = (v_X1_putSum (v_X1_putSum sp 12 i1 i2).2 13 i2 i1).1 then (if (v_X1_putSum sp 12 i1 i2).1 = 0 then (1, (v_X1_putSum (v_X1_putSum sp 12 i1 i2).2 13 i2 i1).2) else (if (v_X1_isSameAs (v_X1_putSum (v_X1_putSum sp 12 i1 i2).2 13 i2 i1).2 12 13) = 0 then (0, (v_X1_putSum (v_X1_putSum sp 12 i1 i2).2 13 i2 i1).2) else (if (v_X1_putDifference (v_X1_putSum (v_X1_putSum sp 12 i1 i2).2 13 i2 i1).2 13 12 i2).1 = 0 then (0, (v_X1_putDifference (v_X1_putSum (v_X1_putSum sp 12 i1 i2).2 13 i2 i1).2 13 12 i2).2) else (if (v_X1_isSameAs (v_X1_putDifference (v_X1_putSum (v_X1_putSum sp 12 i1 i2).2 13 i2 i1).2 13 12 i2).2 13 i1) = 0 then (0, (v_X1_putDifference (v_X1_putSum (v_X1_putSum sp 12 i1 i2).2 13 i2 i1).2 13 12 i2).2) else (1, (v_X1_putDifference (v_X1_putSum (v_X1_putSum sp 12 i1 i2).2 13 i2 i1).2 13 12 i2).2))))) else (0, (v_X1_putSum (v_X1_putSum sp 12 i1 i2).2 13 i2 i1).2)
theorem b01_X2_isSumSound {sp : Nat → TR} {i1 : Nat} {i2 : Nat} : (v_X2_isSumSound sp i1 i2).1 = 0 ∨ (v_X2_isSumSound sp i1 i2).1 = 1 := by
  unfold v_X2_isSumSound
  by_cases q1 : (v_X1_putSum sp 12 i1 i2).1 = (v_X1_putSum (v_X1_putSum sp 12 i1 i2).2 13 i2 i1).1
  · rw [if_pos q1]
    by_cases q2 : (v_X1_putSum sp 12 i1 i2).1 = 0
    · rw [if_pos q2]
      exact Or.inr rfl
    · rw [if_neg q2]
      by_cases q3 : (v_X1_isSameAs (v_X1_putSum (v_X1_putSum sp 12 i1 i2).2 13 i2 i1).2 12 13) = 0
      · rw [if_pos q3]
        exact Or.inl rfl
      · rw [if_neg q3]
        by_cases q4 : (v_X1_putDifference (v_X1_putSum (v_X1_putSum sp 12 i1 i2).2 13 i2 i1).2 13 12 i2).1 = 0
        · rw [if_pos q4]
          exact Or.inl rfl
        · rw [if_neg q4]
          by_cases q5 : (v_X1_isSameAs (v_X1_putDifference (v_X1_putSum (v_X1_putSum sp 12 i1 i2).2 13 i2 i1).2 13 12 i2).2 13 i1) = 0
          · rw [if_pos q5]
            exact Or.inl rfl
          · rw [if_neg q5]
            exact Or.inr rfl
  · rw [if_neg q1]
    exact Or.inl rfl
set_option maxHeartbeats 4000000 in
set_option maxRecDepth 100000 in
theorem ce_X2_isSumSound (l : Launch) (g : GG) (N : Nat) (ad : Nat → Nat) (x : Nat → va_E) (sp dy : Nat → TR) (la kn re : Int32) (hN : 23 ≤ N) (i1 : Nat) (hi1 : i1 < 14) (i2 : Nat) (hi2 : i2 < 14) : KI l yX2_isSumSound cX2_isSumSound 4 (some .boolean) (rm 3 0 0) g [.ref (ad 0), .ref (ad (4 + i1)), .ref (ad (4 + i2))] N ad (cf g ad x sp dy la kn re) N (fun r ad' f' => ad = ad' ∧ (v_X2_isSumSound sp i1 i2).1 = r ∧ (cf g ad x (v_X2_isSumSound sp i1 i2).2 dy la kn re) = f') := by
  intro sz
  refine mt_start (by decide) (Nat.le_of_ble_eq_true rfl) ?_
  intro p e s m args below meth c hsz X hr hnam hA hK hT H locs B ls hl
  obtain ⟨hx, hb, hml, hown, hts, hlocks⟩ := id X
  have hl : lv_has ls 4 [(0, .ref (ad 0)), (1, .ref (ad (4 + i1))), (2, .ref (ad (4 + i2)))] := hl
  refine lv_aload_n hx hb dX2_isSumSound_0 rfl (lv_at hl 0 rfl) ?_
  refine g_get (q := 0) (k := 6) X hK B rfl in_X2 (pl_c hN 0 (by decide)) cf_0 (by decide) lk_X2_25 rfl rfl dX2_isSumSound_1 ?_
  refine lv_aload_n hx hb dX2_isSumSound_4 rfl (lv_at hl 1 rfl) ?_
  refine lv_aload_n hx hb dX2_isSumSound_5 rfl (lv_at hl 2 rfl) ?_
  refine k_i (k := 0) (n := 0) hA B (u_VN (rest := []) X (c_X1_putSum l g N ad x sp dy la kn re hN 12 (by decide) i1 hi1 i2 hi2 H.size) mw_X1_putSum md_X1_putSum rfl lk_X2_73 ⟨Nat.le_of_ble_eq_true rfl, Nat.le_of_ble_eq_true rfl⟩ hA hK hT B (pl_sp hN (by decide)) (cf_sp (by decide)) rfl rfl hl.1 rfl (Nat.le_of_ble_eq_true rfl) dX2_isSumSound_6 ⟨Nat.le_of_ble_eq_true rfl, Nat.le_of_ble_eq_true rfl⟩) (Nat.le_of_ble_eq_true rfl) (Nat.le_of_ble_eq_true rfl) (fun r ad' f' H locs hw B => ?_)
  obtain ⟨rfl, rfl, rfl⟩ := hw
  refine lv_istore_n (lv' := [(3, .int (v_X1_putSum sp 12 i1 i2).1), (0, .ref (ad 0)), (1, .ref (ad (4 + i1))), (2, .ref (ad (4 + i2)))]) hx hb dX2_isSumSound_9 rfl hl (by decide) rfl (fun ls hl => ?_)
  refine lv_iload_n hx hb dX2_isSumSound_10 rfl (lv_at hl 0 rfl) ?_
  refine lv_aload_n hx hb dX2_isSumSound_11 rfl (lv_at hl 1 rfl) ?_
  refine g_get (q := 0) (k := 7) X hK B rfl in_X2 (pl_c hN 0 (by decide)) cf_0 (by decide) lk_X2_29 rfl rfl dX2_isSumSound_12 ?_
  refine lv_aload_n hx hb dX2_isSumSound_15 rfl (lv_at hl 3 rfl) ?_
  refine lv_aload_n hx hb dX2_isSumSound_16 rfl (lv_at hl 2 rfl) ?_
  refine k_i (k := 0) (n := 0) hA B (u_VN (rest := [.int (v_X1_putSum sp 12 i1 i2).1]) X (c_X1_putSum l g N ad x (v_X1_putSum sp 12 i1 i2).2 dy la kn re hN 13 (by decide) i2 hi2 i1 hi1 H.size) mw_X1_putSum md_X1_putSum rfl lk_X2_73 ⟨Nat.le_of_ble_eq_true rfl, Nat.le_of_ble_eq_true rfl⟩ hA hK hT B (pl_sp hN (by decide)) (cf_sp (by decide)) rfl rfl hl.1 rfl (Nat.le_of_ble_eq_true rfl) dX2_isSumSound_17 ⟨Nat.le_of_ble_eq_true rfl, Nat.le_of_ble_eq_true rfl⟩) (Nat.le_of_ble_eq_true rfl) (Nat.le_of_ble_eq_true rfl) (fun r ad' f' H locs hw B => ?_)
  obtain ⟨rfl, rfl, rfl⟩ := hw
  refine lv_icmp_eq (tgt := 25) hx hb dX2_isSumSound_20 (by decide) (fun c1 => ?_) (fun c1 => ?_)
  · refine lv_iload_n hx hb dX2_isSumSound_25 rfl (lv_at hl 0 rfl) ?_
    refine lv_if_ne (tgt := 31) hx hb dX2_isSumSound_26 (by decide) (fun c2 => ?_) (fun c2 => ?_)
    · refine lv_aload_n hx hb dX2_isSumSound_31 rfl (lv_at hl 1 rfl) ?_
      refine g_get (q := 0) (k := 6) X hK B rfl in_X2 (pl_c hN 0 (by decide)) cf_0 (by decide) lk_X2_25 rfl rfl dX2_isSumSound_32 ?_
      refine lv_aload_n hx hb dX2_isSumSound_35 rfl (lv_at hl 1 rfl) ?_
      refine g_get (q := 0) (k := 7) X hK B rfl in_X2 (pl_c hN 0 (by decide)) cf_0 (by decide) lk_X2_29 rfl rfl dX2_isSumSound_36 ?_
      refine k_i (k := 0) (n := 0) hA B (u_VN (rest := []) X (c_X1_isSameAs l g N ad x (v_X1_putSum (v_X1_putSum sp 12 i1 i2).2 13 i2 i1).2 dy la kn re hN 12 (by decide) 13 (by decide) H.size) mw_X1_isSameAs md_X1_isSameAs rfl lk_X2_123 ⟨Nat.le_of_ble_eq_true rfl, Nat.le_of_ble_eq_true rfl⟩ hA hK hT B (pl_sp hN (by decide)) (cf_sp (by decide)) rfl rfl hl.1 rfl (Nat.le_of_ble_eq_true rfl) dX2_isSumSound_39 ⟨Nat.le_of_ble_eq_true rfl, Nat.le_of_ble_eq_true rfl⟩) (Nat.le_of_ble_eq_true rfl) (Nat.le_of_ble_eq_true rfl) (fun r ad' f' H locs hw B => ?_)
      obtain ⟨rfl, rfl, rfl⟩ := hw
      refine lv_if_ne (tgt := 47) hx hb dX2_isSumSound_42 (by decide) (fun c3 => ?_) (fun c3 => ?_)
      · refine lv_aload_n hx hb dX2_isSumSound_47 rfl (lv_at hl 1 rfl) ?_
        refine g_get (q := 0) (k := 7) X hK B rfl in_X2 (pl_c hN 0 (by decide)) cf_0 (by decide) lk_X2_29 rfl rfl dX2_isSumSound_48 ?_
        refine lv_aload_n hx hb dX2_isSumSound_51 rfl (lv_at hl 1 rfl) ?_
        refine g_get (q := 0) (k := 6) X hK B rfl in_X2 (pl_c hN 0 (by decide)) cf_0 (by decide) lk_X2_25 rfl rfl dX2_isSumSound_52 ?_
        refine lv_aload_n hx hb dX2_isSumSound_55 rfl (lv_at hl 3 rfl) ?_
        refine k_i (k := 0) (n := 0) hA B (u_VN (rest := []) X (c_X1_putDifference l g N ad x (v_X1_putSum (v_X1_putSum sp 12 i1 i2).2 13 i2 i1).2 dy la kn re hN 13 (by decide) 12 (by decide) i2 hi2 H.size) mw_X1_putDifference md_X1_putDifference rfl lk_X2_77 ⟨Nat.le_of_ble_eq_true rfl, Nat.le_of_ble_eq_true rfl⟩ hA hK hT B (pl_sp hN (by decide)) (cf_sp (by decide)) rfl rfl hl.1 rfl (Nat.le_of_ble_eq_true rfl) dX2_isSumSound_56 ⟨Nat.le_of_ble_eq_true rfl, Nat.le_of_ble_eq_true rfl⟩) (Nat.le_of_ble_eq_true rfl) (Nat.le_of_ble_eq_true rfl) (fun r ad' f' H locs hw B => ?_)
        obtain ⟨rfl, rfl, rfl⟩ := hw
        refine lv_if_eq (tgt := 77) hx hb dX2_isSumSound_59 (by decide) (fun c4 => ?_) (fun c4 => ?_)
        · refine lv_iconst (v := 0) hx hb dX2_isSumSound_77 (by decide) ?_
          have ev := (show v_X2_isSumSound sp i1 i2 = (0, (v_X1_putDifference (v_X1_putSum (v_X1_putSum sp 12 i1 i2).2 13 i2 i1).2 13 12 i2).2) from by unfold v_X2_isSumSound; rw [if_pos c1, if_neg c2, if_neg c3, if_pos c4])
          exact rt_i X hr (ad, (cf g ad x (v_X1_putDifference (v_X1_putSum (v_X1_putSum sp 12 i1 i2).2 13 i2 i1).2 13 12 i2).2 dy la kn re)) B (PO_of B) ⟨rfl, by rw [ev], by rw [ev]⟩ rfl (Nat.le_of_ble_eq_true rfl) (Nat.le_of_ble_eq_true rfl) dX2_isSumSound_78
        · refine lv_aload_n hx hb dX2_isSumSound_62 rfl (lv_at hl 1 rfl) ?_
          refine g_get (q := 0) (k := 7) X hK B rfl in_X2 (pl_c hN 0 (by decide)) cf_0 (by decide) lk_X2_29 rfl rfl dX2_isSumSound_63 ?_
          refine lv_aload_n hx hb dX2_isSumSound_66 rfl (lv_at hl 2 rfl) ?_
          refine k_i (k := 0) (n := 0) hA B (u_VN (rest := []) X (c_X1_isSameAs l g N ad x (v_X1_putDifference (v_X1_putSum (v_X1_putSum sp 12 i1 i2).2 13 i2 i1).2 13 12 i2).2 dy la kn re hN 13 (by decide) i1 hi1 H.size) mw_X1_isSameAs md_X1_isSameAs rfl lk_X2_123 ⟨Nat.le_of_ble_eq_true rfl, Nat.le_of_ble_eq_true rfl⟩ hA hK hT B (pl_sp hN (by decide)) (cf_sp (by decide)) rfl rfl hl.1 rfl (Nat.le_of_ble_eq_true rfl) dX2_isSumSound_67 ⟨Nat.le_of_ble_eq_true rfl, Nat.le_of_ble_eq_true rfl⟩) (Nat.le_of_ble_eq_true rfl) (Nat.le_of_ble_eq_true rfl) (fun r ad' f' H locs hw B => ?_)
          obtain ⟨rfl, rfl, rfl⟩ := hw
          refine lv_if_eq (tgt := 77) hx hb dX2_isSumSound_70 (by decide) (fun c5 => ?_) (fun c5 => ?_)
          · refine lv_iconst (v := 0) hx hb dX2_isSumSound_77 (by decide) ?_
            have ev := (show v_X2_isSumSound sp i1 i2 = (0, (v_X1_putDifference (v_X1_putSum (v_X1_putSum sp 12 i1 i2).2 13 i2 i1).2 13 12 i2).2) from by unfold v_X2_isSumSound; rw [if_pos c1, if_neg c2, if_neg c3, if_neg c4, if_pos c5])
            exact rt_i X hr (ad, (cf g ad x (v_X1_putDifference (v_X1_putSum (v_X1_putSum sp 12 i1 i2).2 13 i2 i1).2 13 12 i2).2 dy la kn re)) B (PO_of B) ⟨rfl, by rw [ev], by rw [ev]⟩ rfl (Nat.le_of_ble_eq_true rfl) (Nat.le_of_ble_eq_true rfl) dX2_isSumSound_78
          · refine lv_iconst (v := 1) hx hb dX2_isSumSound_73 (by decide) ?_
            refine lv_goto (tgt := 78) hx hb dX2_isSumSound_74 (by decide) ?_
            have ev := (show v_X2_isSumSound sp i1 i2 = (1, (v_X1_putDifference (v_X1_putSum (v_X1_putSum sp 12 i1 i2).2 13 i2 i1).2 13 12 i2).2) from by unfold v_X2_isSumSound; rw [if_pos c1, if_neg c2, if_neg c3, if_neg c4, if_neg c5])
            exact rt_i X hr (ad, (cf g ad x (v_X1_putDifference (v_X1_putSum (v_X1_putSum sp 12 i1 i2).2 13 i2 i1).2 13 12 i2).2 dy la kn re)) B (PO_of B) ⟨rfl, by rw [ev], by rw [ev]⟩ rfl (Nat.le_of_ble_eq_true rfl) (Nat.le_of_ble_eq_true rfl) dX2_isSumSound_78
      · refine lv_iconst (v := 0) hx hb dX2_isSumSound_45 (by decide) ?_
        have ev := (show v_X2_isSumSound sp i1 i2 = (0, (v_X1_putSum (v_X1_putSum sp 12 i1 i2).2 13 i2 i1).2) from by unfold v_X2_isSumSound; rw [if_pos c1, if_neg c2, if_pos c3])
        exact rt_i X hr (ad, (cf g ad x (v_X1_putSum (v_X1_putSum sp 12 i1 i2).2 13 i2 i1).2 dy la kn re)) B (PO_of B) ⟨rfl, by rw [ev], by rw [ev]⟩ rfl (Nat.le_of_ble_eq_true rfl) (Nat.le_of_ble_eq_true rfl) dX2_isSumSound_46
    · refine lv_iconst (v := 1) hx hb dX2_isSumSound_29 (by decide) ?_
      have ev := (show v_X2_isSumSound sp i1 i2 = (1, (v_X1_putSum (v_X1_putSum sp 12 i1 i2).2 13 i2 i1).2) from by unfold v_X2_isSumSound; rw [if_pos c1, if_pos c2])
      exact rt_i X hr (ad, (cf g ad x (v_X1_putSum (v_X1_putSum sp 12 i1 i2).2 13 i2 i1).2 dy la kn re)) B (PO_of B) ⟨rfl, by rw [ev], by rw [ev]⟩ rfl (Nat.le_of_ble_eq_true rfl) (Nat.le_of_ble_eq_true rfl) dX2_isSumSound_30
  · refine lv_iconst (v := 0) hx hb dX2_isSumSound_23 (by decide) ?_
    have ev := (show v_X2_isSumSound sp i1 i2 = (0, (v_X1_putSum (v_X1_putSum sp 12 i1 i2).2 13 i2 i1).2) from by unfold v_X2_isSumSound; rw [if_neg c1])
    exact rt_i X hr (ad, (cf g ad x (v_X1_putSum (v_X1_putSum sp 12 i1 i2).2 13 i2 i1).2 dy la kn re)) B (PO_of B) ⟨rfl, by rw [ev], by rw [ev]⟩ rfl (Nat.le_of_ble_eq_true rfl) (Nat.le_of_ble_eq_true rfl) dX2_isSumSound_24
def v_X2_isAlikenessSound (sp : Nat → TR) (i1 : Nat) (i2 : Nat) : Int32 × (Nat → TR) := if (v_X1_putOpposite sp 12 i1).1 = 0 then (1, (v_X1_putOpposite sp 12 i1).2) else (if (v_X1_putOpposite (v_X1_putOpposite sp 12 i1).2 13 i2).1 = 0 then (1, (v_X1_putOpposite (v_X1_putOpposite sp 12 i1).2 13 i2).2) else (if (v_X1_isAlikeTo (v_X1_putOpposite (v_X1_putOpposite sp 12 i1).2 13 i2).2 12 13) = (v_X1_isAlikeTo (v_X1_putOpposite (v_X1_putOpposite sp 12 i1).2 13 i2).2 i1 i2) then (1, (v_X1_putOpposite (v_X1_putOpposite sp 12 i1).2 13 i2).2) else (0, (v_X1_putOpposite (v_X1_putOpposite sp 12 i1).2 13 i2).2)))
theorem b01_X2_isAlikenessSound {sp : Nat → TR} {i1 : Nat} {i2 : Nat} : (v_X2_isAlikenessSound sp i1 i2).1 = 0 ∨ (v_X2_isAlikenessSound sp i1 i2).1 = 1 := by
  unfold v_X2_isAlikenessSound
  by_cases q1 : (v_X1_putOpposite sp 12 i1).1 = 0
  · rw [if_pos q1]
    exact Or.inr rfl
  · rw [if_neg q1]
    by_cases q2 : (v_X1_putOpposite (v_X1_putOpposite sp 12 i1).2 13 i2).1 = 0
    · rw [if_pos q2]
      exact Or.inr rfl
    · rw [if_neg q2]
      by_cases q3 : (v_X1_isAlikeTo (v_X1_putOpposite (v_X1_putOpposite sp 12 i1).2 13 i2).2 12 13) = (v_X1_isAlikeTo (v_X1_putOpposite (v_X1_putOpposite sp 12 i1).2 13 i2).2 i1 i2)
      · rw [if_pos q3]
        exact Or.inr rfl
      · rw [if_neg q3]
        exact Or.inl rfl
set_option maxHeartbeats 4000000 in
set_option maxRecDepth 100000 in
theorem ce_X2_isAlikenessSound (l : Launch) (g : GG) (N : Nat) (ad : Nat → Nat) (x : Nat → va_E) (sp dy : Nat → TR) (la kn re : Int32) (hN : 23 ≤ N) (i1 : Nat) (hi1 : i1 < 14) (i2 : Nat) (hi2 : i2 < 14) : KI l yX2_isAlikenessSound cX2_isAlikenessSound 3 (some .boolean) (rm 4 0 0) g [.ref (ad 0), .ref (ad (4 + i1)), .ref (ad (4 + i2))] N ad (cf g ad x sp dy la kn re) N (fun r ad' f' => ad = ad' ∧ (v_X2_isAlikenessSound sp i1 i2).1 = r ∧ (cf g ad x (v_X2_isAlikenessSound sp i1 i2).2 dy la kn re) = f') := by
  intro sz
  refine mt_start (by decide) (Nat.le_of_ble_eq_true rfl) ?_
  intro p e s m args below meth c hsz X hr hnam hA hK hT H locs B ls hl
  obtain ⟨hx, hb, hml, hown, hts, hlocks⟩ := id X
  have hl : lv_has ls 3 [(0, .ref (ad 0)), (1, .ref (ad (4 + i1))), (2, .ref (ad (4 + i2)))] := hl
  refine lv_aload_n hx hb dX2_isAlikenessSound_0 rfl (lv_at hl 0 rfl) ?_
  refine g_get (q := 0) (k := 6) X hK B rfl in_X2 (pl_c hN 0 (by decide)) cf_0 (by decide) lk_X2_25 rfl rfl dX2_isAlikenessSound_1 ?_
  refine lv_aload_n hx hb dX2_isAlikenessSound_4 rfl (lv_at hl 1 rfl) ?_
  refine k_i (k := 0) (n := 0) hA B (u_VN (rest := []) X (c_X1_putOpposite l g N ad x sp dy la kn re hN 12 (by decide) i1 hi1 H.size) mw_X1_putOpposite md_X1_putOpposite rfl lk_X2_84 ⟨Nat.le_of_ble_eq_true rfl, Nat.le_of_ble_eq_true rfl⟩ hA hK hT B (pl_sp hN (by decide)) (cf_sp (by decide)) rfl rfl hl.1 rfl (Nat.le_of_ble_eq_true rfl) dX2_isAlikenessSound_5 ⟨Nat.le_of_ble_eq_true rfl, Nat.le_of_ble_eq_true rfl⟩) (Nat.le_of_ble_eq_true rfl) (Nat.le_of_ble_eq_true rfl) (fun r ad' f' H locs hw B => ?_)
  obtain ⟨rfl, rfl, rfl⟩ := hw
  refine lv_if_eq (tgt := 22) hx hb dX2_isAlikenessSound_8 (by decide) (fun c1 => ?_) (fun c1 => ?_)
  · refine lv_iconst (v := 1) hx hb dX2_isAlikenessSound_22 (by decide) ?_
    have ev := (show v_X2_isAlikenessSound sp i1 i2 = (1, (v_X1_putOpposite sp 12 i1).2) from by unfold v_X2_isAlikenessSound; rw [if_pos c1])
    exact rt_i X hr (ad, (cf g ad x (v_X1_putOpposite sp 12 i1).2 dy la kn re)) B (PO_of B) ⟨rfl, by rw [ev], by rw [ev]⟩ rfl (Nat.le_of_ble_eq_true rfl) (Nat.le_of_ble_eq_true rfl) dX2_isAlikenessSound_23
  · refine lv_aload_n hx hb dX2_isAlikenessSound_11 rfl (lv_at hl 0 rfl) ?_
    refine g_get (q := 0) (k := 7) X hK B rfl in_X2 (pl_c hN 0 (by decide)) cf_0 (by decide) lk_X2_29 rfl rfl dX2_isAlikenessSound_12 ?_
    refine lv_aload_n hx hb dX2_isAlikenessSound_15 rfl (lv_at hl 2 rfl) ?_
    refine k_i (k := 0) (n := 0) hA B (u_VN (rest := []) X (c_X1_putOpposite l g N ad x (v_X1_putOpposite sp 12 i1).2 dy la kn re hN 13 (by decide) i2 hi2 H.size) mw_X1_putOpposite md_X1_putOpposite rfl lk_X2_84 ⟨Nat.le_of_ble_eq_true rfl, Nat.le_of_ble_eq_true rfl⟩ hA hK hT B (pl_sp hN (by decide)) (cf_sp (by decide)) rfl rfl hl.1 rfl (Nat.le_of_ble_eq_true rfl) dX2_isAlikenessSound_16 ⟨Nat.le_of_ble_eq_true rfl, Nat.le_of_ble_eq_true rfl⟩) (Nat.le_of_ble_eq_true rfl) (Nat.le_of_ble_eq_true rfl) (fun r ad' f' H locs hw B => ?_)
    obtain ⟨rfl, rfl, rfl⟩ := hw
    refine lv_if_ne (tgt := 24) hx hb dX2_isAlikenessSound_19 (by decide) (fun c2 => ?_) (fun c2 => ?_)
    · refine lv_aload_n hx hb dX2_isAlikenessSound_24 rfl (lv_at hl 0 rfl) ?_
      refine g_get (q := 0) (k := 6) X hK B rfl in_X2 (pl_c hN 0 (by decide)) cf_0 (by decide) lk_X2_25 rfl rfl dX2_isAlikenessSound_25 ?_
      refine lv_aload_n hx hb dX2_isAlikenessSound_28 rfl (lv_at hl 0 rfl) ?_
      refine g_get (q := 0) (k := 7) X hK B rfl in_X2 (pl_c hN 0 (by decide)) cf_0 (by decide) lk_X2_29 rfl rfl dX2_isAlikenessSound_29 ?_
      refine k_i (k := 0) (n := 0) hA B (u_VN (rest := []) X (c_X1_isAlikeTo l g N ad x (v_X1_putOpposite (v_X1_putOpposite sp 12 i1).2 13 i2).2 dy la kn re hN 12 (by decide) 13 (by decide) H.size) mw_X1_isAlikeTo md_X1_isAlikeTo rfl lk_X2_126 ⟨Nat.le_of_ble_eq_true rfl, Nat.le_of_ble_eq_true rfl⟩ hA hK hT B (pl_sp hN (by decide)) (cf_sp (by decide)) rfl rfl hl.1 rfl (Nat.le_of_ble_eq_true rfl) dX2_isAlikenessSound_32 ⟨Nat.le_of_ble_eq_true rfl, Nat.le_of_ble_eq_true rfl⟩) (Nat.le_of_ble_eq_true rfl) (Nat.le_of_ble_eq_true rfl) (fun r ad' f' H locs hw B => ?_)
      obtain ⟨rfl, rfl, rfl⟩ := hw
      refine lv_aload_n hx hb dX2_isAlikenessSound_35 rfl (lv_at hl 1 rfl) ?_
      refine lv_aload_n hx hb dX2_isAlikenessSound_36 rfl (lv_at hl 2 rfl) ?_
      refine k_i (k := 0) (n := 0) hA B (u_VN (rest := [.int (v_X1_isAlikeTo (v_X1_putOpposite (v_X1_putOpposite sp 12 i1).2 13 i2).2 12 13)]) X (c_X1_isAlikeTo l g N ad x (v_X1_putOpposite (v_X1_putOpposite sp 12 i1).2 13 i2).2 dy la kn re hN i1 hi1 i2 hi2 H.size) mw_X1_isAlikeTo md_X1_isAlikeTo rfl lk_X2_126 ⟨Nat.le_of_ble_eq_true rfl, Nat.le_of_ble_eq_true rfl⟩ hA hK hT B (pl_sp hN hi1) (cf_sp hi1) rfl rfl hl.1 rfl (Nat.le_of_ble_eq_true rfl) dX2_isAlikenessSound_37 ⟨Nat.le_of_ble_eq_true rfl, Nat.le_of_ble_eq_true rfl⟩) (Nat.le_of_ble_eq_true rfl) (Nat.le_of_ble_eq_true rfl) (fun r ad' f' H locs hw B => ?_)
      obtain ⟨rfl, rfl, rfl⟩ := hw
      refine lv_icmp_ne (tgt := 47) hx hb dX2_isAlikenessSound_40 (by decide) (fun c3 => ?_) (fun c3 => ?_)
      · refine lv_iconst (v := 0) hx hb dX2_isAlikenessSound_47 (by decide) ?_
        have ev := (show v_X2_isAlikenessSound sp i1 i2 = (0, (v_X1_putOpposite (v_X1_putOpposite sp 12 i1).2 13 i2).2) from by unfold v_X2_isAlikenessSound; rw [if_neg c1, if_neg c2, if_neg c3])
        exact rt_i X hr (ad, (cf g ad x (v_X1_putOpposite (v_X1_putOpposite sp 12 i1).2 13 i2).2 dy la kn re)) B (PO_of B) ⟨rfl, by rw [ev], by rw [ev]⟩ rfl (Nat.le_of_ble_eq_true rfl) (Nat.le_of_ble_eq_true rfl) dX2_isAlikenessSound_48
      · refine lv_iconst (v := 1) hx hb dX2_isAlikenessSound_43 (by decide) ?_
        refine lv_goto (tgt := 48) hx hb dX2_isAlikenessSound_44 (by decide) ?_
        have ev := (show v_X2_isAlikenessSound sp i1 i2 = (1, (v_X1_putOpposite (v_X1_putOpposite sp 12 i1).2 13 i2).2) from by unfold v_X2_isAlikenessSound; rw [if_neg c1, if_neg c2, if_pos c3])
        exact rt_i X hr (ad, (cf g ad x (v_X1_putOpposite (v_X1_putOpposite sp 12 i1).2 13 i2).2 dy la kn re)) B (PO_of B) ⟨rfl, by rw [ev], by rw [ev]⟩ rfl (Nat.le_of_ble_eq_true rfl) (Nat.le_of_ble_eq_true rfl) dX2_isAlikenessSound_48
    · refine lv_iconst (v := 1) hx hb dX2_isAlikenessSound_22 (by decide) ?_
      have ev := (show v_X2_isAlikenessSound sp i1 i2 = (1, (v_X1_putOpposite (v_X1_putOpposite sp 12 i1).2 13 i2).2) from by unfold v_X2_isAlikenessSound; rw [if_neg c1, if_pos c2])
      exact rt_i X hr (ad, (cf g ad x (v_X1_putOpposite (v_X1_putOpposite sp 12 i1).2 13 i2).2 dy la kn re)) B (PO_of B) ⟨rfl, by rw [ev], by rw [ev]⟩ rfl (Nat.le_of_ble_eq_true rfl) (Nat.le_of_ble_eq_true rfl) dX2_isAlikenessSound_23
/-! that all is sound, always: of the class's (its exact contracts stand ahead) -/
theorem ss_tl {S : Nat → TR} {i : Nat} (hi : i < 12) : ¬ (if (v_X1_putTidy S 12 i).1 = 0 then ((1 : Int32), (v_X1_putTidy S 12 i).2) else (if (v_X1_isAlikeTo (v_X1_putTidy S 12 i).2 12 i) = 0 then (0, (v_X1_putTidy S 12 i).2) else (if (v_X1_putTidy (v_X1_putTidy S 12 i).2 13 12).1 = 0 then (0, (v_X1_putTidy (v_X1_putTidy S 12 i).2 13 12).2) else (if (v_X1_isSameAs (v_X1_putTidy (v_X1_putTidy S 12 i).2 13 12).2 13 12) = 0 then (0, (v_X1_putTidy (v_X1_putTidy S 12 i).2 13 12).2) else (1, (v_X1_putTidy (v_X1_putTidy S 12 i).2 13 12).2))))).1 = 0 := by
  rw [ptid_eq S 12 i]
  cases e : v_X4_tidied (S i) with
  | none =>
    rw [om_none rfl]
    dsimp only
    rw [if_pos rfl]
    show ¬ (1 : Int32) = 0
    decide
  | some u =>
    rw [om_s]
    dsimp only
    rw [if_neg (show ¬ (1 : Int32) = 0 by decide)]
    have q1 : va_up S 12 u 12 = u := va_up_self _ _ _
    have q2 : va_up S 12 u i = S i := va_up_ne _ _ (by omega)
    have ea : v_X1_isAlikeTo (va_up S 12 u) 12 i = 1 := by
      rw [ali_eq (cr := va_up S 12 u) rfl rfl, q1, q2]
      exact tid_alike e
    rw [ea, if_neg (show ¬ (1 : Int32) = 0 by decide), ptid_eq (va_up S 12 u) 13 12, q1, tidy_tidy e, om_s]
    dsimp only
    have q3 : va_up (va_up S 12 u) 13 u 13 = va_up (va_up S 12 u) 13 u 12 := by
      rw [va_up_self, va_up_ne _ _ (show 12 ≠ 13 by decide), q1]
    rw [if_neg (show ¬ (1 : Int32) = 0 by decide), if_neg (x2_same q3)]
    show ¬ (1 : Int32) = 0
    decide
theorem ne_ss {sp : Nat → TR} {i : Nat} (hi : i < 12) : ¬ (v_X2_isSpanSound sp i).1 = 0 := by
  unfold v_X2_isSpanSound
  have e1 : v_X1_put sp 12 (sp i).1.toInt64 (sp i).2.1.toInt64 (sp i).2.2.toInt64 = (1, va_up sp 12 (sp i)) := by
    rw [put_eq, span_32]; rfl
  rw [e1]
  have q1 : va_up sp 12 (sp i) 12 = sp i := va_up_self _ _ _
  have q2 : va_up sp 12 (sp i) i = sp i := va_up_ne _ _ (by omega)
  dsimp only
  rw [if_neg (show ¬ (1 : Int32) = 0 by decide), if_neg (x2_same (q1.trans q2.symm))]
  generalize sp i = t at q1 q2 ⊢
  generalize va_up sp 12 t = S at q1 q2 ⊢
  rw [popp_eq S 12 i, q2]
  cases e : v_X4_opposed t with
  | none =>
    rw [om_none rfl]
    dsimp only
    rw [if_pos rfl]
    exact ss_tl hi
  | some w =>
    rw [om_s]
    dsimp only
    rw [if_neg (show ¬ (1 : Int32) = 0 by decide), popp_eq (va_up S 12 w) 13 12, va_up_self, opp_opp e, om_s]
    dsimp only
    have q3 : va_up (va_up S 12 w) 13 t 13 = va_up (va_up S 12 w) 13 t i := by
      rw [va_up_self, va_up_ne _ _ (show i ≠ 13 by omega), va_up_ne _ _ (show i ≠ 12 by omega), q2]
    rw [if_neg (show ¬ (1 : Int32) = 0 by decide), if_neg (x2_same q3)]
    exact ss_tl hi
theorem ne_su {sp : Nat → TR} {i j : Nat} (hi : i < 12) (hj : j < 12) : ¬ (v_X2_isSumSound sp i j).1 = 0 := by
  unfold v_X2_isSumSound
  rw [psum_eq sp 12 i j]
  cases e : v_X4_sum (sp i) 1 (sp j) with
  | none =>
    rw [om_none rfl]
    dsimp only
    rw [psum_eq sp 13 j i, sum_cm, e, om_none rfl]
    dsimp only
    rw [if_pos rfl, if_pos rfl]
    show ¬ (1 : Int32) = 0
    decide
  | some t =>
    rw [om_s]
    dsimp only
    have a1 : va_up sp 12 t i = sp i := va_up_ne _ _ (by omega)
    have a2 : va_up sp 12 t j = sp j := va_up_ne _ _ (by omega)
    have a3 : va_up sp 12 t 12 = t := va_up_self _ _ _
    rw [psum_eq (va_up sp 12 t) 13 j i, a1, a2, sum_cm, e, om_s]
    dsimp only
    have b1 : va_up (va_up sp 12 t) 13 t 12 = t := by rw [va_up_ne _ _ (show 12 ≠ 13 by decide), a3]
    have b2 : va_up (va_up sp 12 t) 13 t 13 = t := va_up_self _ _ _
    have b3 : va_up (va_up sp 12 t) 13 t j = sp j := by rw [va_up_ne _ _ (show j ≠ 13 by omega), a2]
    rw [if_pos rfl, if_neg (show ¬ (1 : Int32) = 0 by decide), if_neg (x2_same (b1.trans b2.symm)), pdif_eq (va_up (va_up sp 12 t) 13 t) 13 12 j, b1, b3, sum_back e, om_s]
    dsimp only
    have c1 : va_up (va_up (va_up sp 12 t) 13 t) 13 (sp i) 13 = va_up (va_up (va_up sp 12 t) 13 t) 13 (sp i) i := by
      rw [va_up_self, va_up_ne _ _ (show i ≠ 13 by omega), va_up_ne _ _ (show i ≠ 13 by omega), a1]
    rw [if_neg (show ¬ (1 : Int32) = 0 by decide), if_neg (x2_same c1)]
    show ¬ (1 : Int32) = 0
    decide
theorem ne_al {sp : Nat → TR} {i j : Nat} (hi : i < 12) (hj : j < 12) : ¬ (v_X2_isAlikenessSound sp i j).1 = 0 := by
  unfold v_X2_isAlikenessSound
  rw [popp_eq sp 12 i]
  cases e : v_X4_opposed (sp i) with
  | none =>
    rw [om_none rfl]
    dsimp only
    rw [if_pos rfl]
    show ¬ (1 : Int32) = 0
    decide
  | some u =>
    rw [om_s]
    dsimp only
    have a1 : va_up sp 12 u j = sp j := va_up_ne _ _ (by omega)
    rw [if_neg (show ¬ (1 : Int32) = 0 by decide), popp_eq (va_up sp 12 u) 13 j, a1]
    cases e2 : v_X4_opposed (sp j) with
    | none =>
      rw [om_none rfl]
      dsimp only
      rw [if_pos rfl]
      show ¬ (1 : Int32) = 0
      decide
    | some w =>
      rw [om_s]
      dsimp only
      have b1 : va_up (va_up sp 12 u) 13 w 12 = u := by rw [va_up_ne _ _ (show 12 ≠ 13 by decide), va_up_self]
      have b2 : va_up (va_up sp 12 u) 13 w 13 = w := va_up_self _ _ _
      have b3 : va_up (va_up sp 12 u) 13 w i = sp i := by rw [va_up_ne _ _ (show i ≠ 13 by omega), va_up_ne _ _ (show i ≠ 12 by omega)]
      have b4 : va_up (va_up sp 12 u) 13 w j = sp j := by rw [va_up_ne _ _ (show j ≠ 13 by omega), a1]
      have c1 : v_X1_isAlikeTo (va_up (va_up sp 12 u) 13 w) 12 13 = v_X1_isAlikeTo (va_up (va_up sp 12 u) 13 w) i j := by
        rw [ali_eq (cr := va_up (va_up sp 12 u) 13 w) rfl rfl, ali_eq (cr := va_up (va_up sp 12 u) 13 w) rfl rfl, b1, b2, b3, b4]
        exact (opp_alike e e2).symm
      rw [if_neg (show ¬ (1 : Int32) = 0 by decide), if_pos c1]
      show ¬ (1 : Int32) = 0
      decide
theorem on_ss {sp : Nat → TR} {i : Nat} (hi : i < 12) : (v_X2_isSpanSound sp i).1 = 1 := b01_X2_isSpanSound.resolve_left (ne_ss hi)
theorem on_su {sp : Nat → TR} {i j : Nat} (hi : i < 12) (hj : j < 12) : (v_X2_isSumSound sp i j).1 = 1 := b01_X2_isSumSound.resolve_left (ne_su hi hj)
theorem on_al {sp : Nat → TR} {i j : Nat} (hi : i < 12) (hj : j < 12) : (v_X2_isAlikenessSound sp i j).1 = 1 := b01_X2_isAlikenessSound.resolve_left (ne_al hi hj)
theorem on_ld {sp dy : Nat → TR} {i j : Nat} (hi : okv (dy i)) (hj : okv (dy j)) (h4 : j ≠ 4) (h : ¬ (v_X1_putBetween sp dy 12 i j).1 = 0) : (v_X2_leads (v_X1_putBetween sp dy 12 i j).2 dy i 12 j).1 = 1 := b01_X2_leads.resolve_left (ne_ld hi hj h4 h)
theorem KI_mono {l : Launch} {y : MethodName} {cc : ByteArray} {maxL : Nat} {ret : Option FieldType} {rm : Room} {g : GG} {av : List Value} {N : Nat} {ad : Nat → Nat} {f : Nat → va_E} {N' : Nat} {post post' : Int32 → (Nat → Nat) → (Nat → va_E) → Prop} (h : KI l y cc maxL ret rm g av N ad f N' post) (k : ∀ r ad' f', post r ad' f' → post' r ad' f') : KI l y cc maxL ret rm g av N ad f N' post' := by
  intro sz
  refine MetFree.mono (h sz) (fun _ _ p => p) (fun _ _ _ _ _ q => q) (fun a st o t _ q => ?_)
  obtain ⟨⟨⟨r, u, h1, h2, h3⟩, h4⟩, h5⟩ := q
  exact ⟨⟨⟨r, u, h1, k _ _ _ h2, h3⟩, h4⟩, h5⟩
theorem kq_X2_isSpanSound {sp : Nat → TR} {i1 : Nat} {j : Nat} (hj : j < 12) : (v_X2_isSpanSound sp i1).2 j = sp j := by
  have n12 : j ≠ 12 := by omega
  have n13 : j ≠ 13 := by omega
  unfold v_X2_isSpanSound
  by_cases q1 : (v_X1_put sp 12 ((sp i1).1.toInt64) ((sp i1).2.1.toInt64) ((sp i1).2.2.toInt64)).1 = 0
  · rw [if_pos q1]
    simp only [kp_X1_put_sp n12, kp_X1_put_sp n13, kp_X1_putOpposite_sp n12, kp_X1_putOpposite_sp n13, kp_X1_putTidy_sp n12, kp_X1_putTidy_sp n13, kp_X1_putSum_sp n12, kp_X1_putSum_sp n13, kp_X1_putDifference_sp n12, kp_X1_putDifference_sp n13]
  · rw [if_neg q1]
    by_cases q2 : (v_X1_isSameAs (v_X1_put sp 12 ((sp i1).1.toInt64) ((sp i1).2.1.toInt64) ((sp i1).2.2.toInt64)).2 12 i1) = 0
    · rw [if_pos q2]
      simp only [kp_X1_put_sp n12, kp_X1_put_sp n13, kp_X1_putOpposite_sp n12, kp_X1_putOpposite_sp n13, kp_X1_putTidy_sp n12, kp_X1_putTidy_sp n13, kp_X1_putSum_sp n12, kp_X1_putSum_sp n13, kp_X1_putDifference_sp n12, kp_X1_putDifference_sp n13]
    · rw [if_neg q2]
      by_cases q3 : (v_X1_putOpposite (v_X1_put sp 12 ((sp i1).1.toInt64) ((sp i1).2.1.toInt64) ((sp i1).2.2.toInt64)).2 12 i1).1 = 0
      · rw [if_pos q3]
        by_cases q4 : (v_X1_putTidy (v_X1_putOpposite (v_X1_put sp 12 ((sp i1).1.toInt64) ((sp i1).2.1.toInt64) ((sp i1).2.2.toInt64)).2 12 i1).2 12 i1).1 = 0
        · rw [if_pos q4]
          simp only [kp_X1_put_sp n12, kp_X1_put_sp n13, kp_X1_putOpposite_sp n12, kp_X1_putOpposite_sp n13, kp_X1_putTidy_sp n12, kp_X1_putTidy_sp n13, kp_X1_putSum_sp n12, kp_X1_putSum_sp n13, kp_X1_putDifference_sp n12, kp_X1_putDifference_sp n13]
        · rw [if_neg q4]
          by_cases q5 : (v_X1_isAlikeTo (v_X1_putTidy (v_X1_putOpposite (v_X1_put sp 12 ((sp i1).1.toInt64) ((sp i1).2.1.toInt64) ((sp i1).2.2.toInt64)).2 12 i1).2 12 i1).2 12 i1) = 0
          · rw [if_pos q5]
            simp only [kp_X1_put_sp n12, kp_X1_put_sp n13, kp_X1_putOpposite_sp n12, kp_X1_putOpposite_sp n13, kp_X1_putTidy_sp n12, kp_X1_putTidy_sp n13, kp_X1_putSum_sp n12, kp_X1_putSum_sp n13, kp_X1_putDifference_sp n12, kp_X1_putDifference_sp n13]
          · rw [if_neg q5]
            by_cases q6 : (v_X1_putTidy (v_X1_putTidy (v_X1_putOpposite (v_X1_put sp 12 ((sp i1).1.toInt64) ((sp i1).2.1.toInt64) ((sp i1).2.2.toInt64)).2 12 i1).2 12 i1).2 13 12).1 = 0
            · rw [if_pos q6]
              simp only [kp_X1_put_sp n12, kp_X1_put_sp n13, kp_X1_putOpposite_sp n12, kp_X1_putOpposite_sp n13, kp_X1_putTidy_sp n12, kp_X1_putTidy_sp n13, kp_X1_putSum_sp n12, kp_X1_putSum_sp n13, kp_X1_putDifference_sp n12, kp_X1_putDifference_sp n13]
            · rw [if_neg q6]
              by_cases q7 : (v_X1_isSameAs (v_X1_putTidy (v_X1_putTidy (v_X1_putOpposite (v_X1_put sp 12 ((sp i1).1.toInt64) ((sp i1).2.1.toInt64) ((sp i1).2.2.toInt64)).2 12 i1).2 12 i1).2 13 12).2 13 12) = 0
              · rw [if_pos q7]
                simp only [kp_X1_put_sp n12, kp_X1_put_sp n13, kp_X1_putOpposite_sp n12, kp_X1_putOpposite_sp n13, kp_X1_putTidy_sp n12, kp_X1_putTidy_sp n13, kp_X1_putSum_sp n12, kp_X1_putSum_sp n13, kp_X1_putDifference_sp n12, kp_X1_putDifference_sp n13]
              · rw [if_neg q7]
                simp only [kp_X1_put_sp n12, kp_X1_put_sp n13, kp_X1_putOpposite_sp n12, kp_X1_putOpposite_sp n13, kp_X1_putTidy_sp n12, kp_X1_putTidy_sp n13, kp_X1_putSum_sp n12, kp_X1_putSum_sp n13, kp_X1_putDifference_sp n12, kp_X1_putDifference_sp n13]
      · rw [if_neg q3]
        by_cases q8 : (v_X1_putOpposite (v_X1_putOpposite (v_X1_put sp 12 ((sp i1).1.toInt64) ((sp i1).2.1.toInt64) ((sp i1).2.2.toInt64)).2 12 i1).2 13 12).1 = 0
        · rw [if_pos q8]
          simp only [kp_X1_put_sp n12, kp_X1_put_sp n13, kp_X1_putOpposite_sp n12, kp_X1_putOpposite_sp n13, kp_X1_putTidy_sp n12, kp_X1_putTidy_sp n13, kp_X1_putSum_sp n12, kp_X1_putSum_sp n13, kp_X1_putDifference_sp n12, kp_X1_putDifference_sp n13]
        · rw [if_neg q8]
          by_cases q9 : (v_X1_isSameAs (v_X1_putOpposite (v_X1_putOpposite (v_X1_put sp 12 ((sp i1).1.toInt64) ((sp i1).2.1.toInt64) ((sp i1).2.2.toInt64)).2 12 i1).2 13 12).2 13 i1) = 0
          · rw [if_pos q9]
            simp only [kp_X1_put_sp n12, kp_X1_put_sp n13, kp_X1_putOpposite_sp n12, kp_X1_putOpposite_sp n13, kp_X1_putTidy_sp n12, kp_X1_putTidy_sp n13, kp_X1_putSum_sp n12, kp_X1_putSum_sp n13, kp_X1_putDifference_sp n12, kp_X1_putDifference_sp n13]
          · rw [if_neg q9]
            by_cases q10 : (v_X1_putTidy (v_X1_putOpposite (v_X1_putOpposite (v_X1_put sp 12 ((sp i1).1.toInt64) ((sp i1).2.1.toInt64) ((sp i1).2.2.toInt64)).2 12 i1).2 13 12).2 12 i1).1 = 0
            · rw [if_pos q10]
              simp only [kp_X1_put_sp n12, kp_X1_put_sp n13, kp_X1_putOpposite_sp n12, kp_X1_putOpposite_sp n13, kp_X1_putTidy_sp n12, kp_X1_putTidy_sp n13, kp_X1_putSum_sp n12, kp_X1_putSum_sp n13, kp_X1_putDifference_sp n12, kp_X1_putDifference_sp n13]
            · rw [if_neg q10]
              by_cases q11 : (v_X1_isAlikeTo (v_X1_putTidy (v_X1_putOpposite (v_X1_putOpposite (v_X1_put sp 12 ((sp i1).1.toInt64) ((sp i1).2.1.toInt64) ((sp i1).2.2.toInt64)).2 12 i1).2 13 12).2 12 i1).2 12 i1) = 0
              · rw [if_pos q11]
                simp only [kp_X1_put_sp n12, kp_X1_put_sp n13, kp_X1_putOpposite_sp n12, kp_X1_putOpposite_sp n13, kp_X1_putTidy_sp n12, kp_X1_putTidy_sp n13, kp_X1_putSum_sp n12, kp_X1_putSum_sp n13, kp_X1_putDifference_sp n12, kp_X1_putDifference_sp n13]
              · rw [if_neg q11]
                by_cases q12 : (v_X1_putTidy (v_X1_putTidy (v_X1_putOpposite (v_X1_putOpposite (v_X1_put sp 12 ((sp i1).1.toInt64) ((sp i1).2.1.toInt64) ((sp i1).2.2.toInt64)).2 12 i1).2 13 12).2 12 i1).2 13 12).1 = 0
                · rw [if_pos q12]
                  simp only [kp_X1_put_sp n12, kp_X1_put_sp n13, kp_X1_putOpposite_sp n12, kp_X1_putOpposite_sp n13, kp_X1_putTidy_sp n12, kp_X1_putTidy_sp n13, kp_X1_putSum_sp n12, kp_X1_putSum_sp n13, kp_X1_putDifference_sp n12, kp_X1_putDifference_sp n13]
                · rw [if_neg q12]
                  by_cases q13 : (v_X1_isSameAs (v_X1_putTidy (v_X1_putTidy (v_X1_putOpposite (v_X1_putOpposite (v_X1_put sp 12 ((sp i1).1.toInt64) ((sp i1).2.1.toInt64) ((sp i1).2.2.toInt64)).2 12 i1).2 13 12).2 12 i1).2 13 12).2 13 12) = 0
                  · rw [if_pos q13]
                    simp only [kp_X1_put_sp n12, kp_X1_put_sp n13, kp_X1_putOpposite_sp n12, kp_X1_putOpposite_sp n13, kp_X1_putTidy_sp n12, kp_X1_putTidy_sp n13, kp_X1_putSum_sp n12, kp_X1_putSum_sp n13, kp_X1_putDifference_sp n12, kp_X1_putDifference_sp n13]
                  · rw [if_neg q13]
                    simp only [kp_X1_put_sp n12, kp_X1_put_sp n13, kp_X1_putOpposite_sp n12, kp_X1_putOpposite_sp n13, kp_X1_putTidy_sp n12, kp_X1_putTidy_sp n13, kp_X1_putSum_sp n12, kp_X1_putSum_sp n13, kp_X1_putDifference_sp n12, kp_X1_putDifference_sp n13]
theorem kq_X2_isSumSound {sp : Nat → TR} {i1 i2 : Nat} {j : Nat} (hj : j < 12) : (v_X2_isSumSound sp i1 i2).2 j = sp j := by
  have n12 : j ≠ 12 := by omega
  have n13 : j ≠ 13 := by omega
  unfold v_X2_isSumSound
  by_cases q1 : (v_X1_putSum sp 12 i1 i2).1 = (v_X1_putSum (v_X1_putSum sp 12 i1 i2).2 13 i2 i1).1
  · rw [if_pos q1]
    by_cases q2 : (v_X1_putSum sp 12 i1 i2).1 = 0
    · rw [if_pos q2]
      simp only [kp_X1_put_sp n12, kp_X1_put_sp n13, kp_X1_putOpposite_sp n12, kp_X1_putOpposite_sp n13, kp_X1_putTidy_sp n12, kp_X1_putTidy_sp n13, kp_X1_putSum_sp n12, kp_X1_putSum_sp n13, kp_X1_putDifference_sp n12, kp_X1_putDifference_sp n13]
    · rw [if_neg q2]
      by_cases q3 : (v_X1_isSameAs (v_X1_putSum (v_X1_putSum sp 12 i1 i2).2 13 i2 i1).2 12 13) = 0
      · rw [if_pos q3]
        simp only [kp_X1_put_sp n12, kp_X1_put_sp n13, kp_X1_putOpposite_sp n12, kp_X1_putOpposite_sp n13, kp_X1_putTidy_sp n12, kp_X1_putTidy_sp n13, kp_X1_putSum_sp n12, kp_X1_putSum_sp n13, kp_X1_putDifference_sp n12, kp_X1_putDifference_sp n13]
      · rw [if_neg q3]
        by_cases q4 : (v_X1_putDifference (v_X1_putSum (v_X1_putSum sp 12 i1 i2).2 13 i2 i1).2 13 12 i2).1 = 0
        · rw [if_pos q4]
          simp only [kp_X1_put_sp n12, kp_X1_put_sp n13, kp_X1_putOpposite_sp n12, kp_X1_putOpposite_sp n13, kp_X1_putTidy_sp n12, kp_X1_putTidy_sp n13, kp_X1_putSum_sp n12, kp_X1_putSum_sp n13, kp_X1_putDifference_sp n12, kp_X1_putDifference_sp n13]
        · rw [if_neg q4]
          by_cases q5 : (v_X1_isSameAs (v_X1_putDifference (v_X1_putSum (v_X1_putSum sp 12 i1 i2).2 13 i2 i1).2 13 12 i2).2 13 i1) = 0
          · rw [if_pos q5]
            simp only [kp_X1_put_sp n12, kp_X1_put_sp n13, kp_X1_putOpposite_sp n12, kp_X1_putOpposite_sp n13, kp_X1_putTidy_sp n12, kp_X1_putTidy_sp n13, kp_X1_putSum_sp n12, kp_X1_putSum_sp n13, kp_X1_putDifference_sp n12, kp_X1_putDifference_sp n13]
          · rw [if_neg q5]
            simp only [kp_X1_put_sp n12, kp_X1_put_sp n13, kp_X1_putOpposite_sp n12, kp_X1_putOpposite_sp n13, kp_X1_putTidy_sp n12, kp_X1_putTidy_sp n13, kp_X1_putSum_sp n12, kp_X1_putSum_sp n13, kp_X1_putDifference_sp n12, kp_X1_putDifference_sp n13]
  · rw [if_neg q1]
    simp only [kp_X1_put_sp n12, kp_X1_put_sp n13, kp_X1_putOpposite_sp n12, kp_X1_putOpposite_sp n13, kp_X1_putTidy_sp n12, kp_X1_putTidy_sp n13, kp_X1_putSum_sp n12, kp_X1_putSum_sp n13, kp_X1_putDifference_sp n12, kp_X1_putDifference_sp n13]
theorem kq_X2_isAlikenessSound {sp : Nat → TR} {i1 i2 : Nat} {j : Nat} (hj : j < 12) : (v_X2_isAlikenessSound sp i1 i2).2 j = sp j := by
  have n12 : j ≠ 12 := by omega
  have n13 : j ≠ 13 := by omega
  unfold v_X2_isAlikenessSound
  by_cases q1 : (v_X1_putOpposite sp 12 i1).1 = 0
  · rw [if_pos q1]
    simp only [kp_X1_put_sp n12, kp_X1_put_sp n13, kp_X1_putOpposite_sp n12, kp_X1_putOpposite_sp n13, kp_X1_putTidy_sp n12, kp_X1_putTidy_sp n13, kp_X1_putSum_sp n12, kp_X1_putSum_sp n13, kp_X1_putDifference_sp n12, kp_X1_putDifference_sp n13]
  · rw [if_neg q1]
    by_cases q2 : (v_X1_putOpposite (v_X1_putOpposite sp 12 i1).2 13 i2).1 = 0
    · rw [if_pos q2]
      simp only [kp_X1_put_sp n12, kp_X1_put_sp n13, kp_X1_putOpposite_sp n12, kp_X1_putOpposite_sp n13, kp_X1_putTidy_sp n12, kp_X1_putTidy_sp n13, kp_X1_putSum_sp n12, kp_X1_putSum_sp n13, kp_X1_putDifference_sp n12, kp_X1_putDifference_sp n13]
    · rw [if_neg q2]
      by_cases q3 : (v_X1_isAlikeTo (v_X1_putOpposite (v_X1_putOpposite sp 12 i1).2 13 i2).2 12 13) = (v_X1_isAlikeTo (v_X1_putOpposite (v_X1_putOpposite sp 12 i1).2 13 i2).2 i1 i2)
      · rw [if_pos q3]
        simp only [kp_X1_put_sp n12, kp_X1_put_sp n13, kp_X1_putOpposite_sp n12, kp_X1_putOpposite_sp n13, kp_X1_putTidy_sp n12, kp_X1_putTidy_sp n13, kp_X1_putSum_sp n12, kp_X1_putSum_sp n13, kp_X1_putDifference_sp n12, kp_X1_putDifference_sp n13]
      · rw [if_neg q3]
        simp only [kp_X1_put_sp n12, kp_X1_put_sp n13, kp_X1_putOpposite_sp n12, kp_X1_putOpposite_sp n13, kp_X1_putTidy_sp n12, kp_X1_putTidy_sp n13, kp_X1_putSum_sp n12, kp_X1_putSum_sp n13, kp_X1_putDifference_sp n12, kp_X1_putDifference_sp n13]
theorem c1_X2_isSpanSound (l : Launch) (g : GG) (N : Nat) (ad : Nat → Nat) (x : Nat → va_E) (sp dy : Nat → TR) (la kn re : Int32) (hN : 23 ≤ N) (i1 : Nat) (hi1 : i1 < 12) : KI l yX2_isSpanSound cX2_isSpanSound 2 (some .boolean) (rm 4 0 0) g [.ref (ad 0), .ref (ad (4 + i1))] N ad (cf g ad x sp dy la kn re) N (fun r ad' f' => ad = ad' ∧ 1 = r ∧ ∃ sp' dy' : Nat → TR, (∀ j, j < 12 → sp' j = sp j) ∧ (∀ j, j < 4 → dy' j = dy j) ∧ cf g ad x sp' dy' la kn re = f') := by
  refine KI_mono (ce_X2_isSpanSound l g N ad x sp dy la kn re hN i1 (by omega)) (fun r ad' f' h => ?_)
  obtain ⟨rfl, h2, rfl⟩ := h
  exact ⟨rfl, by rw [← h2]; exact (on_ss hi1).symm, _, dy, fun j hj => kq_X2_isSpanSound hj, fun _ _ => rfl, rfl⟩
theorem c1_X2_isSumSound (l : Launch) (g : GG) (N : Nat) (ad : Nat → Nat) (x : Nat → va_E) (sp dy : Nat → TR) (la kn re : Int32) (hN : 23 ≤ N) (i1 : Nat) (hi1 : i1 < 12) (i2 : Nat) (hi2 : i2 < 12) : KI l yX2_isSumSound cX2_isSumSound 4 (some .boolean) (rm 3 0 0) g [.ref (ad 0), .ref (ad (4 + i1)), .ref (ad (4 + i2))] N ad (cf g ad x sp dy la kn re) N (fun r ad' f' => ad = ad' ∧ 1 = r ∧ ∃ sp' dy' : Nat → TR, (∀ j, j < 12 → sp' j = sp j) ∧ (∀ j, j < 4 → dy' j = dy j) ∧ cf g ad x sp' dy' la kn re = f') := by
  refine KI_mono (ce_X2_isSumSound l g N ad x sp dy la kn re hN i1 (by omega) i2 (by omega)) (fun r ad' f' h => ?_)
  obtain ⟨rfl, h2, rfl⟩ := h
  exact ⟨rfl, by rw [← h2]; exact (on_su hi1 hi2).symm, _, dy, fun j hj => kq_X2_isSumSound hj, fun _ _ => rfl, rfl⟩
theorem c1_X2_isAlikenessSound (l : Launch) (g : GG) (N : Nat) (ad : Nat → Nat) (x : Nat → va_E) (sp dy : Nat → TR) (la kn re : Int32) (hN : 23 ≤ N) (i1 : Nat) (hi1 : i1 < 12) (i2 : Nat) (hi2 : i2 < 12) : KI l yX2_isAlikenessSound cX2_isAlikenessSound 3 (some .boolean) (rm 4 0 0) g [.ref (ad 0), .ref (ad (4 + i1)), .ref (ad (4 + i2))] N ad (cf g ad x sp dy la kn re) N (fun r ad' f' => ad = ad' ∧ 1 = r ∧ ∃ sp' dy' : Nat → TR, (∀ j, j < 12 → sp' j = sp j) ∧ (∀ j, j < 4 → dy' j = dy j) ∧ cf g ad x sp' dy' la kn re = f') := by
  refine KI_mono (ce_X2_isAlikenessSound l g N ad x sp dy la kn re hN i1 (by omega) i2 (by omega)) (fun r ad' f' h => ?_)
  obtain ⟨rfl, h2, rfl⟩ := h
  exact ⟨rfl, by rw [← h2]; exact (on_al hi1 hi2).symm, _, dy, fun j hj => kq_X2_isAlikenessSound hj, fun _ _ => rfl, rfl⟩
set_option maxHeartbeats 4000000 in
set_option maxRecDepth 100000 in
theorem ce_X2_isSound (l : Launch) (g : GG) (N : Nat) (ad : Nat → Nat) (x : Nat → va_E) (sp dy : Nat → TR) (la kn re : Int32) (hN : 23 ≤ N) (hov : ∀ i, i < 4 → okv (dy i)) : KI l yX2_isSound cX2_isSound 3 (some .boolean) (rm 5 0 0) g [.ref (ad 0)] N ad (cf g ad x sp dy la kn re) N (fun r ad' f' => ad = ad' ∧ 1 = r ∧ ∃ sp' dy' : Nat → TR, (∀ j, j < 12 → sp' j = sp j) ∧ (∀ j, j < 4 → dy' j = dy j) ∧ cf g ad x sp' dy' la kn re = f') := by
  intro sz
  refine mt_start (by decide) (Nat.le_of_ble_eq_true rfl) ?_
  intro p e s m args below meth c hsz X hr hnam hA hK hT H locs B ls hl
  obtain ⟨hx, hb, hml, hown, hts, hlocks⟩ := id X
  have hl : lv_has ls 3 [(0, .ref (ad 0))] := hl
  refine lv_iconst (v := 0) hx hb dX2_isSound_0 (by decide) ?_
  refine lv_istore_n (lv' := [(1, .int 0), (0, .ref (ad 0))]) hx hb dX2_isSound_1 rfl hl (by decide) rfl (fun ls hl => ?_)
  have loop1 : ∀ (n1 : Nat) (ua : Int32) (sp9 : Nat → TR) (dy9 : Nat → TR) (H : Heap) (locs : List Loc), ((4 : Int32).toInt - ua.toInt).toNat < n1 → ¬ ua < 0 → (∀ j, j < 12 → sp9 j = sp j) → (∀ j, j < 4 → dy9 j = dy j) → WB g (aw N ad sz) s.heap N ad (cf g ad x sp9 dy9 la kn re) H locs → ∀ ls : Array Slot, lv_has ls 3 [(1, .int ua), (0, .ref (ad 0))] → W p l e (rm 5 0 0) s m args below meth c H locs 0 0 (MQ below (va_Qi (fun r (u : WS) => (fun r ad' f' => ad = ad' ∧ 1 = r ∧ ∃ sp' dy' : Nat → TR, (∀ j, j < 12 → sp' j = sp j) ∧ (∀ j, j < 4 → dy' j = dy j) ∧ cf g ad x sp' dy' la kn re = f') r u.1 u.2) (fun u t => PO g N u.1 u.2 (aw N ad sz) t) (aw N ad sz)) args s (rm 5 0 0).cells (rm 5 0 0).slots (aw N ad sz)) (F0 m 2 ls []) := by
    intro n1
    induction n1 with
    | zero => intro ua sp9 dy9 H locs hn; exact absurd hn (Nat.not_lt_zero _)
    | succ n1 ih1 =>
      intro ua sp9 dy9 H locs hn1 hzua hksp1 hkdy1 B ls hl
      refine lv_iload_n hx hb dX2_isSound_2 rfl (lv_at hl 0 rfl) ?_
      refine lv_iconst (v := 4) hx hb dX2_isSound_3 (by decide) ?_
      refine lv_icmp_ge (tgt := 81) hx hb dX2_isSound_4 (by decide) (fun c2 => ?_) (fun c2 => ?_)
      · refine lv_iconst (v := 0) hx hb dX2_isSound_81 (by decide) ?_
        refine lv_istore_n (lv' := [(1, .int 0), (0, .ref (ad 0))]) hx hb dX2_isSound_82 rfl hl (by decide) rfl (fun ls hl => ?_)
        have loop3 : ∀ (n3 : Nat) (uc : Int32) (sp9 : Nat → TR) (dy9 : Nat → TR) (H : Heap) (locs : List Loc), ((4 : Int32).toInt - uc.toInt).toNat < n3 → ¬ uc < 0 → (∀ j, j < 12 → sp9 j = sp j) → (∀ j, j < 4 → dy9 j = dy j) → WB g (aw N ad sz) s.heap N ad (cf g ad x sp9 dy9 la kn re) H locs → ∀ ls : Array Slot, lv_has ls 3 [(1, .int uc), (0, .ref (ad 0))] → W p l e (rm 5 0 0) s m args below meth c H locs 0 0 (MQ below (va_Qi (fun r (u : WS) => (fun r ad' f' => ad = ad' ∧ 1 = r ∧ ∃ sp' dy' : Nat → TR, (∀ j, j < 12 → sp' j = sp j) ∧ (∀ j, j < 4 → dy' j = dy j) ∧ cf g ad x sp' dy' la kn re = f') r u.1 u.2) (fun u t => PO g N u.1 u.2 (aw N ad sz) t) (aw N ad sz)) args s (rm 5 0 0).cells (rm 5 0 0).slots (aw N ad sz)) (F0 m 83 ls []) := by
          intro n3
          induction n3 with
          | zero => intro uc sp9 dy9 H locs hn; exact absurd hn (Nat.not_lt_zero _)
          | succ n3 ih3 =>
            intro uc sp9 dy9 H locs hn3 hzuc hksp3 hkdy3 B ls hl
            refine lv_iload_n hx hb dX2_isSound_83 rfl (lv_at hl 0 rfl) ?_
            refine lv_iconst (v := 4) hx hb dX2_isSound_84 (by decide) ?_
            refine lv_icmp_ge (tgt := 154) hx hb dX2_isSound_85 (by decide) (fun c4 => ?_) (fun c4 => ?_)
            · refine lv_iconst (v := 1) hx hb dX2_isSound_154 (by decide) ?_
              exact rt_i X hr (ad, (cf g ad x sp9 dy9 la kn re)) B (PO_of B) ⟨rfl, rfl, _, _, hksp3, hkdy3, rfl⟩ rfl (Nat.le_of_ble_eq_true rfl) (Nat.le_of_ble_eq_true rfl) dX2_isSound_155
            · refine lv_iconst (v := 0) hx hb dX2_isSound_88 (by decide) ?_
              refine lv_istore_n (lv' := [(2, .int 0), (1, .int uc), (0, .ref (ad 0))]) hx hb dX2_isSound_89 rfl hl (by decide) rfl (fun ls hl => ?_)
              have loop5 : ∀ (n5 : Nat) (ud : Int32) (sp9 : Nat → TR) (dy9 : Nat → TR) (H : Heap) (locs : List Loc), ((4 : Int32).toInt - ud.toInt).toNat < n5 → ¬ ud < 0 → (∀ j, j < 12 → sp9 j = sp j) → (∀ j, j < 4 → dy9 j = dy j) → WB g (aw N ad sz) s.heap N ad (cf g ad x sp9 dy9 la kn re) H locs → ∀ ls : Array Slot, lv_has ls 3 [(2, .int ud), (1, .int uc), (0, .ref (ad 0))] → W p l e (rm 5 0 0) s m args below meth c H locs 0 0 (MQ below (va_Qi (fun r (u : WS) => (fun r ad' f' => ad = ad' ∧ 1 = r ∧ ∃ sp' dy' : Nat → TR, (∀ j, j < 12 → sp' j = sp j) ∧ (∀ j, j < 4 → dy' j = dy j) ∧ cf g ad x sp' dy' la kn re = f') r u.1 u.2) (fun u t => PO g N u.1 u.2 (aw N ad sz) t) (aw N ad sz)) args s (rm 5 0 0).cells (rm 5 0 0).slots (aw N ad sz)) (F0 m 90 ls []) := by
                intro n5
                induction n5 with
                | zero => intro ud sp9 dy9 H locs hn; exact absurd hn (Nat.not_lt_zero _)
                | succ n5 ih5 =>
                  intro ud sp9 dy9 H locs hn5 hzud hksp5 hkdy5 B ls hl
                  refine lv_iload_n hx hb dX2_isSound_90 rfl (lv_at hl 0 rfl) ?_
                  refine lv_iconst (v := 4) hx hb dX2_isSound_91 (by decide) ?_
                  refine lv_icmp_ge (tgt := 148) hx hb dX2_isSound_92 (by decide) (fun c6 => ?_) (fun c6 => ?_)
                  · refine lv_iinc (v := uc + 1) (lv' := [(1, .int (uc + 1)), (2, .int ud), (0, .ref (ad 0))]) hx hb dX2_isSound_148 hl (k := 1) rfl rfl (by decide) rfl (fun ls hl => ?_)
                    refine lv_goto (tgt := 83) hx hb dX2_isSound_151 (by decide) ?_
                    exact ih3 (uc + 1) sp9 dy9 H locs (fu_le c4 hn3) (inc_nn hzuc c4) (hksp5) (hkdy5) B ls (lv_sub hl [0, 2] rfl)
                  · refine lv_aload_n hx hb dX2_isSound_95 rfl (lv_at hl 2 rfl) ?_
                    refine g_get (q := 0) (k := 6) X hK B rfl in_X2 (pl_c hN 0 (by decide)) cf_0 (by decide) lk_X2_25 rfl rfl dX2_isSound_96 ?_
                    refine lv_aload_n hx hb dX2_isSound_99 rfl (lv_at hl 2 rfl) ?_
                    refine g_get (q := 0) (k := 2) X hK B rfl in_X2 (pl_c hN 0 (by decide)) cf_0 (by decide) lk_X2_20 rfl rfl dX2_isSound_100 ?_
                    refine lv_iload_n hx hb dX2_isSound_103 rfl (lv_at hl 1 rfl) ?_
                    refine g_aald (q := 3) (t0 := 4) X hK B (pl_c hN 3 (by decide)) cf_3 rfl rfl (ix_in (n := 4) hzuc c4 rfl) dX2_isSound_104 ?_
                    have h7 : uc.toNatClampNeg < 5 := by have := (ix_lt (n := 4) hzuc c4 rfl); omega
                    refine lv_aload_n hx hb dX2_isSound_105 rfl (lv_at hl 2 rfl) ?_
                    refine g_get (q := 0) (k := 2) X hK B rfl in_X2 (pl_c hN 0 (by decide)) cf_0 (by decide) lk_X2_20 rfl rfl dX2_isSound_106 ?_
                    refine lv_iload_n hx hb dX2_isSound_109 rfl (lv_at hl 0 rfl) ?_
                    refine g_aald (q := 3) (t0 := 4) X hK B (pl_c hN 3 (by decide)) cf_3 rfl rfl (ix_in (n := 4) hzud c6 rfl) dX2_isSound_110 ?_
                    have h8 : ud.toNatClampNeg < 5 := by have := (ix_lt (n := 4) hzud c6 rfl); omega
                    refine k_i (k := 0) (n := 0) hA B (u_VN (rest := []) X (c_X1_putBetween l g N ad x sp9 dy9 la kn re hN 12 (by decide) uc.toNatClampNeg h7 ud.toNatClampNeg h8 H.size) mw_X1_putBetween md_X1_putBetween rfl lk_X2_173 ⟨Nat.le_of_ble_eq_true rfl, Nat.le_of_ble_eq_true rfl⟩ hA hK hT B (pl_sp hN (by decide)) (cf_sp (by decide)) rfl rfl hl.1 rfl (Nat.le_of_ble_eq_true rfl) dX2_isSound_111 ⟨Nat.le_of_ble_eq_true rfl, Nat.le_of_ble_eq_true rfl⟩) (Nat.le_of_ble_eq_true rfl) (Nat.le_of_ble_eq_true rfl) (fun r ad' f' H locs hw B => ?_)
                    obtain ⟨rfl, rfl, rfl⟩ := hw
                    have k9 : ∀ j, j < 12 → (v_X1_putBetween sp9 dy9 12 uc.toNatClampNeg ud.toNatClampNeg).2 j = sp j := fun j hj => (kp_X1_putBetween_sp (by omega)).trans (hksp5 j hj)
                    refine lv_if_eq (tgt := 142) hx hb dX2_isSound_114 (by decide) (fun c10 => ?_) (fun c10 => ?_)
                    · refine lv_iinc (v := ud + 1) (lv' := [(2, .int (ud + 1)), (1, .int uc), (0, .ref (ad 0))]) hx hb dX2_isSound_142 hl (k := 0) rfl rfl (by decide) rfl (fun ls hl => ?_)
                      refine lv_goto (tgt := 90) hx hb dX2_isSound_145 (by decide) ?_
                      exact ih5 (ud + 1) (v_X1_putBetween sp9 dy9 12 uc.toNatClampNeg ud.toNatClampNeg).2 dy9 H locs (fu_le c6 hn5) (inc_nn hzud c6) (k9) (hkdy5) B ls (lv_sub hl [0, 1, 2] rfl)
                    · refine lv_aload_n hx hb dX2_isSound_117 rfl (lv_at hl 2 rfl) ?_
                      refine lv_aload_n hx hb dX2_isSound_118 rfl (lv_at hl 2 rfl) ?_
                      refine g_get (q := 0) (k := 2) X hK B rfl in_X2 (pl_c hN 0 (by decide)) cf_0 (by decide) lk_X2_20 rfl rfl dX2_isSound_119 ?_
                      refine lv_iload_n hx hb dX2_isSound_122 rfl (lv_at hl 1 rfl) ?_
                      refine g_aald (q := 3) (t0 := 4) X hK B (pl_c hN 3 (by decide)) cf_3 rfl rfl (ix_in (n := 4) hzuc c4 rfl) dX2_isSound_123 ?_
                      have h11 : uc.toNatClampNeg < 5 := by have := (ix_lt (n := 4) hzuc c4 rfl); omega
                      refine lv_aload_n hx hb dX2_isSound_124 rfl (lv_at hl 2 rfl) ?_
                      refine g_get (q := 0) (k := 6) X hK B rfl in_X2 (pl_c hN 0 (by decide)) cf_0 (by decide) lk_X2_25 rfl rfl dX2_isSound_125 ?_
                      refine lv_aload_n hx hb dX2_isSound_128 rfl (lv_at hl 2 rfl) ?_
                      refine g_get (q := 0) (k := 2) X hK B rfl in_X2 (pl_c hN 0 (by decide)) cf_0 (by decide) lk_X2_20 rfl rfl dX2_isSound_129 ?_
                      refine lv_iload_n hx hb dX2_isSound_132 rfl (lv_at hl 0 rfl) ?_
                      refine g_aald (q := 3) (t0 := 4) X hK B (pl_c hN 3 (by decide)) cf_3 rfl rfl (ix_in (n := 4) hzud c6 rfl) dX2_isSound_133 ?_
                      have h12 : ud.toNatClampNeg < 5 := by have := (ix_lt (n := 4) hzud c6 rfl); omega
                      refine k_i (k := 0) (n := 0) hA B (u_V (rest := []) X (c_X2_leads l g N ad x (v_X1_putBetween sp9 dy9 12 uc.toNatClampNeg ud.toNatClampNeg).2 dy9 la kn re hN uc.toNatClampNeg h11 12 (by decide) ud.toNatClampNeg h12 H.size) mw_X2_leads md_X2_leads rfl lk_X2_177 ⟨Nat.le_of_ble_eq_true rfl, Nat.le_of_ble_eq_true rfl⟩ hA hK hT B (pl_c hN 0 (by decide)) cf_0 rfl rfl hl.1 rfl (Nat.le_of_ble_eq_true rfl) dX2_isSound_134 ⟨Nat.le_of_ble_eq_true rfl, Nat.le_of_ble_eq_true rfl⟩) (Nat.le_of_ble_eq_true rfl) (Nat.le_of_ble_eq_true rfl) (fun r ad' f' H locs hw B => ?_)
                      obtain ⟨rfl, rfl, rfl⟩ := hw
                      have e13 : ∀ j, j < 4 → (v_X2_leads (v_X1_putBetween sp9 dy9 12 uc.toNatClampNeg ud.toNatClampNeg).2 dy9 uc.toNatClampNeg 12 ud.toNatClampNeg).2 j = dy j := fun j hj => (kp_X2_leads_dy (by omega)).trans (hkdy5 j hj)
                      have on13 : (v_X2_leads (v_X1_putBetween sp9 dy9 12 uc.toNatClampNeg ud.toNatClampNeg).2 dy9 uc.toNatClampNeg 12 ud.toNatClampNeg).1 = 1 := (on_ld (by rw [(hkdy5) _ (ix_lt (n := 4) hzuc c4 rfl)]; exact hov _ (ix_lt (n := 4) hzuc c4 rfl)) (by rw [(hkdy5) _ (ix_lt (n := 4) hzud c6 rfl)]; exact hov _ (ix_lt (n := 4) hzud c6 rfl)) (by have := (ix_lt (n := 4) hzud c6 rfl); omega) c10)
                      rw [on13]
                      generalize (v_X2_leads (v_X1_putBetween sp9 dy9 12 uc.toNatClampNeg ud.toNatClampNeg).2 dy9 uc.toNatClampNeg 12 ud.toNatClampNeg).2 = t13 at e13 B ⊢
                      refine lv_if_ne (tgt := 142) hx hb dX2_isSound_137 (by decide) (fun _ => ?_) (fun z => absurd z (by decide))
                      refine lv_iinc (v := ud + 1) (lv' := [(2, .int (ud + 1)), (1, .int uc), (0, .ref (ad 0))]) hx hb dX2_isSound_142 hl (k := 0) rfl rfl (by decide) rfl (fun ls hl => ?_)
                      refine lv_goto (tgt := 90) hx hb dX2_isSound_145 (by decide) ?_
                      exact ih5 (ud + 1) (v_X1_putBetween sp9 dy9 12 uc.toNatClampNeg ud.toNatClampNeg).2 t13 H locs (fu_le c6 hn5) (inc_nn hzud c6) (k9) (e13) B ls (lv_sub hl [0, 1, 2] rfl)
              exact loop5 (((4 : Int32).toInt - (0 : Int32).toInt).toNat + 1) 0 sp9 dy9 H locs (Nat.lt_succ_self _) (by decide) (hksp3) (hkdy3) B ls hl
        exact loop3 (((4 : Int32).toInt - (0 : Int32).toInt).toNat + 1) 0 sp9 dy9 H locs (Nat.lt_succ_self _) (by decide) (hksp1) (hkdy1) B ls hl
      · refine lv_aload_n hx hb dX2_isSound_7 rfl (lv_at hl 1 rfl) ?_
        refine lv_aload_n hx hb dX2_isSound_8 rfl (lv_at hl 1 rfl) ?_
        refine g_get (q := 0) (k := 0) X hK B rfl in_X2 (pl_c hN 0 (by decide)) cf_0 (by decide) lk_X2_11 rfl rfl dX2_isSound_9 ?_
        refine lv_iload_n hx hb dX2_isSound_12 rfl (lv_at hl 0 rfl) ?_
        refine g_aald (q := 1) (t0 := 3) X hK B (pl_c hN 1 (by decide)) cf_1 rfl rfl (ix_in (n := 4) hzua c2 rfl) dX2_isSound_13 ?_
        have h14 : ua.toNatClampNeg < 14 := by have := (ix_lt (n := 4) hzua c2 rfl); omega
        refine k_i (k := 0) (n := 0) hA B (u_V (rest := []) X (c1_X2_isSpanSound l g N ad x sp9 dy9 la kn re hN ua.toNatClampNeg (Nat.lt_of_lt_of_le (ix_lt (n := 4) hzua c2 rfl) (by decide)) H.size) mw_X2_isSpanSound md_X2_isSpanSound rfl lk_X2_191 ⟨Nat.le_of_ble_eq_true rfl, Nat.le_of_ble_eq_true rfl⟩ hA hK hT B (pl_c hN 0 (by decide)) cf_0 rfl rfl hl.1 rfl (Nat.le_of_ble_eq_true rfl) dX2_isSound_14 ⟨Nat.le_of_ble_eq_true rfl, Nat.le_of_ble_eq_true rfl⟩) (Nat.le_of_ble_eq_true rfl) (Nat.le_of_ble_eq_true rfl) (fun r15 ad' f' H locs hw B => ?_)
        obtain ⟨rfl, rfl, sp15, dy15, k15, e15, rfl⟩ := hw
        have k15 : ∀ j, j < 12 → sp15 j = sp j := fun j hj => (k15 j hj).trans (hksp1 j hj)
        have e15 : ∀ j, j < 4 → dy15 j = dy j := fun j hj => (e15 j hj).trans (hkdy1 j hj)
        refine lv_if_ne (tgt := 22) hx hb dX2_isSound_17 (by decide) (fun _ => ?_) (fun z => absurd z (by decide))
        refine lv_iconst (v := 0) hx hb dX2_isSound_22 (by decide) ?_
        refine lv_istore_n (lv' := [(2, .int 0), (1, .int ua), (0, .ref (ad 0))]) hx hb dX2_isSound_23 rfl hl (by decide) rfl (fun ls hl => ?_)
        have loop16 : ∀ (n16 : Nat) (ub : Int32) (sp9 : Nat → TR) (dy9 : Nat → TR) (H : Heap) (locs : List Loc), ((4 : Int32).toInt - ub.toInt).toNat < n16 → ¬ ub < 0 → (∀ j, j < 12 → sp9 j = sp j) → (∀ j, j < 4 → dy9 j = dy j) → WB g (aw N ad sz) s.heap N ad (cf g ad x sp9 dy9 la kn re) H locs → ∀ ls : Array Slot, lv_has ls 3 [(2, .int ub), (1, .int ua), (0, .ref (ad 0))] → W p l e (rm 5 0 0) s m args below meth c H locs 0 0 (MQ below (va_Qi (fun r (u : WS) => (fun r ad' f' => ad = ad' ∧ 1 = r ∧ ∃ sp' dy' : Nat → TR, (∀ j, j < 12 → sp' j = sp j) ∧ (∀ j, j < 4 → dy' j = dy j) ∧ cf g ad x sp' dy' la kn re = f') r u.1 u.2) (fun u t => PO g N u.1 u.2 (aw N ad sz) t) (aw N ad sz)) args s (rm 5 0 0).cells (rm 5 0 0).slots (aw N ad sz)) (F0 m 24 ls []) := by
          intro n16
          induction n16 with
          | zero => intro ub sp9 dy9 H locs hn; exact absurd hn (Nat.not_lt_zero _)
          | succ n16 ih16 =>
            intro ub sp9 dy9 H locs hn16 hzub hksp16 hkdy16 B ls hl
            refine lv_iload_n hx hb dX2_isSound_24 rfl (lv_at hl 0 rfl) ?_
            refine lv_iconst (v := 4) hx hb dX2_isSound_25 (by decide) ?_
            refine lv_icmp_ge (tgt := 75) hx hb dX2_isSound_26 (by decide) (fun c17 => ?_) (fun c17 => ?_)
            · refine lv_iinc (v := ua + 1) (lv' := [(1, .int (ua + 1)), (2, .int ub), (0, .ref (ad 0))]) hx hb dX2_isSound_75 hl (k := 1) rfl rfl (by decide) rfl (fun ls hl => ?_)
              refine lv_goto (tgt := 2) hx hb dX2_isSound_78 (by decide) ?_
              exact ih1 (ua + 1) sp9 dy9 H locs (fu_le c2 hn1) (inc_nn hzua c2) (hksp16) (hkdy16) B ls (lv_sub hl [0, 2] rfl)
            · refine lv_aload_n hx hb dX2_isSound_29 rfl (lv_at hl 2 rfl) ?_
              refine lv_aload_n hx hb dX2_isSound_30 rfl (lv_at hl 2 rfl) ?_
              refine g_get (q := 0) (k := 0) X hK B rfl in_X2 (pl_c hN 0 (by decide)) cf_0 (by decide) lk_X2_11 rfl rfl dX2_isSound_31 ?_
              refine lv_iload_n hx hb dX2_isSound_34 rfl (lv_at hl 1 rfl) ?_
              refine g_aald (q := 1) (t0 := 3) X hK B (pl_c hN 1 (by decide)) cf_1 rfl rfl (ix_in (n := 4) hzua c2 rfl) dX2_isSound_35 ?_
              have h18 : ua.toNatClampNeg < 14 := by have := (ix_lt (n := 4) hzua c2 rfl); omega
              refine lv_aload_n hx hb dX2_isSound_36 rfl (lv_at hl 2 rfl) ?_
              refine g_get (q := 0) (k := 0) X hK B rfl in_X2 (pl_c hN 0 (by decide)) cf_0 (by decide) lk_X2_11 rfl rfl dX2_isSound_37 ?_
              refine lv_iload_n hx hb dX2_isSound_40 rfl (lv_at hl 0 rfl) ?_
              refine g_aald (q := 1) (t0 := 3) X hK B (pl_c hN 1 (by decide)) cf_1 rfl rfl (ix_in (n := 4) hzub c17 rfl) dX2_isSound_41 ?_
              have h19 : ub.toNatClampNeg < 14 := by have := (ix_lt (n := 4) hzub c17 rfl); omega
              refine k_i (k := 0) (n := 0) hA B (u_V (rest := []) X (c1_X2_isSumSound l g N ad x sp9 dy9 la kn re hN ua.toNatClampNeg (Nat.lt_of_lt_of_le (ix_lt (n := 4) hzua c2 rfl) (by decide)) ub.toNatClampNeg (Nat.lt_of_lt_of_le (ix_lt (n := 4) hzub c17 rfl) (by decide)) H.size) mw_X2_isSumSound md_X2_isSumSound rfl lk_X2_194 ⟨Nat.le_of_ble_eq_true rfl, Nat.le_of_ble_eq_true rfl⟩ hA hK hT B (pl_c hN 0 (by decide)) cf_0 rfl rfl hl.1 rfl (Nat.le_of_ble_eq_true rfl) dX2_isSound_42 ⟨Nat.le_of_ble_eq_true rfl, Nat.le_of_ble_eq_true rfl⟩) (Nat.le_of_ble_eq_true rfl) (Nat.le_of_ble_eq_true rfl) (fun r20 ad' f' H locs hw B => ?_)
              obtain ⟨rfl, rfl, sp20, dy20, k20, e20, rfl⟩ := hw
              have k20 : ∀ j, j < 12 → sp20 j = sp j := fun j hj => (k20 j hj).trans (hksp16 j hj)
              have e20 : ∀ j, j < 4 → dy20 j = dy j := fun j hj => (e20 j hj).trans (hkdy16 j hj)
              refine lv_if_eq (tgt := 67) hx hb dX2_isSound_45 (by decide) (fun z => absurd z (by decide)) (fun _ => ?_)
              refine lv_aload_n hx hb dX2_isSound_48 rfl (lv_at hl 2 rfl) ?_
              refine lv_aload_n hx hb dX2_isSound_49 rfl (lv_at hl 2 rfl) ?_
              refine g_get (q := 0) (k := 0) X hK B rfl in_X2 (pl_c hN 0 (by decide)) cf_0 (by decide) lk_X2_11 rfl rfl dX2_isSound_50 ?_
              refine lv_iload_n hx hb dX2_isSound_53 rfl (lv_at hl 1 rfl) ?_
              refine g_aald (q := 1) (t0 := 3) X hK B (pl_c hN 1 (by decide)) cf_1 rfl rfl (ix_in (n := 4) hzua c2 rfl) dX2_isSound_54 ?_
              have h21 : ua.toNatClampNeg < 14 := by have := (ix_lt (n := 4) hzua c2 rfl); omega
              refine lv_aload_n hx hb dX2_isSound_55 rfl (lv_at hl 2 rfl) ?_
              refine g_get (q := 0) (k := 0) X hK B rfl in_X2 (pl_c hN 0 (by decide)) cf_0 (by decide) lk_X2_11 rfl rfl dX2_isSound_56 ?_
              refine lv_iload_n hx hb dX2_isSound_59 rfl (lv_at hl 0 rfl) ?_
              refine g_aald (q := 1) (t0 := 3) X hK B (pl_c hN 1 (by decide)) cf_1 rfl rfl (ix_in (n := 4) hzub c17 rfl) dX2_isSound_60 ?_
              have h22 : ub.toNatClampNeg < 14 := by have := (ix_lt (n := 4) hzub c17 rfl); omega
              refine k_i (k := 0) (n := 0) hA B (u_V (rest := []) X (c1_X2_isAlikenessSound l g N ad x sp20 dy20 la kn re hN ua.toNatClampNeg (Nat.lt_of_lt_of_le (ix_lt (n := 4) hzua c2 rfl) (by decide)) ub.toNatClampNeg (Nat.lt_of_lt_of_le (ix_lt (n := 4) hzub c17 rfl) (by decide)) H.size) mw_X2_isAlikenessSound md_X2_isAlikenessSound rfl lk_X2_197 ⟨Nat.le_of_ble_eq_true rfl, Nat.le_of_ble_eq_true rfl⟩ hA hK hT B (pl_c hN 0 (by decide)) cf_0 rfl rfl hl.1 rfl (Nat.le_of_ble_eq_true rfl) dX2_isSound_61 ⟨Nat.le_of_ble_eq_true rfl, Nat.le_of_ble_eq_true rfl⟩) (Nat.le_of_ble_eq_true rfl) (Nat.le_of_ble_eq_true rfl) (fun r23 ad' f' H locs hw B => ?_)
              obtain ⟨rfl, rfl, sp23, dy23, k23, e23, rfl⟩ := hw
              have k23 : ∀ j, j < 12 → sp23 j = sp j := fun j hj => (k23 j hj).trans (k20 j hj)
              have e23 : ∀ j, j < 4 → dy23 j = dy j := fun j hj => (e23 j hj).trans (e20 j hj)
              refine lv_if_ne (tgt := 69) hx hb dX2_isSound_64 (by decide) (fun _ => ?_) (fun z => absurd z (by decide))
              refine lv_iinc (v := ub + 1) (lv' := [(2, .int (ub + 1)), (1, .int ua), (0, .ref (ad 0))]) hx hb dX2_isSound_69 hl (k := 0) rfl rfl (by decide) rfl (fun ls hl => ?_)
              refine lv_goto (tgt := 24) hx hb dX2_isSound_72 (by decide) ?_
              exact ih16 (ub + 1) sp23 dy23 H locs (fu_le c17 hn16) (inc_nn hzub c17) (k23) (e23) B ls (lv_sub hl [0, 1, 2] rfl)
        exact loop16 (((4 : Int32).toInt - (0 : Int32).toInt).toNat + 1) 0 sp15 dy15 H locs (Nat.lt_succ_self _) (by decide) (k15) (e15) B ls hl
  exact loop1 (((4 : Int32).toInt - (0 : Int32).toInt).toNat + 1) 0 sp dy H locs (Nat.lt_succ_self _) (by decide) (fun _ _ => rfl) (fun _ _ => rfl) B ls hl
theorem and11 {x y : Int32} (hx : x = 1) (hy : y = 1) : x &&& y = 1 := by rw [hx, hy]; decide
set_option maxHeartbeats 4000000 in
set_option maxRecDepth 100000 in
theorem c1_X4_isSoundNow (l : Launch) (g : GG) (N : Nat) (ad : Nat → Nat) (y : Nat → va_E) (cr dr : Nat → TR) (th kn rf : Int32) (pl : Nat → TR) (pz : Nat) (mc : Int32) (hN : 36 + pz ≤ N) (b0 : Nat) (hb0 : ad 24 = b0) (hdr : ∀ i, i < 4 → okd (dr i)) (hov : ∀ i, i < 4 → okv (dr i)) : KI l yX4_isSoundNow cX4_isSoundNow 4 (some .boolean) (rm 5 465 1395) g [.ref b0] N ad (mg g ad y cr dr th kn rf pl pz mc) N (fun r ad' f' => ad = ad' ∧ 1 = r ∧ mg g ad y cr dr th kn rf pl pz mc = f') := by
  intro sz
  refine mt_start (by decide) (Nat.le_of_ble_eq_true rfl) ?_
  intro p e s m args below meth c hsz X hr hnam hA hK hT H locs B ls hl
  obtain ⟨hx, hb, hml, hown, hts, hlocks⟩ := id X
  have hl : lv_has ls 4 [(0, .ref b0)] := hl
  refine lv_iconst (v := 1) hx hb dX4_isSoundNow_0 (by decide) ?_
  refine lv_istore_n (lv' := [(1, .int 1), (0, .ref b0)]) hx hb dX4_isSoundNow_1 rfl hl (by decide) rfl (fun ls hl => ?_)
  refine lv_iconst (v := 0) hx hb dX4_isSoundNow_2 (by decide) ?_
  refine lv_istore_n (lv' := [(2, .int 0), (1, .int 1), (0, .ref b0)]) hx hb dX4_isSoundNow_3 rfl hl (by decide) rfl (fun ls hl => ?_)
  have loop1 : ∀ (n1 : Nat) (sa : Int32) (us : Int32) (C1 : Nat) (S1 : Nat) (H : Heap) (locs : List Loc), C1 + n1 * 93 ≤ 465 → S1 + n1 * 279 ≤ 1395 → ((4 : Int32).toInt - sa.toInt).toNat < n1 → us = 1 → ¬ sa < 0 → WB g (aw N ad sz) s.heap N ad (mg g ad y cr dr th kn rf pl pz mc) H locs → ∀ ls : Array Slot, lv_has ls 4 [(2, .int sa), (1, .int us), (0, .ref b0)] → W p l e (rm 5 465 1395) s m args below meth c H locs C1 S1 (MQ below (va_Qi (fun r (u : WS) => (fun r ad' f' => ad = ad' ∧ 1 = r ∧ mg g ad y cr dr th kn rf pl pz mc = f') r u.1 u.2) (fun u t => PO g N u.1 u.2 (aw N ad sz) t) (aw N ad sz)) args s (rm 5 465 1395).cells (rm 5 465 1395).slots (aw N ad sz)) (F0 m 4 ls []) := by
    intro n1
    induction n1 with
    | zero => intro sa us C1 S1 H locs _ _ hn; exact absurd hn (Nat.not_lt_zero _)
    | succ n1 ih1 =>
      intro sa us C1 S1 H locs hC1 hS1 hn1 hus hks B ls hl
      refine lv_iload_n hx hb dX4_isSoundNow_4 rfl (lv_at hl 0 rfl) ?_
      refine lv_iconst (v := 4) hx hb dX4_isSoundNow_5 (by decide) ?_
      refine lv_icmp_ge (tgt := 93) hx hb dX4_isSoundNow_6 (by decide) (fun c2 => ?_) (fun c2 => ?_)
      · refine W.widen (show (C1 + 0) ≤ 465 by omega) (show (S1 + 0) ≤ 1395 by omega) ?_
        refine lv_iload_n hx hb dX4_isSoundNow_93 rfl (lv_at hl 1 rfl) ?_
        exact rt_i X hr (ad, mg g ad y cr dr th kn rf pl pz mc) B (PO_of B) ⟨rfl, hus.symm, rfl⟩ (nb_of (Or.inr hus)) (Nat.le_of_ble_eq_true rfl) (Nat.le_of_ble_eq_true rfl) dX4_isSoundNow_94
      · refine lv_iload_n hx hb dX4_isSoundNow_9 rfl (lv_at hl 1 rfl) ?_
        refine lv_aload_n hx hb dX4_isSoundNow_10 rfl (lv_at hl 2 rfl) ?_
        refine b_get (q := 24) (k := 1) hb0 X hK B rfl in_X4 (by omega) mg_24 (by decide) lk_X4_11 rfl rfl dX4_isSoundNow_11 ?_
        refine lv_iload_n hx hb dX4_isSoundNow_14 rfl (lv_at hl 0 rfl) ?_
        refine b_aald (q := 25) (t0 := 2) (v := ad (28 + sa.toNatClampNeg)) rfl X hK B (by omega) mg_25 rfl rfl (ix_in (n := 4) hks c2 rfl) rfl dX4_isSoundNow_15 ?_
        have g3 : sa.toNatClampNeg < 4 := (ix_lt (n := 4) hks c2 rfl)
        refine k_i (k := (C1 + 8)) (n := (S1 + 24)) hA B (u_S (rest := [.int us]) X (c_X4_isSpanSound l g N ad (mg g ad y cr dr th kn rf pl pz mc) (28 + sa.toNatClampNeg) (ad (28 + sa.toNatClampNeg)) (cr sa.toNatClampNeg) (pl_cr hN g3) rfl (mg_cr g3) H.size) mw_X4_isSpanSound md_X4_isSpanSound rfl lk_X4_254 ⟨Nat.le_of_ble_eq_true rfl, Nat.le_of_ble_eq_true rfl⟩ hA hK hT B hl.1 rfl (Nat.le_of_ble_eq_true rfl) dX4_isSoundNow_16 (by dsimp only [rm]; omega)) (by dsimp only [rm]; omega) (by dsimp only [rm]; omega) (fun r4 ad4 f' H locs hw B => ?_)
        obtain ⟨rfl, rfl, rfl⟩ := hw
        refine lv_iand hx hb dX4_isSoundNow_19 ?_
        refine lv_istore_n (lv' := [(1, .int (us &&& (v_X4_isSpanSound (cr sa.toNatClampNeg)))), (2, .int sa), (0, .ref b0)]) hx hb dX4_isSoundNow_20 rfl hl (by decide) rfl (fun ls hl => ?_)
        refine lv_iconst (v := 0) hx hb dX4_isSoundNow_21 (by decide) ?_
        refine lv_istore_n (lv' := [(3, .int 0), (1, .int (us &&& (v_X4_isSpanSound (cr sa.toNatClampNeg)))), (2, .int sa), (0, .ref b0)]) hx hb dX4_isSoundNow_22 rfl hl (by decide) rfl (fun ls hl => ?_)
        have loop5 : ∀ (n5 : Nat) (sb : Int32) (ut : Int32) (C5 : Nat) (S5 : Nat) (H : Heap) (locs : List Loc), C5 + n5 * 17 ≤ (C1 + 93) → S5 + n5 * 51 ≤ (S1 + 279) → ((4 : Int32).toInt - sb.toInt).toNat < n5 → ut = 1 → ¬ sb < 0 → WB g (aw N ad sz) s.heap N ad (mg g ad y cr dr th kn rf pl pz mc) H locs → ∀ ls : Array Slot, lv_has ls 4 [(3, .int sb), (1, .int ut), (2, .int sa), (0, .ref b0)] → W p l e (rm 5 465 1395) s m args below meth c H locs C5 S5 (MQ below (va_Qi (fun r (u : WS) => (fun r ad' f' => ad = ad' ∧ 1 = r ∧ mg g ad y cr dr th kn rf pl pz mc = f') r u.1 u.2) (fun u t => PO g N u.1 u.2 (aw N ad sz) t) (aw N ad sz)) args s (rm 5 465 1395).cells (rm 5 465 1395).slots (aw N ad sz)) (F0 m 23 ls []) := by
          intro n5
          induction n5 with
          | zero => intro sb ut C5 S5 H locs _ _ hn; exact absurd hn (Nat.not_lt_zero _)
          | succ n5 ih5 =>
            intro sb ut C5 S5 H locs hC5 hS5 hn5 hut hkt B ls hl
            refine lv_iload_n hx hb dX4_isSoundNow_23 rfl (lv_at hl 0 rfl) ?_
            refine lv_iconst (v := 4) hx hb dX4_isSoundNow_24 (by decide) ?_
            refine lv_icmp_ge (tgt := 87) hx hb dX4_isSoundNow_25 (by decide) (fun c6 => ?_) (fun c6 => ?_)
            · refine W.widen (show (C5 + 0) ≤ (C1 + 93) by omega) (show (S5 + 0) ≤ (S1 + 279) by omega) ?_
              refine lv_iinc (v := sa + 1) (lv' := [(2, .int (sa + 1)), (3, .int sb), (1, .int ut), (0, .ref b0)]) hx hb dX4_isSoundNow_87 hl (k := 2) rfl rfl (by decide) rfl (fun ls hl => ?_)
              refine lv_goto (tgt := 4) hx hb dX4_isSoundNow_90 (by decide) ?_
              exact ih1 (sa + 1) ut (C1 + 93) (S1 + 279) H locs (by omega) (by omega) (fu_le c2 hn1) hut (inc_nn hks c2) B ls (lv_sub hl [0, 2, 3] rfl)
            · refine lv_iload_n hx hb dX4_isSoundNow_28 rfl (lv_at hl 1 rfl) ?_
              refine lv_aload_n hx hb dX4_isSoundNow_29 rfl (lv_at hl 3 rfl) ?_
              refine b_get (q := 24) (k := 1) hb0 X hK B rfl in_X4 (by omega) mg_24 (by decide) lk_X4_11 rfl rfl dX4_isSoundNow_30 ?_
              refine lv_iload_n hx hb dX4_isSoundNow_33 rfl (lv_at hl 2 rfl) ?_
              refine b_aald (q := 25) (t0 := 2) (v := ad (28 + sa.toNatClampNeg)) rfl X hK B (by omega) mg_25 rfl rfl (ix_in (n := 4) hks c2 rfl) rfl dX4_isSoundNow_34 ?_
              have g7 : sa.toNatClampNeg < 4 := (ix_lt (n := 4) hks c2 rfl)
              refine lv_aload_n hx hb dX4_isSoundNow_35 rfl (lv_at hl 3 rfl) ?_
              refine b_get (q := 24) (k := 1) hb0 X hK B rfl in_X4 (by omega) mg_24 (by decide) lk_X4_11 rfl rfl dX4_isSoundNow_36 ?_
              refine lv_iload_n hx hb dX4_isSoundNow_39 rfl (lv_at hl 0 rfl) ?_
              refine b_aald (q := 25) (t0 := 2) (v := ad (28 + sb.toNatClampNeg)) rfl X hK B (by omega) mg_25 rfl rfl (ix_in (n := 4) hkt c6 rfl) rfl dX4_isSoundNow_40 ?_
              have g8 : sb.toNatClampNeg < 4 := (ix_lt (n := 4) hkt c6 rfl)
              refine k_i (k := (C5 + 11)) (n := (S5 + 33)) hA B (u_S (rest := [.int ut]) X (c_X4_areSound l g N ad (mg g ad y cr dr th kn rf pl pz mc) (28 + sa.toNatClampNeg) (ad (28 + sa.toNatClampNeg)) (cr sa.toNatClampNeg) (pl_cr hN g7) rfl (mg_cr g7) (28 + sb.toNatClampNeg) (ad (28 + sb.toNatClampNeg)) (cr sb.toNatClampNeg) (pl_cr hN g8) rfl (mg_cr g8) H.size) mw_X4_areSound md_X4_areSound rfl lk_X4_258 ⟨Nat.le_of_ble_eq_true rfl, Nat.le_of_ble_eq_true rfl⟩ hA hK hT B hl.1 rfl (Nat.le_of_ble_eq_true rfl) dX4_isSoundNow_41 (by dsimp only [rm]; omega)) (by dsimp only [rm]; omega) (by dsimp only [rm]; omega) (fun r9 ad9 f' H locs hw B => ?_)
              obtain ⟨rfl, rfl, rfl⟩ := hw
              refine lv_if_eq (tgt := 78) hx hb dX4_isSoundNow_44 (by decide) (fun c10 => ?_) (fun c10 => ?_)
              · refine lv_iconst (v := 0) hx hb dX4_isSoundNow_78 (by decide) ?_
                refine lv_iand hx hb dX4_isSoundNow_79 ?_
                refine lv_istore_n (lv' := [(1, .int (ut &&& 0)), (3, .int sb), (2, .int sa), (0, .ref b0)]) hx hb dX4_isSoundNow_80 rfl hl (by decide) rfl (fun ls hl => ?_)
                refine lv_iinc (v := sb + 1) (lv' := [(3, .int (sb + 1)), (1, .int (ut &&& 0)), (2, .int sa), (0, .ref b0)]) hx hb dX4_isSoundNow_81 hl (k := 1) rfl rfl (by decide) rfl (fun ls hl => ?_)
                refine lv_goto (tgt := 23) hx hb dX4_isSoundNow_84 (by decide) ?_
                exact ih5 (sb + 1) (ut &&& 0) (C5 + 11) (S5 + 33) H locs (by omega) (by omega) (fu_le c6 hn5) (absurd c10 (by rw [x4_as]; decide)) (inc_nn hkt c6) B ls (lv_sub hl [0, 1, 2, 3] rfl)
              · refine lv_aload_n hx hb dX4_isSoundNow_47 rfl (lv_at hl 3 rfl) ?_
                refine b_get (q := 24) (k := 3) hb0 X hK B rfl in_X4 (by omega) mg_24 (by decide) lk_X4_23 rfl rfl dX4_isSoundNow_48 ?_
                refine lv_iload_n hx hb dX4_isSoundNow_51 rfl (lv_at hl 2 rfl) ?_
                refine b_aald (q := 26) (t0 := 2) (v := ad (32 + sa.toNatClampNeg)) rfl X hK B (by omega) mg_26 rfl rfl (ix_in (n := 4) hks c2 rfl) rfl dX4_isSoundNow_52 ?_
                have g11 : sa.toNatClampNeg < 4 := (ix_lt (n := 4) hks c2 rfl)
                refine lv_aload_n hx hb dX4_isSoundNow_53 rfl (lv_at hl 3 rfl) ?_
                refine b_get (q := 24) (k := 3) hb0 X hK B rfl in_X4 (by omega) mg_24 (by decide) lk_X4_23 rfl rfl dX4_isSoundNow_54 ?_
                refine lv_iload_n hx hb dX4_isSoundNow_57 rfl (lv_at hl 0 rfl) ?_
                refine b_aald (q := 26) (t0 := 2) (v := ad (32 + sb.toNatClampNeg)) rfl X hK B (by omega) mg_26 rfl rfl (ix_in (n := 4) hkt c6 rfl) rfl dX4_isSoundNow_58 ?_
                have g12 : sb.toNatClampNeg < 4 := (ix_lt (n := 4) hkt c6 rfl)
                refine k_r (k := (C5 + 13)) (n := (S5 + 39)) hA B (u_S (rest := [.int ut]) X (c_X4_apart l g N ad (mg g ad y cr dr th kn rf pl pz mc) (32 + sa.toNatClampNeg) (ad (32 + sa.toNatClampNeg)) (dr sa.toNatClampNeg) (pl_dr hN g11) rfl (mg_dr g11) (32 + sb.toNatClampNeg) (ad (32 + sb.toNatClampNeg)) (dr sb.toNatClampNeg) (pl_dr hN g12) rfl (mg_dr g12) (hdr _ g11) (hdr _ g12) H.size) mw_X4_apart md_X4_apart rfl lk_X4_219 ⟨Nat.le_of_ble_eq_true rfl, Nat.le_of_ble_eq_true rfl⟩ hA hK hT B hl.1 rfl (Nat.le_of_ble_eq_true rfl) dX4_isSoundNow_59 (by dsimp only [rm]; omega)) (by dsimp only [rm]; omega) (by dsimp only [rm]; omega) (fun r13 ad13 f' H locs hw B => ?_)
                generalize o14 : (v_X4_apart (dr sa.toNatClampNeg) (dr sb.toNatClampNeg)) = v9 at hw B
                cases v9 with
                | none =>
                  obtain ⟨rfl, rfl, rfl⟩ := pw_n hw
                  refine lv_ifnullN (tgt := 74) hx hb dX4_isSoundNow_62 (by decide) ?_
                  refine lv_iconst (v := 1) hx hb dX4_isSoundNow_74 (by decide) ?_
                  refine lv_goto (tgt := 79) hx hb dX4_isSoundNow_75 (by decide) ?_
                  refine lv_iand hx hb dX4_isSoundNow_79 ?_
                  refine lv_istore_n (lv' := [(1, .int (ut &&& 1)), (3, .int sb), (2, .int sa), (0, .ref b0)]) hx hb dX4_isSoundNow_80 rfl hl (by decide) rfl (fun ls hl => ?_)
                  refine lv_iinc (v := sb + 1) (lv' := [(3, .int (sb + 1)), (1, .int (ut &&& 1)), (2, .int sa), (0, .ref b0)]) hx hb dX4_isSoundNow_81 hl (k := 1) rfl rfl (by decide) rfl (fun ls hl => ?_)
                  refine lv_goto (tgt := 23) hx hb dX4_isSoundNow_84 (by decide) ?_
                  exact ih5 (sb + 1) (ut &&& 1) (C5 + 13) (S5 + 39) H locs (by omega) (by omega) (fu_le c6 hn5) (and11 hut rfl) (inc_nn hkt c6) B ls (lv_sub hl [0, 1, 2, 3] rfl)
                | some t14 =>
                  obtain ⟨z14, rfl, rfl, rfl⟩ := pw_s hw
                  have B : WB g (aw N ad sz) s.heap (N + 1) (va_up ad N z14) (mg g (va_up ad N z14) (va_up y N (c_row g t14)) cr dr th kn rf pl pz mc) H locs := WM_push (by omega) B
                  refine lv_ifnull hx hb dX4_isSoundNow_62 ?_
                  refine lv_aload_n hx hb dX4_isSoundNow_65 rfl (lv_at hl 3 rfl) ?_
                  refine lv_iload_n hx hb dX4_isSoundNow_66 rfl (lv_at hl 2 rfl) ?_
                  refine lv_iload_n hx hb dX4_isSoundNow_67 rfl (lv_at hl 0 rfl) ?_
                  refine k_i (k := (C5 + 17)) (n := (S5 + 51)) hA B (b_V (q := 24) (rest := [.int ut]) ((up_lt (by omega)).trans hb0) X (c_X4_leadsBack l g (N + 1) (va_up ad N z14) (va_up y N (c_row g t14)) cr dr th kn rf pl pz mc (by omega) b0 ((up_lt (by omega)).trans hb0) sa sb (no_of hks c2) (no_of hkt c6) hdr H.size) mw_X4_leadsBack md_X4_leadsBack rfl lk_X4_239 ⟨Nat.le_of_ble_eq_true rfl, Nat.le_of_ble_eq_true rfl⟩ hA hK hT B (by omega) mg_24 rfl rfl hl.1 rfl (Nat.le_of_ble_eq_true rfl) dX4_isSoundNow_68 (by dsimp only [rm]; omega)) (by dsimp only [rm]; omega) (by dsimp only [rm]; omega) (fun r15 ad15 f' H locs hw B => ?_)
                  obtain ⟨rfl, rfl, rfl⟩ := hw
                  refine lv_if_eq (tgt := 78) hx hb dX4_isSoundNow_71 (by decide) (fun c16 => ?_) (fun c16 => ?_)
                  · refine lv_iconst (v := 0) hx hb dX4_isSoundNow_78 (by decide) ?_
                    refine lv_iand hx hb dX4_isSoundNow_79 ?_
                    refine lv_istore_n (lv' := [(1, .int (ut &&& 0)), (3, .int sb), (2, .int sa), (0, .ref b0)]) hx hb dX4_isSoundNow_80 rfl hl (by decide) rfl (fun ls hl => ?_)
                    refine lv_iinc (v := sb + 1) (lv' := [(3, .int (sb + 1)), (1, .int (ut &&& 0)), (2, .int sa), (0, .ref b0)]) hx hb dX4_isSoundNow_81 hl (k := 1) rfl rfl (by decide) rfl (fun ls hl => ?_)
                    refine lv_goto (tgt := 23) hx hb dX4_isSoundNow_84 (by decide) ?_
                    have B : WB g (aw N ad sz) s.heap N ad (mg g ad y cr dr th kn rf pl pz mc) H locs := WM_drop B (by omega) (by omega) (fun _ hk => (up_lt hk)) (fun _ hk => (up_lt hk))
                    exact ih5 (sb + 1) (ut &&& 0) (C5 + 17) (S5 + 51) H locs (by omega) (by omega) (fu_le c6 hn5) (absurd c16 (by rw [lb_1 (hov _ g11) (hov _ g12) o14]; decide)) (inc_nn hkt c6) B ls (lv_sub hl [0, 1, 2, 3] rfl)
                  · refine lv_iconst (v := 1) hx hb dX4_isSoundNow_74 (by decide) ?_
                    refine lv_goto (tgt := 79) hx hb dX4_isSoundNow_75 (by decide) ?_
                    refine lv_iand hx hb dX4_isSoundNow_79 ?_
                    refine lv_istore_n (lv' := [(1, .int (ut &&& 1)), (3, .int sb), (2, .int sa), (0, .ref b0)]) hx hb dX4_isSoundNow_80 rfl hl (by decide) rfl (fun ls hl => ?_)
                    refine lv_iinc (v := sb + 1) (lv' := [(3, .int (sb + 1)), (1, .int (ut &&& 1)), (2, .int sa), (0, .ref b0)]) hx hb dX4_isSoundNow_81 hl (k := 1) rfl rfl (by decide) rfl (fun ls hl => ?_)
                    refine lv_goto (tgt := 23) hx hb dX4_isSoundNow_84 (by decide) ?_
                    have B : WB g (aw N ad sz) s.heap N ad (mg g ad y cr dr th kn rf pl pz mc) H locs := WM_drop B (by omega) (by omega) (fun _ hk => (up_lt hk)) (fun _ hk => (up_lt hk))
                    exact ih5 (sb + 1) (ut &&& 1) (C5 + 17) (S5 + 51) H locs (by omega) (by omega) (fu_le c6 hn5) (and11 hut rfl) (inc_nn hkt c6) B ls (lv_sub hl [0, 1, 2, 3] rfl)
        have hT5 : 4 + 1 ≤ 5 := (by decide)
        exact loop5 (4 + 1) 0 (us &&& (v_X4_isSpanSound (cr sa.toNatClampNeg))) (C1 + 8) (S1 + 24) H locs (by omega) (by omega) (by decide) (and11 hus (x4_ss _)) (by decide) B ls hl
  have hT1 : 4 + 1 ≤ 5 := (by decide)
  exact loop1 (4 + 1) 0 1 0 0 H locs (by omega) (by omega) (by decide) rfl (by decide) B ls hl
set_option maxHeartbeats 4000000 in
set_option maxRecDepth 100000 in
theorem c1_X4_isSound (l : Launch) (g : GG) (N : Nat) (ad : Nat → Nat) (y : Nat → va_E) (cr dr : Nat → TR) (th kn rf : Int32) (pl : Nat → TR) (pz : Nat) (mc : Int32) (hN : 36 + pz ≤ N) (b0 : Nat) (hb0 : ad 24 = b0) (hdr : ∀ i, i < 4 → okd (dr i)) (hov : ∀ i, i < 4 → okv (dr i)) : KI l yX4_isSound cX4_isSound 1 (some .boolean) (rm 6 465 1395) g [.ref b0] N ad (mg g ad y cr dr th kn rf pl pz mc) N (fun r ad' f' => ad = ad' ∧ 1 = r ∧ mg g ad y cr dr v_X4_isSound kn rf pl pz mc = f') := by
  intro sz
  refine mt_start (by decide) (Nat.le_of_ble_eq_true rfl) ?_
  intro p e s m args below meth c hsz X hr hnam hA hK hT H locs B ls hl
  obtain ⟨hx, hb, hml, hown, hts, hlocks⟩ := id X
  have hl : lv_has ls 1 [(0, .ref b0)] := hl
  refine lv_aload_n hx hb dX4_isSound_0 rfl (lv_at hl 0 rfl) ?_
  refine lv_iconst (v := 0) hx hb dX4_isSound_1 (by decide) ?_
  refine b_put (q := 24) (k := 0) hb0 X hK B rfl in_X4 tyX4_ok nmX4 (by omega) mg_24 (by decide) lk_X4_26 rfl rfl rfl rfl rfl (Nat.le_of_ble_eq_true rfl) dX4_isSound_2 (fun H locs B => ?_)
  have B : WB g (aw N ad sz) s.heap N ad (mg g ad y cr dr 0 kn rf pl pz mc) H locs := by rw [← mg_up_md]; exact B
  refine lv_aload_n hx hb dX4_isSound_5 rfl (lv_at hl 0 rfl) ?_
  refine k_i (k := 465) (n := 1395) hA B (b_V (q := 24) (rest := []) hb0 X (c1_X4_isSoundNow l g N ad y cr dr 0 kn rf pl pz mc (by omega) b0 hb0 hdr hov H.size) mw_X4_isSoundNow md_X4_isSoundNow rfl lk_X4_261 ⟨Nat.le_of_ble_eq_true rfl, Nat.le_of_ble_eq_true rfl⟩ hA hK hT B (by omega) mg_24 rfl rfl hl.1 rfl (Nat.le_of_ble_eq_true rfl) dX4_isSound_6 ⟨Nat.le_of_ble_eq_true rfl, Nat.le_of_ble_eq_true rfl⟩) (Nat.le_of_ble_eq_true rfl) (Nat.le_of_ble_eq_true rfl) (fun r1 ad1 f' H locs hw B => ?_)
  obtain ⟨rfl, rfl, rfl⟩ := hw
  have ev := (show v_X4_isSound = 0 from rfl)
  exact rt_i X hr (ad, mg g ad y cr dr 0 kn rf pl pz mc) B (PO_of B) ⟨rfl, rfl, by rw [ev]⟩ rfl (Nat.le_of_ble_eq_true rfl) (Nat.le_of_ble_eq_true rfl) dX4_isSound_9
end
section
/-! how many signs: the class's count as the digits -/
theorem dgs_1 (w : Nat) : 1 ≤ dgs w := by
  rw [dgs]
  by_cases h : w < 10
  · rw [if_pos h]; exact Nat.le_refl _
  · rw [if_neg h]; omega
theorem dg_lt : ∀ (p w : Nat), 1 ≤ p → (10 ^ p ≤ w ↔ p < dgs w) := by
  intro p
  induction p with
  | zero => intro w h; omega
  | succ p ih =>
    intro w _
    have e : 10 ^ (p + 1) = 10 ^ p * 10 := Nat.pow_succ 10 p
    have hp : 0 < 10 ^ p := Nat.pow_pos (by decide)
    rw [dgs]
    by_cases h : w < 10
    · rw [if_pos h]
      omega
    · rw [if_neg h]
      have hd := dgs_1 (w / 10)
      have hl : 10 ^ p * 10 ≤ w ↔ 10 ^ p ≤ w / 10 := (Nat.le_div_iff_mul_le (by decide)).symm
      rw [e, hl]
      by_cases z : p = 0
      · subst z
        have : (10 : Nat) ^ 0 = 1 := rfl
        rw [this]
        omega
      · have := ih (w / 10) (by omega)
        omega
theorem dgs_t10 {w : Nat} (h : w < 10 ^ 10) : dgs w ≤ 10 := by
  have := dg_lt 10 w (by decide)
  rcases Nat.lt_or_ge 10 (dgs w) with q | q
  · have := this.mpr q; omega
  · exact q
theorem sg_w {w : Nat} (hw : w < 10 ^ 10) : ∀ (n p s : Nat), 1 ≤ p → p ≤ dgs w → 11 - p < n → wX2_signsOf_31 n (nI p) (lN (10 ^ p)) (nI s) (lN w) = nI (s + (dgs w - p)) := by
  have hd := dgs_t10 hw
  intro n
  induction n with
  | zero => intro p s _ _ h; omega
  | succ n ih =>
    intro p s h1 h2 hn
    rw [wX2_signsOf_31]
    have h10 : 10 ^ p ≤ 10 ^ 10 := Nat.pow_le_pow_right (by decide) (by omega)
    have c : ¬ 11 ≤ nI p := nI_ge (a := p) (b := 11) (by omega) (by decide)
    rw [if_neg c]
    have hg := (lg_cmp_gt (lN (10 ^ p)) (lN w)).trans (pk_lLT (a := w) (b := 10 ^ p) (by omega) (by omega))
    have hq := dg_lt p w h1
    by_cases d : 0 < lg_cmp (lN (10 ^ p)) (lN w)
    · rw [if_pos d]
      have := hg.mp d
      have : dgs w = p := by
        rcases Nat.lt_or_ge p (dgs w) with q | q
        · have := hq.mpr q; omega
        · omega
      rw [this, Nat.sub_self, Nat.add_zero]
    · rw [if_neg d]
      have hlt : p < dgs w := hq.mp (by
        rcases Nat.lt_or_ge w (10 ^ p) with q | q
        · exact absurd (hg.mpr q) d
        · exact q)
      have e1 : lN (10 ^ p) * 10 = lN (10 ^ (p + 1)) := by
        rw [Nat.pow_succ]
        exact lN_mul (10 ^ p) 10
      rw [nI_1, nI_1, e1, ih (p + 1) (s + 1) (by omega) (by omega) (by omega)]
      have : s + 1 + (dgs w - (p + 1)) = s + (dgs w - p) := by omega
      rw [this]
theorem fu_11 : ((11 : Int32).toInt - (1 : Int32).toInt).toNat + 1 = 11 := by decide
theorem sg_eq (a : Int32) : v_X2_signsOf a = nI (ssz a) := by
  have h1 := Int32.toInt_lt a
  have h2 := Int32.le_toInt a
  have e0 : (0 : Int32).toInt = 0 := rfl
  have hw : a.toInt.natAbs < 10 ^ 10 := by omega
  have hd := dgs_1 a.toInt.natAbs
  unfold v_X2_signsOf ssz
  rw [fu_11]
  by_cases c : 0 ≤ a
  · rw [if_pos c, if_pos c]
    rw [Int32.le_iff_toInt_le] at c
    have ea : a.toInt64 = lN a.toInt.natAbs := Int64.toInt_inj.mp (by rw [Int32.toInt_toInt64, pk_lT (by omega)]; omega)
    have hn : ¬ a < 0 := by rw [Int32.lt_iff_toInt_lt]; omega
    rw [if_neg hn, ea]
    have := sg_w hw 11 1 1 (by omega) hd (by omega)
    have e2 : 1 + (dgs a.toInt.natAbs - 1) = dgs a.toInt.natAbs + 0 := by omega
    rw [e2] at this
    exact this
  · rw [if_neg c, if_neg c]
    rw [Int32.le_iff_toInt_le] at c
    have en : (-a.toInt64).toInt = -a.toInt := by
      rw [Int64.toInt_neg, Int32.toInt_toInt64, Int.bmod_eq_of_le (by omega) (by omega)]
    have ea : -a.toInt64 = lN a.toInt.natAbs := Int64.toInt_inj.mp (by rw [en, pk_lT (by omega)]; omega)
    have hn : a < 0 := by rw [Int32.lt_iff_toInt_lt]; omega
    rw [if_pos hn, ea]
    have := sg_w hw 11 1 2 (by omega) hd (by omega)
    have e2 : 2 + (dgs a.toInt.natAbs - 1) = dgs a.toInt.natAbs + 1 := by omega
    rw [e2] at this
    exact this
theorem sgs_eq (sp : Nat → TR) (i : Nat) : v_X1_signs sp i = nI (tlen (sp i)) := by
  unfold v_X1_signs tlen
  rw [sg_eq, sg_eq, sg_eq, nI_add, nI_add]
  have e : ssz (sp i).1 + ssz (sp i).2.1 + ssz (sp i).2.2 + 5 = ssz (sp i).1 + 2 + ssz (sp i).2.1 + 2 + ssz (sp i).2.2 + 1 := by omega
  rw [← e]
  exact nI_add _ 5
theorem sgd_eq (dy : Nat → TR) (j : Nat) : v_X0_signs dy j = nI (dlen (dy j)) := by
  unfold v_X0_signs dlen
  rw [sg_eq, sg_eq, sg_eq, nI_add, nI_add]
  have e : ssz (dy j).1 + ssz (dy j).2.1 + ssz (dy j).2.2 + 2 = ssz (dy j).1 + 1 + ssz (dy j).2.1 + 1 + ssz (dy j).2.2 := by omega
  rw [← e]
  exact nI_add _ 2
/-! a loop's running sum -/
def LJ (b : Int32) (f : Nat → Int64) (c : Int32) (d : Int64) : Prop := ¬ b < c ∧ d = f c.toNatClampNeg
theorem LJ_0 {b : Int32} {f : Nat → Int64} {d : Int64} (h : ¬ b < 0) (hd : d = f 0) : LJ b f 0 d := ⟨h, hd⟩
theorem tn_1 {c b : Int32} (h0 : ¬ c < 0) (h : ¬ b ≤ c) : (c + 1).toNatClampNeg = c.toNatClampNeg + 1 ∧ ¬ b < c + 1 := by
  rw [Int32.lt_iff_toInt_lt] at h0
  rw [Int32.le_iff_toInt_le] at h
  have hb := Int32.toInt_lt b
  have e0 : (0 : Int32).toInt = 0 := rfl
  have e1 : (1 : Int32).toInt = 1 := rfl
  have e := add_i (x := c) (y := 1) (by omega) (by omega)
  constructor
  · show (c + 1).toInt.toNat = c.toInt.toNat + 1
    omega
  · rw [Int32.lt_iff_toInt_lt]
    omega
theorem LJ_s {b : Int32} {f : Nat → Int64} {c : Int32} {d d' : Int64} (hj : LJ b f c d) (h0 : ¬ c < 0) (h : ¬ b ≤ c) (hd : d' = f (c.toNatClampNeg + 1)) : LJ b f (c + 1) d' := by
  obtain ⟨e1, e2⟩ := tn_1 h0 h
  exact ⟨e2, by rw [e1]; exact hd⟩
theorem LJ_e {b : Int32} {f : Nat → Int64} {c : Int32} {d : Int64} (n : Nat) (hj : LJ b f c d) (h0 : ¬ c < 0) (h : b ≤ c) (hb : b.toInt = n) : d = f n := by
  obtain ⟨h1, h2⟩ := hj
  rw [Int32.lt_iff_toInt_lt] at h0 h1
  rw [Int32.le_iff_toInt_le] at h
  have e0 : (0 : Int32).toInt = 0 := rfl
  have : c.toNatClampNeg = n := by
    show c.toInt.toNat = n
    omega
  rw [h2, this]
def fo (step : Nat → Int64 → Int64) (d : Int64) : Nat → Int64
  | 0 => d
  | k + 1 => step k (fo step d k)
theorem LF_0 {b : Int32} {step : Nat → Int64 → Int64} {d : Int64} (h : ¬ b < 0) : LJ b (fo step d) 0 d := ⟨h, rfl⟩
theorem LF_s {b : Int32} {step : Nat → Int64 → Int64} {c : Int32} {d0 d d' : Int64} (hj : LJ b (fo step d0) c d) (h0 : ¬ c < 0) (h : ¬ b ≤ c) (hd : d' = step c.toNatClampNeg d) : LJ b (fo step d0) (c + 1) d' :=
  LJ_s hj h0 h (by rw [hd]; show _ = step c.toNatClampNeg (fo step d0 c.toNatClampNeg); rw [← hj.2])
theorem nI_tn {c : Int32} (h : ¬ c < 0) : nI c.toNatClampNeg = c := by
  obtain ⟨j, hj, rfl⟩ := nI_of h
  rw [nI_clamp hj]
theorem fo_cg {s t : Nat → Int64 → Int64} {d : Int64} : ∀ n : Nat, (∀ k, k < n → ∀ x, s k x = t k x) → fo s d n = fo t d n := by
  intro n
  induction n with
  | zero => intro _; rfl
  | succ n ih =>
    intro h
    show s n (fo s d n) = t n (fo t d n)
    rw [ih (fun k hk x => h k (by omega) x), h n (by omega)]
/-! the digest's steps -/
def em : Int64 := (nI (st_len.getD 10 0)).toInt64
def tl (v : Option TR) : Int64 := om v em (fun t => (nI (tlen t)).toInt64)
def dl (v : Option TR) : Int64 := om v em (fun t => (nI (dlen t)).toInt64)
def sW (cr : Nat → TR) (i k : Nat) (d : Int64) : Int64 := v_X4_add d ((rw3 (cr i) k).toInt64)
def sA (cr : Nat → TR) (k : Nat) (d : Int64) : Int64 := v_X4_add (v_X4_add (v_X4_add (v_X4_add (v_X4_add (v_X4_add (fo (sW cr k) d 3) (v_X4_total (cr k))) ((v_X4_one (v_X4_isSame (cr k) v_X4_nothing)).toInt64)) ((v_X4_one (if (cr k).1 < 0 then 1 else (if (cr k).2.1 < 0 then 1 else (if 0 ≤ (cr k).2.2 then 0 else 1)))).toInt64)) ((nI (tlen (cr k))).toInt64)) (tl (v_X4_tidied (cr k)))) (tl (v_X4_opposed (cr k)))
def sN (cr : Nat → TR) (i k : Nat) (d : Int64) : Int64 := v_X4_add (v_X4_add d ((v_X4_one (v_X4_isSame (cr i) (cr k))).toInt64)) ((v_X4_one (v_X4_isAlike (cr i) (cr k))).toInt64)
def sM (cr : Nat → TR) (i : Nat) (d : Int64) : Int64 := fo (sN cr i) d 4
def sP (pl : Nat → TR) (pz : Nat) (k : Nat) (d : Int64) : Int64 := v_X4_add d (if (v_X4_isIn (nI k).toInt64 0 (((Int32.ofNat (pz - 1)) - 1).toInt64)) = 0 then em else (nI (tlen (pl k))).toInt64)
def dC (cr : Nat → TR) (pl : Nat → TR) (pz : Nat) (d : Int64) : Int64 := fo (sP pl pz) (fo (sM cr) (fo (sA cr) d 4) 4) 8
def sD (dr : Nat → TR) (i k : Nat) (d : Int64) : Int64 := v_X4_add d ((if nI k = 3 then (v_X4_number (dr i)) else (rw3 (dr i) k)).toInt64)
def sE (cr dr : Nat → TR) (i k : Nat) (d : Int64) : Int64 := v_X4_add (v_X4_add d (dl (v_X4_onBy (dr i) (cr k) 1))) (dl (v_X4_onBy (dr i) (cr k) (-1)))
def sF (cr dr : Nat → TR) (i : Nat) (d : Int64) : Int64 := fo (sE cr dr i) (fo (sD dr i) d 4) 4
def sO (dr : Nat → TR) (i k : Nat) (d : Int64) : Int64 := v_X4_add (v_X4_add d ((if 0 ≤ ((v_X4_number (dr i)) - (v_X4_number (dr k))) then (if ((v_X4_number (dr i)) - (v_X4_number (dr k))) ≤ 0 then (v_X4_one 0) else (v_X4_one 1)) else (-1) : Int32).toInt64)) (tl (v_X4_apart (dr i) (dr k)))
def sQ (dr : Nat → TR) (i : Nat) (d : Int64) : Int64 := fo (sO dr i) d 4
def dD (cr dr : Nat → TR) (d : Int64) : Int64 := fo (sQ dr) (fo (sF cr dr) d 4) 4
def sH (cr : Nat → TR) (kn rf : Int32) (pz : Nat) (k : Nat) (d : Int64) : Int64 := v_X4_add d ((v_X4_houseNow cr kn rf pz (nI k)).toInt64)
/-- the whole checksum, of the reference's rows -/
def dG (cr dr : Nat → TR) (kn rf : Int32) (pl : Nat → TR) (pz : Nat) : Int64 := v_X4_add (fo (sH cr kn rf pz) (dD cr dr (dC cr pl pz 6217)) 5) ((v_X4_one 1).toInt64)

theorem one_x {x : Int32} (h : x = 0 ∨ x = 1) : v_X4_one x = x := by
  rcases h with h | h
  · subst h; decide
  · subst h; decide
theorem one_1 : (v_X4_one 1).toInt64 = 1 := by decide
theorem dg_eq : v_X2_digestNext = v_X4_add := rfl
theorem z0 {x : Int32} (h : x = 0) : (0 : Int64) = x.toInt64 := by subst h; decide
theorem z1 {x : Int32} (h : x = 0 ∨ x = 1) (n : ¬ x = 0) : (1 : Int64) = x.toInt64 := by
  have e := h.resolve_left n
  subst e
  decide
theorem em_0 : (0 : Int64) = em := by decide
section CG
variable {a b c c' : Nat → TR} {i k : Nat} {d : Int64}
theorem sW_cg (h : a i = b i) : sW a i = sW b i := by
  funext k d
  unfold sW
  rw [h]
theorem sA_cg (h : a i = b i) : sA a i d = sA b i d := by
  unfold sA
  rw [sW_cg h, h]
theorem sN_cg (h : a i = b i) (g : a k = b k) : sN a i k d = sN b i k d := by
  unfold sN
  rw [h, g]
theorem sM_cg (h : ∀ j, j < 4 → a j = b j) (hi : i < 4) : sM a i d = sM b i d := fo_cg 4 (fun _ hk _ => sN_cg (h i hi) (h _ hk))
theorem sMM_cg (h : ∀ j, j < 4 → a j = b j) : fo (sM a) d 4 = fo (sM b) d 4 := fo_cg 4 (fun _ hk _ => sM_cg h hk)
theorem sD_cg (h : a i = b i) : sD a i = sD b i := by
  funext k d
  unfold sD
  rw [h]
theorem sE_cg (h : a i = b i) (g : c k = c' k) : sE c a i k d = sE c' b i k d := by
  unfold sE
  rw [h, g]
theorem sF_cg (h : a i = b i) (g : ∀ j, j < 4 → c j = c' j) : sF c a i d = sF c' b i d := by
  unfold sF
  rw [sD_cg h]
  exact fo_cg 4 (fun _ hk _ => sE_cg h (g _ hk))
theorem sO_cg (h : a i = b i) (g : a k = b k) : sO a i k d = sO b i k d := by
  unfold sO
  rw [h, g]
theorem sQ_cg (h : ∀ j, j < 4 → a j = b j) (hi : i < 4) : sQ a i d = sQ b i d := fo_cg 4 (fun _ hk _ => sO_cg (h i hi) (h _ hk))
theorem sQQ_cg (h : ∀ j, j < 4 → a j = b j) : fo (sQ a) d 4 = fo (sQ b) d 4 := fo_cg 4 (fun _ hk _ => sQ_cg h hk)
end CG
theorem tl_n {v : Option TR} (h : v = none) : tl v = (nI (st_len.getD 10 0)).toInt64 := by rw [h]; rfl
theorem tl_s {v : Option TR} {t : TR} (h : v = some t) : tl v = (nI (tlen t)).toInt64 := by rw [h]; rfl
theorem dl_n {v : Option TR} (h : v = none) : dl v = (nI (st_len.getD 10 0)).toInt64 := by rw [h]; rfl
theorem dl_s {v : Option TR} {t : TR} (h : v = some t) : dl v = (nI (dlen t)).toInt64 := by rw [h]; rfl
theorem LF_i {b : Int32} {step : Nat → Int64 → Int64} {d d' : Int64} (h : ¬ b < 0) (e : d' = d) : LJ b (fo step d) 0 d' := ⟨h, e⟩
/-! the class's turns as the steps -/
theorem rsg_om {sp : Nat → TR} {v : Option TR} : (v_X2_resultSigns (om v ((0 : Int32), sp) (fun t => (1, va_up sp 12 t))).2 (om v ((0 : Int32), sp) (fun t => (1, va_up sp 12 t))).1).toInt64 = tl v := by
  cases v with
  | none =>
    have e : v_X2_resultSigns sp 0 = 0 := if_pos rfl
    show (v_X2_resultSigns sp 0).toInt64 = em
    rw [e]
    decide
  | some t =>
    have e : v_X2_resultSigns (va_up sp 12 t) 1 = v_X1_signs (va_up sp 12 t) 12 := if_neg (by decide)
    show (v_X2_resultSigns (va_up sp 12 t) 1).toInt64 = (nI (tlen t)).toInt64
    rw [e, sgs_eq, up_eq]
theorem dA_leaf {sp : Nat → TR} {i : Nat} {d0 d p q : Int64} (hi : i < 12) (hd : d = fo (sW sp i) d0 3) (hp : p = (v_X1_isNothing sp i).toInt64) (hq : q = (v_X1_isBelowZero sp i).toInt64) :
    sA sp i d0 = v_X2_digestNext (v_X2_digestNext (v_X2_digestNext (v_X2_digestNext (v_X2_digestNext (v_X2_digestNext d (v_X1_allMonths sp i)) p) q) (v_X1_signs sp i).toInt64) (v_X2_resultSigns (v_X1_putTidy sp 12 i).2 (v_X1_putTidy sp 12 i).1).toInt64) (v_X2_resultSigns (v_X1_putOpposite (v_X1_putTidy sp 12 i).2 12 i).2 (v_X1_putOpposite (v_X1_putTidy sp 12 i).2 12 i).1).toInt64 := by
  subst hp hq
  have e1 : (v_X2_resultSigns (v_X1_putTidy sp 12 i).2 (v_X1_putTidy sp 12 i).1).toInt64 = tl (v_X4_tidied (sp i)) := by
    rw [ptid_eq]; exact rsg_om
  have e2 : ∀ s : Nat → TR, s i = sp i → (v_X2_resultSigns (v_X1_putOpposite s 12 i).2 (v_X1_putOpposite s 12 i).1).toInt64 = tl (v_X4_opposed (sp i)) := fun s hs => by
    rw [popp_eq, hs]; exact rsg_om
  have e3 : (v_X1_putTidy sp 12 i).2 i = sp i := kp_X1_putTidy_sp (by omega)
  have f1 : v_X4_one (v_X4_isSame (sp i) v_X4_nothing) = v_X1_isNothing sp i := by
    rw [one_x (same01 _ _)]; exact (zer_eq (cr := sp) rfl).symm
  have f2 : v_X4_one (if (sp i).1 < 0 then 1 else (if (sp i).2.1 < 0 then 1 else (if 0 ≤ (sp i).2.2 then 0 else 1))) = v_X1_isBelowZero sp i := one_x b01_X1_isBelowZero
  rw [e2 _ e3, e1, all_tot, sgs_eq, dg_eq, hd]
  unfold sA
  rw [f1, f2]
theorem dN_leaf {sp : Nat → TR} {i k : Nat} {d p q : Int64} (hp : p = (v_X1_isSameAs sp i k).toInt64) (hq : q = (v_X1_isAlikeTo sp i k).toInt64) : v_X2_digestNext (v_X2_digestNext d p) q = sN sp i k d := by
  subst hp hq
  have e1 : v_X1_isSameAs sp i k = v_X4_isSame (sp i) (sp k) := sam_eq rfl rfl
  have e2 : v_X1_isAlikeTo sp i k = v_X4_isAlike (sp i) (sp k) := ali_eq rfl rfl
  unfold sN
  rw [dg_eq, e1, e2, one_x (same01 _ _), one_x (alike01 _ _)]
theorem num_rw {sp : Nat → TR} {i : Nat} {a : Int32} (h0 : ¬ a < 0) (h : ¬ 3 ≤ a) : v_X1_number sp i a = rw3 (sp i) a.toNatClampNeg := by
  obtain ⟨k, hk, rfl⟩ := nI_of h0
  rw [Int32.le_iff_toInt_le, nI_toInt hk] at h
  have e3 : (3 : Int32).toInt = 3 := rfl
  rw [nI_clamp hk]
  unfold v_X1_number
  rcases (show k = 0 ∨ k = 1 ∨ k = 2 by omega) with rfl | rfl | rfl
  · rw [if_pos (show nI 0 = 0 by decide)]; rfl
  · rw [if_neg (show ¬ nI 1 = 0 by decide), if_pos (show nI 1 = 1 by decide)]; rfl
  · rw [if_neg (show ¬ nI 2 = 0 by decide), if_neg (show ¬ nI 2 = 1 by decide)]; rfl
theorem nd_rw {dy : Nat → TR} {j : Nat} {a : Int32} (hd : okd (dy j)) (h0 : ¬ a < 0) (h : ¬ 4 ≤ a) : v_X0_number dy j a = if nI a.toNatClampNeg = 3 then v_X4_number (dy j) else rw3 (dy j) a.toNatClampNeg := by
  obtain ⟨k, hk, rfl⟩ := nI_of h0
  rw [Int32.le_iff_toInt_le, nI_toInt hk] at h
  have e4 : (4 : Int32).toInt = 4 := rfl
  rw [nI_clamp hk]
  unfold v_X0_number
  rcases (show k = 0 ∨ k = 1 ∨ k = 2 ∨ k = 3 by omega) with rfl | rfl | rfl | rfl
  · rw [if_pos (show nI 0 = 0 by decide), if_neg (show ¬ nI 0 = 3 by decide)]; rfl
  · rw [if_neg (show ¬ nI 1 = 0 by decide), if_pos (show nI 1 = 1 by decide), if_neg (show ¬ nI 1 = 3 by decide)]; rfl
  · rw [if_neg (show ¬ nI 2 = 0 by decide), if_neg (show ¬ nI 2 = 1 by decide), if_pos (show nI 2 = 2 by decide), if_neg (show ¬ nI 2 = 3 by decide)]; rfl
  · rw [if_neg (show ¬ nI 3 = 0 by decide), if_neg (show ¬ nI 3 = 1 by decide), if_neg (show ¬ nI 3 = 2 by decide), if_pos (show nI 3 = 3 by decide)]
    exact num_t hd
theorem rs0 {sp dy dx : Nat → TR} {j i : Nat} {a : Int32} (h : dx j = dy j) (hd : okd (dy j)) (c : (v_X2_reach sp dx j i a).1 = 0) : (0 : Int64) = dl (v_X4_onBy (dy j) (sp i) (sgn a)) := by
  rw [← h] at hd ⊢
  rw [rch_eq hd] at c
  cases o : v_X4_onBy (dx j) (sp i) (sgn a) with
  | none => exact em_0
  | some t => rw [o] at c; exact absurd c (show ¬ (1 : Int32) = 0 by decide)
theorem rs1 {sp dy dx : Nat → TR} {j i : Nat} {a : Int32} (h : dx j = dy j) (hd : okd (dy j)) (c : ¬ (v_X2_reach sp dx j i a).1 = 0) : (v_X0_signs (v_X2_reach sp dx j i a).2 4).toInt64 = dl (v_X4_onBy (dy j) (sp i) (sgn a)) := by
  rw [← h] at hd ⊢
  rw [rch_eq hd] at c ⊢
  cases o : v_X4_onBy (dx j) (sp i) (sgn a) with
  | none => rw [o] at c; exact absurd rfl c
  | some t =>
    show (v_X0_signs (va_up dx 4 t) 4).toInt64 = (nI (dlen t)).toInt64
    rw [sgd_eq, up_eq]
theorem dE_leaf {sp dy : Nat → TR} {j i : Nat} {d p q : Int64} (hp : p = dl (v_X4_onBy (dy j) (sp i) (sgn 0))) (hq : q = dl (v_X4_onBy (dy j) (sp i) (sgn 1))) : v_X2_digestNext (v_X2_digestNext d p) q = sE sp dy j i d := by
  rw [sgn_0] at hp
  rw [sgn_1] at hq
  subst hp hq
  unfold sE
  rw [dg_eq]
theorem dO_leaf {sx dy : Nat → TR} {a b : Int32} {d : Int64} (hov : ∀ i, i < 4 → okv (dy i)) (ha : a.toNatClampNeg < 4) (hb : b.toNatClampNeg < 4) : v_X2_digestNext (v_X2_digestNext d (v_X0_orderTo dy a.toNatClampNeg b.toNatClampNeg).toInt64) (v_X2_resultSigns (v_X1_putBetween sx dy 12 a.toNatClampNeg b.toNatClampNeg).2 (v_X1_putBetween sx dy 12 a.toNatClampNeg b.toNatClampNeg).1).toInt64 = sO dy a.toNatClampNeg b.toNatClampNeg d := by
  rw [ordn_eq (dr := dy) (hov _ ha) (hov _ hb) rfl rfl, btw_eq (hov _ ha).1 (hov _ hb).1, rsg_om, dg_eq]
  rfl
theorem pq_in : ∀ pz, pz < 10 → ∀ k, k < 8 → (v_X4_isIn (nI k).toInt64 0 (((Int32.ofNat (pz - 1)) - 1).toInt64) = 0 ↔ pz - 1 ≤ k) := by decide +kernel
theorem pq_le : ∀ pz, pz < 10 → ∀ k, k < 8 → (Int32.ofNat (pz - 1) ≤ nI k ↔ pz - 1 ≤ k) := by decide +kernel
section SP
variable {sp dy cr dr pl sx : Nat → TR} {la re rf kn : Int32} {pz : Nat} {a : Int32} {d : Int64}
theorem sP_0 (hR : Rq sp dy la re cr dr rf pl pz) (h0 : ¬ a < 0) (h : ¬ 8 ≤ a) (c : la ≤ a) : v_X2_digestNext d 0 = sP pl pz a.toNatClampNeg d := by
  have h8 := ix_lt (n := 8) h0 h rfl
  obtain ⟨-, -, e1, -, -, e2, -⟩ := hR
  have hk := nI_tn h0
  rw [e1, ← hk] at c
  have := (pq_le pz (by omega) _ h8).mp c
  unfold sP
  rw [if_pos ((pq_in pz (by omega) _ h8).mpr this), dg_eq, em_0]
theorem sP_1 (hR : Rq sp dy la re cr dr rf pl pz) (hx : ∀ j, j < 12 → sx j = sp j) (h0 : ¬ a < 0) (h : ¬ 8 ≤ a) (c : ¬ la ≤ a) : v_X2_digestNext d (v_X1_signs sx (4 + a.toNatClampNeg)).toInt64 = sP pl pz a.toNatClampNeg d := by
  have h8 := ix_lt (n := 8) h0 h rfl
  obtain ⟨-, -, e1, e3, -, e2, -⟩ := hR
  have hk := nI_tn h0
  rw [e1, ← hk] at c
  have hn : ¬ pz - 1 ≤ a.toNatClampNeg := fun q => c ((pq_le pz (by omega) _ h8).mpr q)
  unfold sP
  rw [if_neg (fun q => hn ((pq_in pz (by omega) _ h8).mp q)), dg_eq, sgs_eq, hx (4 + a.toNatClampNeg) (by omega), e3 a.toNatClampNeg (by omega)]
theorem sH_1 (hR : Rq sp dy la re cr dr rf pl pz) (hx : ∀ j, j < 12 → sx j = sp j) (h0 : ¬ a < 0) (h : ¬ 5 ≤ a) : v_X2_digestNext d (v_X2_ofHouse sx la kn re a).toInt64 = sH cr kn rf pz a.toNatClampNeg d := by
  have h5 := ix_lt (n := 5) h0 h rfl
  unfold sH
  rw [dg_eq, ← ofh_eq (k := a.toNatClampNeg) (by omega) (RL_far (dy' := dy) hR hx (fun _ _ => rfl)), nI_tn h0]
theorem dG_e : dG cr dr kn rf pl pz = v_X2_digestNext (fo (sH cr kn rf pz) (fo (sQ dr) (fo (sF cr dr) (fo (sP pl pz) (fo (sM cr) (fo (sA cr) 6217 4) 4) 8) 4) 4) 5) 1 := by
  unfold dG dD dC
  rw [one_1, dg_eq]
end SP
end
section
set_option maxHeartbeats 4000000 in
set_option maxRecDepth 100000 in
theorem c1_X2_digestCard (l : Launch) (g : GG) (N : Nat) (ad : Nat → Nat) (x : Nat → va_E) (sp dy : Nat → TR) (la kn re : Int32) (hN : 23 ≤ N) (b1 : Int64) (i2 : Nat) (hi2 : i2 < 14) (hq2 : i2 < 12) : KL l yX2_digestCard cX2_digestCard 7 (rm 4 0 0) g [.ref (ad 0), .long b1, .ref (ad (4 + i2))] N ad (cf g ad x sp dy la kn re) N (fun r ad' f' => ad = ad' ∧ sA sp i2 b1 = r ∧ ∃ sp' dy' : Nat → TR, (∀ j, j < 12 → sp' j = sp j) ∧ (∀ j, j < 4 → dy' j = dy j) ∧ cf g ad x sp' dy' la kn re = f') := by
  intro sz
  refine mt_start (by decide) (Nat.le_of_ble_eq_true rfl) ?_
  intro p e s m args below meth c hsz X hr hnam hA hK hT H locs B ls hl
  obtain ⟨hx, hb, hml, hown, hts, hlocks⟩ := id X
  have hl : lv_has ls 7 [(0, .ref (ad 0)), (1, .long b1), (3, .ref (ad (4 + i2)))] := hl
  refine lv_lload_n hx hb dX2_digestCard_0 rfl (lv_at hl 1 rfl) ?_
  refine lv_lstore (lv' := [(4, .long b1), (0, .ref (ad 0)), (1, .long b1), (3, .ref (ad (4 + i2)))]) hx hb dX2_digestCard_1 hl (by decide) rfl (fun ls hl => ?_)
  refine lv_iconst (v := 0) hx hb dX2_digestCard_3 (by decide) ?_
  refine lv_istore (lv' := [(6, .int 0), (4, .long b1), (0, .ref (ad 0)), (1, .long b1), (3, .ref (ad (4 + i2)))]) hx hb dX2_digestCard_4 hl (by decide) rfl (fun ls hl => ?_)
  have loop1 : ∀ (n1 : Nat) (ua : Int32) (da : Int64) (H : Heap) (locs : List Loc), ((3 : Int32).toInt - ua.toInt).toNat < n1 → ¬ ua < 0 → LJ 3 (fo (sW sp i2) b1) ua da → WB g (aw N ad sz) s.heap N ad (cf g ad x sp dy la kn re) H locs → ∀ ls : Array Slot, lv_has ls 7 [(6, .int ua), (4, .long da), (0, .ref (ad 0)), (1, .long b1), (3, .ref (ad (4 + i2)))] → W p l e (rm 4 0 0) s m args below meth c H locs 0 0 (MQ below (va_Ql (fun r (u : WS) => (fun r ad' f' => ad = ad' ∧ sA sp i2 b1 = r ∧ ∃ sp' dy' : Nat → TR, (∀ j, j < 12 → sp' j = sp j) ∧ (∀ j, j < 4 → dy' j = dy j) ∧ cf g ad x sp' dy' la kn re = f') r u.1 u.2) (fun u t => PO g N u.1 u.2 (aw N ad sz) t) (aw N ad sz)) args s (rm 4 0 0).cells (rm 4 0 0).slots (aw N ad sz)) (F0 m 6 ls []) := by
    intro n1
    induction n1 with
    | zero => intro ua da H locs hn; exact absurd hn (Nat.not_lt_zero _)
    | succ n1 ih1 =>
      intro ua da H locs hn1 hzua hjua B ls hl
      refine lv_iload hx hb dX2_digestCard_6 (lv_at hl 0 rfl) ?_
      refine lv_iconst (v := 3) hx hb dX2_digestCard_8 (by decide) ?_
      refine lv_icmp_ge (tgt := 32) hx hb dX2_digestCard_9 (by decide) (fun c2 => ?_) (fun c2 => ?_)
      · refine lv_lload hx hb dX2_digestCard_32 (lv_at hl 1 rfl) ?_
        refine lv_aload_n hx hb dX2_digestCard_34 rfl (lv_at hl 4 rfl) ?_
        refine k_l (k := 0) (n := 0) hA B (u_VN (rest := [.long da]) X (c_X1_allMonths l g N ad x sp dy la kn re hN i2 hi2 H.size) mw_X1_allMonths md_X1_allMonths rfl lk_X2_108 ⟨Nat.le_of_ble_eq_true rfl, Nat.le_of_ble_eq_true rfl⟩ hA hK hT B (pl_sp hN hi2) (cf_sp hi2) rfl rfl hl.1 rfl (Nat.le_of_ble_eq_true rfl) dX2_digestCard_35 ⟨Nat.le_of_ble_eq_true rfl, Nat.le_of_ble_eq_true rfl⟩) (Nat.le_of_ble_eq_true rfl) (Nat.le_of_ble_eq_true rfl) (fun r ad' f' H locs hw B => ?_)
        obtain ⟨rfl, rfl, rfl⟩ := hw
        refine k_l (k := 0) (n := 0) hA B (u_S (rest := []) X (c_X2_digestNext l g N ad x sp dy la kn re hN da (v_X1_allMonths sp i2) H.size) mw_X2_digestNext md_X2_digestNext rfl lk_X2_213 ⟨Nat.le_of_ble_eq_true rfl, Nat.le_of_ble_eq_true rfl⟩ hA hK hT B hl.1 rfl (Nat.le_of_ble_eq_true rfl) dX2_digestCard_38 ⟨Nat.le_of_ble_eq_true rfl, Nat.le_of_ble_eq_true rfl⟩) (Nat.le_of_ble_eq_true rfl) (Nat.le_of_ble_eq_true rfl) (fun r ad' f' H locs hw B => ?_)
        obtain ⟨rfl, rfl, rfl⟩ := hw
        refine lv_lstore (lv' := [(4, .long (v_X2_digestNext da (v_X1_allMonths sp i2))), (6, .int ua), (0, .ref (ad 0)), (1, .long b1), (3, .ref (ad (4 + i2)))]) hx hb dX2_digestCard_41 hl (by decide) rfl (fun ls hl => ?_)
        refine lv_lload hx hb dX2_digestCard_43 (lv_at hl 0 rfl) ?_
        refine lv_aload_n hx hb dX2_digestCard_45 rfl (lv_at hl 4 rfl) ?_
        refine k_i (k := 0) (n := 0) hA B (u_VN (rest := [.long (v_X2_digestNext da (v_X1_allMonths sp i2))]) X (c_X1_isNothing l g N ad x sp dy la kn re hN i2 hi2 H.size) mw_X1_isNothing md_X1_isNothing rfl lk_X2_116 ⟨Nat.le_of_ble_eq_true rfl, Nat.le_of_ble_eq_true rfl⟩ hA hK hT B (pl_sp hN hi2) (cf_sp hi2) rfl rfl hl.1 rfl (Nat.le_of_ble_eq_true rfl) dX2_digestCard_46 ⟨Nat.le_of_ble_eq_true rfl, Nat.le_of_ble_eq_true rfl⟩) (Nat.le_of_ble_eq_true rfl) (Nat.le_of_ble_eq_true rfl) (fun r ad' f' H locs hw B => ?_)
        obtain ⟨rfl, rfl, rfl⟩ := hw
        refine lv_if_eq (tgt := 56) hx hb dX2_digestCard_49 (by decide) (fun c6 => ?_) (fun c6 => ?_)
        · refine lv_lconst (v := 0) hx hb dX2_digestCard_56 (by decide) ?_
          refine k_l (k := 0) (n := 0) hA B (u_S (rest := []) X (c_X2_digestNext l g N ad x sp dy la kn re hN (v_X2_digestNext da (v_X1_allMonths sp i2)) 0 H.size) mw_X2_digestNext md_X2_digestNext rfl lk_X2_213 ⟨Nat.le_of_ble_eq_true rfl, Nat.le_of_ble_eq_true rfl⟩ hA hK hT B hl.1 rfl (Nat.le_of_ble_eq_true rfl) dX2_digestCard_57 ⟨Nat.le_of_ble_eq_true rfl, Nat.le_of_ble_eq_true rfl⟩) (Nat.le_of_ble_eq_true rfl) (Nat.le_of_ble_eq_true rfl) (fun r ad' f' H locs hw B => ?_)
          obtain ⟨rfl, rfl, rfl⟩ := hw
          refine lv_lstore (lv' := [(4, .long (v_X2_digestNext (v_X2_digestNext da (v_X1_allMonths sp i2)) 0)), (6, .int ua), (0, .ref (ad 0)), (1, .long b1), (3, .ref (ad (4 + i2)))]) hx hb dX2_digestCard_60 hl (by decide) rfl (fun ls hl => ?_)
          refine lv_lload hx hb dX2_digestCard_62 (lv_at hl 0 rfl) ?_
          refine lv_aload_n hx hb dX2_digestCard_64 rfl (lv_at hl 4 rfl) ?_
          refine k_i (k := 0) (n := 0) hA B (u_VN (rest := [.long (v_X2_digestNext (v_X2_digestNext da (v_X1_allMonths sp i2)) 0)]) X (c_X1_isBelowZero l g N ad x sp dy la kn re hN i2 hi2 H.size) mw_X1_isBelowZero md_X1_isBelowZero rfl lk_X2_120 ⟨Nat.le_of_ble_eq_true rfl, Nat.le_of_ble_eq_true rfl⟩ hA hK hT B (pl_sp hN hi2) (cf_sp hi2) rfl rfl hl.1 rfl (Nat.le_of_ble_eq_true rfl) dX2_digestCard_65 ⟨Nat.le_of_ble_eq_true rfl, Nat.le_of_ble_eq_true rfl⟩) (Nat.le_of_ble_eq_true rfl) (Nat.le_of_ble_eq_true rfl) (fun r ad' f' H locs hw B => ?_)
          obtain ⟨rfl, rfl, rfl⟩ := hw
          refine lv_if_eq (tgt := 75) hx hb dX2_digestCard_68 (by decide) (fun c9 => ?_) (fun c9 => ?_)
          · refine lv_lconst (v := 0) hx hb dX2_digestCard_75 (by decide) ?_
            refine k_l (k := 0) (n := 0) hA B (u_S (rest := []) X (c_X2_digestNext l g N ad x sp dy la kn re hN (v_X2_digestNext (v_X2_digestNext da (v_X1_allMonths sp i2)) 0) 0 H.size) mw_X2_digestNext md_X2_digestNext rfl lk_X2_213 ⟨Nat.le_of_ble_eq_true rfl, Nat.le_of_ble_eq_true rfl⟩ hA hK hT B hl.1 rfl (Nat.le_of_ble_eq_true rfl) dX2_digestCard_76 ⟨Nat.le_of_ble_eq_true rfl, Nat.le_of_ble_eq_true rfl⟩) (Nat.le_of_ble_eq_true rfl) (Nat.le_of_ble_eq_true rfl) (fun r ad' f' H locs hw B => ?_)
            obtain ⟨rfl, rfl, rfl⟩ := hw
            refine lv_lstore (lv' := [(4, .long (v_X2_digestNext (v_X2_digestNext (v_X2_digestNext da (v_X1_allMonths sp i2)) 0) 0)), (6, .int ua), (0, .ref (ad 0)), (1, .long b1), (3, .ref (ad (4 + i2)))]) hx hb dX2_digestCard_79 hl (by decide) rfl (fun ls hl => ?_)
            refine lv_lload hx hb dX2_digestCard_81 (lv_at hl 0 rfl) ?_
            refine lv_aload_n hx hb dX2_digestCard_83 rfl (lv_at hl 4 rfl) ?_
            refine k_i (k := 0) (n := 0) hA B (u_VN (rest := [.long (v_X2_digestNext (v_X2_digestNext (v_X2_digestNext da (v_X1_allMonths sp i2)) 0) 0)]) X (c_X1_signs l g N ad x sp dy la kn re hN i2 hi2 H.size) mw_X1_signs md_X1_signs rfl lk_X2_210 ⟨Nat.le_of_ble_eq_true rfl, Nat.le_of_ble_eq_true rfl⟩ hA hK hT B (pl_sp hN hi2) (cf_sp hi2) rfl rfl hl.1 rfl (Nat.le_of_ble_eq_true rfl) dX2_digestCard_84 ⟨Nat.le_of_ble_eq_true rfl, Nat.le_of_ble_eq_true rfl⟩) (Nat.le_of_ble_eq_true rfl) (Nat.le_of_ble_eq_true rfl) (fun r ad' f' H locs hw B => ?_)
            obtain ⟨rfl, rfl, rfl⟩ := hw
            refine lv_i2l (v := (v_X1_signs sp i2).toInt64) hx hb dX2_digestCard_87 rfl ?_
            refine k_l (k := 0) (n := 0) hA B (u_S (rest := []) X (c_X2_digestNext l g N ad x sp dy la kn re hN (v_X2_digestNext (v_X2_digestNext (v_X2_digestNext da (v_X1_allMonths sp i2)) 0) 0) ((v_X1_signs sp i2).toInt64) H.size) mw_X2_digestNext md_X2_digestNext rfl lk_X2_213 ⟨Nat.le_of_ble_eq_true rfl, Nat.le_of_ble_eq_true rfl⟩ hA hK hT B hl.1 rfl (Nat.le_of_ble_eq_true rfl) dX2_digestCard_88 ⟨Nat.le_of_ble_eq_true rfl, Nat.le_of_ble_eq_true rfl⟩) (Nat.le_of_ble_eq_true rfl) (Nat.le_of_ble_eq_true rfl) (fun r ad' f' H locs hw B => ?_)
            obtain ⟨rfl, rfl, rfl⟩ := hw
            refine lv_lstore (lv' := [(4, .long (v_X2_digestNext (v_X2_digestNext (v_X2_digestNext (v_X2_digestNext da (v_X1_allMonths sp i2)) 0) 0) ((v_X1_signs sp i2).toInt64))), (6, .int ua), (0, .ref (ad 0)), (1, .long b1), (3, .ref (ad (4 + i2)))]) hx hb dX2_digestCard_91 hl (by decide) rfl (fun ls hl => ?_)
            refine lv_lload hx hb dX2_digestCard_93 (lv_at hl 0 rfl) ?_
            refine lv_aload_n hx hb dX2_digestCard_95 rfl (lv_at hl 2 rfl) ?_
            refine lv_aload_n hx hb dX2_digestCard_96 rfl (lv_at hl 2 rfl) ?_
            refine g_get (q := 0) (k := 6) X hK B rfl in_X2 (pl_c hN 0 (by decide)) cf_0 (by decide) lk_X2_25 rfl rfl dX2_digestCard_97 ?_
            refine lv_aload_n hx hb dX2_digestCard_100 rfl (lv_at hl 4 rfl) ?_
            refine k_i (k := 0) (n := 0) hA B (u_VN (rest := [.ref (ad 0), .long (v_X2_digestNext (v_X2_digestNext (v_X2_digestNext (v_X2_digestNext da (v_X1_allMonths sp i2)) 0) 0) ((v_X1_signs sp i2).toInt64))]) X (c_X1_putTidy l g N ad x sp dy la kn re hN 12 (by decide) i2 hi2 H.size) mw_X1_putTidy md_X1_putTidy rfl lk_X2_88 ⟨Nat.le_of_ble_eq_true rfl, Nat.le_of_ble_eq_true rfl⟩ hA hK hT B (pl_sp hN (by decide)) (cf_sp (by decide)) rfl rfl hl.1 rfl (Nat.le_of_ble_eq_true rfl) dX2_digestCard_101 ⟨Nat.le_of_ble_eq_true rfl, Nat.le_of_ble_eq_true rfl⟩) (Nat.le_of_ble_eq_true rfl) (Nat.le_of_ble_eq_true rfl) (fun r ad' f' H locs hw B => ?_)
            obtain ⟨rfl, rfl, rfl⟩ := hw
            have k13 : ∀ j, j < 12 → (v_X1_putTidy sp 12 i2).2 j = sp j := fun j hj => kp_X1_putTidy_sp (by omega)
            refine k_i (k := 0) (n := 0) hA B (u_V (rest := [.long (v_X2_digestNext (v_X2_digestNext (v_X2_digestNext (v_X2_digestNext da (v_X1_allMonths sp i2)) 0) 0) ((v_X1_signs sp i2).toInt64))]) X (c_X2_resultSigns l g N ad x (v_X1_putTidy sp 12 i2).2 dy la kn re hN (v_X1_putTidy sp 12 i2).1 H.size) mw_X2_resultSigns md_X2_resultSigns rfl lk_X2_253 ⟨Nat.le_of_ble_eq_true rfl, Nat.le_of_ble_eq_true rfl⟩ hA hK hT B (pl_c hN 0 (by decide)) cf_0 rfl rfl hl.1 rfl (Nat.le_of_ble_eq_true rfl) dX2_digestCard_104 ⟨Nat.le_of_ble_eq_true rfl, Nat.le_of_ble_eq_true rfl⟩) (Nat.le_of_ble_eq_true rfl) (Nat.le_of_ble_eq_true rfl) (fun r ad' f' H locs hw B => ?_)
            obtain ⟨rfl, rfl, rfl⟩ := hw
            refine lv_i2l (v := (v_X2_resultSigns (v_X1_putTidy sp 12 i2).2 (v_X1_putTidy sp 12 i2).1).toInt64) hx hb dX2_digestCard_107 rfl ?_
            refine k_l (k := 0) (n := 0) hA B (u_S (rest := []) X (c_X2_digestNext l g N ad x (v_X1_putTidy sp 12 i2).2 dy la kn re hN (v_X2_digestNext (v_X2_digestNext (v_X2_digestNext (v_X2_digestNext da (v_X1_allMonths sp i2)) 0) 0) ((v_X1_signs sp i2).toInt64)) ((v_X2_resultSigns (v_X1_putTidy sp 12 i2).2 (v_X1_putTidy sp 12 i2).1).toInt64) H.size) mw_X2_digestNext md_X2_digestNext rfl lk_X2_213 ⟨Nat.le_of_ble_eq_true rfl, Nat.le_of_ble_eq_true rfl⟩ hA hK hT B hl.1 rfl (Nat.le_of_ble_eq_true rfl) dX2_digestCard_108 ⟨Nat.le_of_ble_eq_true rfl, Nat.le_of_ble_eq_true rfl⟩) (Nat.le_of_ble_eq_true rfl) (Nat.le_of_ble_eq_true rfl) (fun r ad' f' H locs hw B => ?_)
            obtain ⟨rfl, rfl, rfl⟩ := hw
            refine lv_lstore (lv' := [(4, .long (v_X2_digestNext (v_X2_digestNext (v_X2_digestNext (v_X2_digestNext (v_X2_digestNext da (v_X1_allMonths sp i2)) 0) 0) ((v_X1_signs sp i2).toInt64)) ((v_X2_resultSigns (v_X1_putTidy sp 12 i2).2 (v_X1_putTidy sp 12 i2).1).toInt64))), (6, .int ua), (0, .ref (ad 0)), (1, .long b1), (3, .ref (ad (4 + i2)))]) hx hb dX2_digestCard_111 hl (by decide) rfl (fun ls hl => ?_)
            refine lv_lload hx hb dX2_digestCard_113 (lv_at hl 0 rfl) ?_
            refine lv_aload_n hx hb dX2_digestCard_115 rfl (lv_at hl 2 rfl) ?_
            refine lv_aload_n hx hb dX2_digestCard_116 rfl (lv_at hl 2 rfl) ?_
            refine g_get (q := 0) (k := 6) X hK B rfl in_X2 (pl_c hN 0 (by decide)) cf_0 (by decide) lk_X2_25 rfl rfl dX2_digestCard_117 ?_
            refine lv_aload_n hx hb dX2_digestCard_120 rfl (lv_at hl 4 rfl) ?_
            refine k_i (k := 0) (n := 0) hA B (u_VN (rest := [.ref (ad 0), .long (v_X2_digestNext (v_X2_digestNext (v_X2_digestNext (v_X2_digestNext (v_X2_digestNext da (v_X1_allMonths sp i2)) 0) 0) ((v_X1_signs sp i2).toInt64)) ((v_X2_resultSigns (v_X1_putTidy sp 12 i2).2 (v_X1_putTidy sp 12 i2).1).toInt64))]) X (c_X1_putOpposite l g N ad x (v_X1_putTidy sp 12 i2).2 dy la kn re hN 12 (by decide) i2 hi2 H.size) mw_X1_putOpposite md_X1_putOpposite rfl lk_X2_84 ⟨Nat.le_of_ble_eq_true rfl, Nat.le_of_ble_eq_true rfl⟩ hA hK hT B (pl_sp hN (by decide)) (cf_sp (by decide)) rfl rfl hl.1 rfl (Nat.le_of_ble_eq_true rfl) dX2_digestCard_121 ⟨Nat.le_of_ble_eq_true rfl, Nat.le_of_ble_eq_true rfl⟩) (Nat.le_of_ble_eq_true rfl) (Nat.le_of_ble_eq_true rfl) (fun r ad' f' H locs hw B => ?_)
            obtain ⟨rfl, rfl, rfl⟩ := hw
            have k16 : ∀ j, j < 12 → (v_X1_putOpposite (v_X1_putTidy sp 12 i2).2 12 i2).2 j = sp j := fun j hj => (kp_X1_putOpposite_sp (by omega)).trans (k13 j hj)
            refine k_i (k := 0) (n := 0) hA B (u_V (rest := [.long (v_X2_digestNext (v_X2_digestNext (v_X2_digestNext (v_X2_digestNext (v_X2_digestNext da (v_X1_allMonths sp i2)) 0) 0) ((v_X1_signs sp i2).toInt64)) ((v_X2_resultSigns (v_X1_putTidy sp 12 i2).2 (v_X1_putTidy sp 12 i2).1).toInt64))]) X (c_X2_resultSigns l g N ad x (v_X1_putOpposite (v_X1_putTidy sp 12 i2).2 12 i2).2 dy la kn re hN (v_X1_putOpposite (v_X1_putTidy sp 12 i2).2 12 i2).1 H.size) mw_X2_resultSigns md_X2_resultSigns rfl lk_X2_253 ⟨Nat.le_of_ble_eq_true rfl, Nat.le_of_ble_eq_true rfl⟩ hA hK hT B (pl_c hN 0 (by decide)) cf_0 rfl rfl hl.1 rfl (Nat.le_of_ble_eq_true rfl) dX2_digestCard_124 ⟨Nat.le_of_ble_eq_true rfl, Nat.le_of_ble_eq_true rfl⟩) (Nat.le_of_ble_eq_true rfl) (Nat.le_of_ble_eq_true rfl) (fun r ad' f' H locs hw B => ?_)
            obtain ⟨rfl, rfl, rfl⟩ := hw
            refine lv_i2l (v := (v_X2_resultSigns (v_X1_putOpposite (v_X1_putTidy sp 12 i2).2 12 i2).2 (v_X1_putOpposite (v_X1_putTidy sp 12 i2).2 12 i2).1).toInt64) hx hb dX2_digestCard_127 rfl ?_
            refine k_l (k := 0) (n := 0) hA B (u_S (rest := []) X (c_X2_digestNext l g N ad x (v_X1_putOpposite (v_X1_putTidy sp 12 i2).2 12 i2).2 dy la kn re hN (v_X2_digestNext (v_X2_digestNext (v_X2_digestNext (v_X2_digestNext (v_X2_digestNext da (v_X1_allMonths sp i2)) 0) 0) ((v_X1_signs sp i2).toInt64)) ((v_X2_resultSigns (v_X1_putTidy sp 12 i2).2 (v_X1_putTidy sp 12 i2).1).toInt64)) ((v_X2_resultSigns (v_X1_putOpposite (v_X1_putTidy sp 12 i2).2 12 i2).2 (v_X1_putOpposite (v_X1_putTidy sp 12 i2).2 12 i2).1).toInt64) H.size) mw_X2_digestNext md_X2_digestNext rfl lk_X2_213 ⟨Nat.le_of_ble_eq_true rfl, Nat.le_of_ble_eq_true rfl⟩ hA hK hT B hl.1 rfl (Nat.le_of_ble_eq_true rfl) dX2_digestCard_128 ⟨Nat.le_of_ble_eq_true rfl, Nat.le_of_ble_eq_true rfl⟩) (Nat.le_of_ble_eq_true rfl) (Nat.le_of_ble_eq_true rfl) (fun r ad' f' H locs hw B => ?_)
            obtain ⟨rfl, rfl, rfl⟩ := hw
            exact rt_l X hr (ad, (cf g ad x (v_X1_putOpposite (v_X1_putTidy sp 12 i2).2 12 i2).2 dy la kn re)) B (PO_of B) ⟨rfl, (dA_leaf hq2 (LJ_e 3 hjua hzua c2 rfl) (z0 c6) (z0 c9)), _, _, k16, fun _ _ => rfl, rfl⟩ (Nat.le_of_ble_eq_true rfl) (Nat.le_of_ble_eq_true rfl) dX2_digestCard_131
          · refine lv_lconst (v := 1) hx hb dX2_digestCard_71 (by decide) ?_
            refine lv_goto (tgt := 76) hx hb dX2_digestCard_72 (by decide) ?_
            refine k_l (k := 0) (n := 0) hA B (u_S (rest := []) X (c_X2_digestNext l g N ad x sp dy la kn re hN (v_X2_digestNext (v_X2_digestNext da (v_X1_allMonths sp i2)) 0) 1 H.size) mw_X2_digestNext md_X2_digestNext rfl lk_X2_213 ⟨Nat.le_of_ble_eq_true rfl, Nat.le_of_ble_eq_true rfl⟩ hA hK hT B hl.1 rfl (Nat.le_of_ble_eq_true rfl) dX2_digestCard_76 ⟨Nat.le_of_ble_eq_true rfl, Nat.le_of_ble_eq_true rfl⟩) (Nat.le_of_ble_eq_true rfl) (Nat.le_of_ble_eq_true rfl) (fun r ad' f' H locs hw B => ?_)
            obtain ⟨rfl, rfl, rfl⟩ := hw
            refine lv_lstore (lv' := [(4, .long (v_X2_digestNext (v_X2_digestNext (v_X2_digestNext da (v_X1_allMonths sp i2)) 0) 1)), (6, .int ua), (0, .ref (ad 0)), (1, .long b1), (3, .ref (ad (4 + i2)))]) hx hb dX2_digestCard_79 hl (by decide) rfl (fun ls hl => ?_)
            refine lv_lload hx hb dX2_digestCard_81 (lv_at hl 0 rfl) ?_
            refine lv_aload_n hx hb dX2_digestCard_83 rfl (lv_at hl 4 rfl) ?_
            refine k_i (k := 0) (n := 0) hA B (u_VN (rest := [.long (v_X2_digestNext (v_X2_digestNext (v_X2_digestNext da (v_X1_allMonths sp i2)) 0) 1)]) X (c_X1_signs l g N ad x sp dy la kn re hN i2 hi2 H.size) mw_X1_signs md_X1_signs rfl lk_X2_210 ⟨Nat.le_of_ble_eq_true rfl, Nat.le_of_ble_eq_true rfl⟩ hA hK hT B (pl_sp hN hi2) (cf_sp hi2) rfl rfl hl.1 rfl (Nat.le_of_ble_eq_true rfl) dX2_digestCard_84 ⟨Nat.le_of_ble_eq_true rfl, Nat.le_of_ble_eq_true rfl⟩) (Nat.le_of_ble_eq_true rfl) (Nat.le_of_ble_eq_true rfl) (fun r ad' f' H locs hw B => ?_)
            obtain ⟨rfl, rfl, rfl⟩ := hw
            refine lv_i2l (v := (v_X1_signs sp i2).toInt64) hx hb dX2_digestCard_87 rfl ?_
            refine k_l (k := 0) (n := 0) hA B (u_S (rest := []) X (c_X2_digestNext l g N ad x sp dy la kn re hN (v_X2_digestNext (v_X2_digestNext (v_X2_digestNext da (v_X1_allMonths sp i2)) 0) 1) ((v_X1_signs sp i2).toInt64) H.size) mw_X2_digestNext md_X2_digestNext rfl lk_X2_213 ⟨Nat.le_of_ble_eq_true rfl, Nat.le_of_ble_eq_true rfl⟩ hA hK hT B hl.1 rfl (Nat.le_of_ble_eq_true rfl) dX2_digestCard_88 ⟨Nat.le_of_ble_eq_true rfl, Nat.le_of_ble_eq_true rfl⟩) (Nat.le_of_ble_eq_true rfl) (Nat.le_of_ble_eq_true rfl) (fun r ad' f' H locs hw B => ?_)
            obtain ⟨rfl, rfl, rfl⟩ := hw
            refine lv_lstore (lv' := [(4, .long (v_X2_digestNext (v_X2_digestNext (v_X2_digestNext (v_X2_digestNext da (v_X1_allMonths sp i2)) 0) 1) ((v_X1_signs sp i2).toInt64))), (6, .int ua), (0, .ref (ad 0)), (1, .long b1), (3, .ref (ad (4 + i2)))]) hx hb dX2_digestCard_91 hl (by decide) rfl (fun ls hl => ?_)
            refine lv_lload hx hb dX2_digestCard_93 (lv_at hl 0 rfl) ?_
            refine lv_aload_n hx hb dX2_digestCard_95 rfl (lv_at hl 2 rfl) ?_
            refine lv_aload_n hx hb dX2_digestCard_96 rfl (lv_at hl 2 rfl) ?_
            refine g_get (q := 0) (k := 6) X hK B rfl in_X2 (pl_c hN 0 (by decide)) cf_0 (by decide) lk_X2_25 rfl rfl dX2_digestCard_97 ?_
            refine lv_aload_n hx hb dX2_digestCard_100 rfl (lv_at hl 4 rfl) ?_
            refine k_i (k := 0) (n := 0) hA B (u_VN (rest := [.ref (ad 0), .long (v_X2_digestNext (v_X2_digestNext (v_X2_digestNext (v_X2_digestNext da (v_X1_allMonths sp i2)) 0) 1) ((v_X1_signs sp i2).toInt64))]) X (c_X1_putTidy l g N ad x sp dy la kn re hN 12 (by decide) i2 hi2 H.size) mw_X1_putTidy md_X1_putTidy rfl lk_X2_88 ⟨Nat.le_of_ble_eq_true rfl, Nat.le_of_ble_eq_true rfl⟩ hA hK hT B (pl_sp hN (by decide)) (cf_sp (by decide)) rfl rfl hl.1 rfl (Nat.le_of_ble_eq_true rfl) dX2_digestCard_101 ⟨Nat.le_of_ble_eq_true rfl, Nat.le_of_ble_eq_true rfl⟩) (Nat.le_of_ble_eq_true rfl) (Nat.le_of_ble_eq_true rfl) (fun r ad' f' H locs hw B => ?_)
            obtain ⟨rfl, rfl, rfl⟩ := hw
            have k22 : ∀ j, j < 12 → (v_X1_putTidy sp 12 i2).2 j = sp j := fun j hj => kp_X1_putTidy_sp (by omega)
            refine k_i (k := 0) (n := 0) hA B (u_V (rest := [.long (v_X2_digestNext (v_X2_digestNext (v_X2_digestNext (v_X2_digestNext da (v_X1_allMonths sp i2)) 0) 1) ((v_X1_signs sp i2).toInt64))]) X (c_X2_resultSigns l g N ad x (v_X1_putTidy sp 12 i2).2 dy la kn re hN (v_X1_putTidy sp 12 i2).1 H.size) mw_X2_resultSigns md_X2_resultSigns rfl lk_X2_253 ⟨Nat.le_of_ble_eq_true rfl, Nat.le_of_ble_eq_true rfl⟩ hA hK hT B (pl_c hN 0 (by decide)) cf_0 rfl rfl hl.1 rfl (Nat.le_of_ble_eq_true rfl) dX2_digestCard_104 ⟨Nat.le_of_ble_eq_true rfl, Nat.le_of_ble_eq_true rfl⟩) (Nat.le_of_ble_eq_true rfl) (Nat.le_of_ble_eq_true rfl) (fun r ad' f' H locs hw B => ?_)
            obtain ⟨rfl, rfl, rfl⟩ := hw
            refine lv_i2l (v := (v_X2_resultSigns (v_X1_putTidy sp 12 i2).2 (v_X1_putTidy sp 12 i2).1).toInt64) hx hb dX2_digestCard_107 rfl ?_
            refine k_l (k := 0) (n := 0) hA B (u_S (rest := []) X (c_X2_digestNext l g N ad x (v_X1_putTidy sp 12 i2).2 dy la kn re hN (v_X2_digestNext (v_X2_digestNext (v_X2_digestNext (v_X2_digestNext da (v_X1_allMonths sp i2)) 0) 1) ((v_X1_signs sp i2).toInt64)) ((v_X2_resultSigns (v_X1_putTidy sp 12 i2).2 (v_X1_putTidy sp 12 i2).1).toInt64) H.size) mw_X2_digestNext md_X2_digestNext rfl lk_X2_213 ⟨Nat.le_of_ble_eq_true rfl, Nat.le_of_ble_eq_true rfl⟩ hA hK hT B hl.1 rfl (Nat.le_of_ble_eq_true rfl) dX2_digestCard_108 ⟨Nat.le_of_ble_eq_true rfl, Nat.le_of_ble_eq_true rfl⟩) (Nat.le_of_ble_eq_true rfl) (Nat.le_of_ble_eq_true rfl) (fun r ad' f' H locs hw B => ?_)
            obtain ⟨rfl, rfl, rfl⟩ := hw
            refine lv_lstore (lv' := [(4, .long (v_X2_digestNext (v_X2_digestNext (v_X2_digestNext (v_X2_digestNext (v_X2_digestNext da (v_X1_allMonths sp i2)) 0) 1) ((v_X1_signs sp i2).toInt64)) ((v_X2_resultSigns (v_X1_putTidy sp 12 i2).2 (v_X1_putTidy sp 12 i2).1).toInt64))), (6, .int ua), (0, .ref (ad 0)), (1, .long b1), (3, .ref (ad (4 + i2)))]) hx hb dX2_digestCard_111 hl (by decide) rfl (fun ls hl => ?_)
            refine lv_lload hx hb dX2_digestCard_113 (lv_at hl 0 rfl) ?_
            refine lv_aload_n hx hb dX2_digestCard_115 rfl (lv_at hl 2 rfl) ?_
            refine lv_aload_n hx hb dX2_digestCard_116 rfl (lv_at hl 2 rfl) ?_
            refine g_get (q := 0) (k := 6) X hK B rfl in_X2 (pl_c hN 0 (by decide)) cf_0 (by decide) lk_X2_25 rfl rfl dX2_digestCard_117 ?_
            refine lv_aload_n hx hb dX2_digestCard_120 rfl (lv_at hl 4 rfl) ?_
            refine k_i (k := 0) (n := 0) hA B (u_VN (rest := [.ref (ad 0), .long (v_X2_digestNext (v_X2_digestNext (v_X2_digestNext (v_X2_digestNext (v_X2_digestNext da (v_X1_allMonths sp i2)) 0) 1) ((v_X1_signs sp i2).toInt64)) ((v_X2_resultSigns (v_X1_putTidy sp 12 i2).2 (v_X1_putTidy sp 12 i2).1).toInt64))]) X (c_X1_putOpposite l g N ad x (v_X1_putTidy sp 12 i2).2 dy la kn re hN 12 (by decide) i2 hi2 H.size) mw_X1_putOpposite md_X1_putOpposite rfl lk_X2_84 ⟨Nat.le_of_ble_eq_true rfl, Nat.le_of_ble_eq_true rfl⟩ hA hK hT B (pl_sp hN (by decide)) (cf_sp (by decide)) rfl rfl hl.1 rfl (Nat.le_of_ble_eq_true rfl) dX2_digestCard_121 ⟨Nat.le_of_ble_eq_true rfl, Nat.le_of_ble_eq_true rfl⟩) (Nat.le_of_ble_eq_true rfl) (Nat.le_of_ble_eq_true rfl) (fun r ad' f' H locs hw B => ?_)
            obtain ⟨rfl, rfl, rfl⟩ := hw
            have k25 : ∀ j, j < 12 → (v_X1_putOpposite (v_X1_putTidy sp 12 i2).2 12 i2).2 j = sp j := fun j hj => (kp_X1_putOpposite_sp (by omega)).trans (k22 j hj)
            refine k_i (k := 0) (n := 0) hA B (u_V (rest := [.long (v_X2_digestNext (v_X2_digestNext (v_X2_digestNext (v_X2_digestNext (v_X2_digestNext da (v_X1_allMonths sp i2)) 0) 1) ((v_X1_signs sp i2).toInt64)) ((v_X2_resultSigns (v_X1_putTidy sp 12 i2).2 (v_X1_putTidy sp 12 i2).1).toInt64))]) X (c_X2_resultSigns l g N ad x (v_X1_putOpposite (v_X1_putTidy sp 12 i2).2 12 i2).2 dy la kn re hN (v_X1_putOpposite (v_X1_putTidy sp 12 i2).2 12 i2).1 H.size) mw_X2_resultSigns md_X2_resultSigns rfl lk_X2_253 ⟨Nat.le_of_ble_eq_true rfl, Nat.le_of_ble_eq_true rfl⟩ hA hK hT B (pl_c hN 0 (by decide)) cf_0 rfl rfl hl.1 rfl (Nat.le_of_ble_eq_true rfl) dX2_digestCard_124 ⟨Nat.le_of_ble_eq_true rfl, Nat.le_of_ble_eq_true rfl⟩) (Nat.le_of_ble_eq_true rfl) (Nat.le_of_ble_eq_true rfl) (fun r ad' f' H locs hw B => ?_)
            obtain ⟨rfl, rfl, rfl⟩ := hw
            refine lv_i2l (v := (v_X2_resultSigns (v_X1_putOpposite (v_X1_putTidy sp 12 i2).2 12 i2).2 (v_X1_putOpposite (v_X1_putTidy sp 12 i2).2 12 i2).1).toInt64) hx hb dX2_digestCard_127 rfl ?_
            refine k_l (k := 0) (n := 0) hA B (u_S (rest := []) X (c_X2_digestNext l g N ad x (v_X1_putOpposite (v_X1_putTidy sp 12 i2).2 12 i2).2 dy la kn re hN (v_X2_digestNext (v_X2_digestNext (v_X2_digestNext (v_X2_digestNext (v_X2_digestNext da (v_X1_allMonths sp i2)) 0) 1) ((v_X1_signs sp i2).toInt64)) ((v_X2_resultSigns (v_X1_putTidy sp 12 i2).2 (v_X1_putTidy sp 12 i2).1).toInt64)) ((v_X2_resultSigns (v_X1_putOpposite (v_X1_putTidy sp 12 i2).2 12 i2).2 (v_X1_putOpposite (v_X1_putTidy sp 12 i2).2 12 i2).1).toInt64) H.size) mw_X2_digestNext md_X2_digestNext rfl lk_X2_213 ⟨Nat.le_of_ble_eq_true rfl, Nat.le_of_ble_eq_true rfl⟩ hA hK hT B hl.1 rfl (Nat.le_of_ble_eq_true rfl) dX2_digestCard_128 ⟨Nat.le_of_ble_eq_true rfl, Nat.le_of_ble_eq_true rfl⟩) (Nat.le_of_ble_eq_true rfl) (Nat.le_of_ble_eq_true rfl) (fun r ad' f' H locs hw B => ?_)
            obtain ⟨rfl, rfl, rfl⟩ := hw
            exact rt_l X hr (ad, (cf g ad x (v_X1_putOpposite (v_X1_putTidy sp 12 i2).2 12 i2).2 dy la kn re)) B (PO_of B) ⟨rfl, (dA_leaf hq2 (LJ_e 3 hjua hzua c2 rfl) (z0 c6) (z1 b01_X1_isBelowZero c9)), _, _, k25, fun _ _ => rfl, rfl⟩ (Nat.le_of_ble_eq_true rfl) (Nat.le_of_ble_eq_true rfl) dX2_digestCard_131
        · refine lv_lconst (v := 1) hx hb dX2_digestCard_52 (by decide) ?_
          refine lv_goto (tgt := 57) hx hb dX2_digestCard_53 (by decide) ?_
          refine k_l (k := 0) (n := 0) hA B (u_S (rest := []) X (c_X2_digestNext l g N ad x sp dy la kn re hN (v_X2_digestNext da (v_X1_allMonths sp i2)) 1 H.size) mw_X2_digestNext md_X2_digestNext rfl lk_X2_213 ⟨Nat.le_of_ble_eq_true rfl, Nat.le_of_ble_eq_true rfl⟩ hA hK hT B hl.1 rfl (Nat.le_of_ble_eq_true rfl) dX2_digestCard_57 ⟨Nat.le_of_ble_eq_true rfl, Nat.le_of_ble_eq_true rfl⟩) (Nat.le_of_ble_eq_true rfl) (Nat.le_of_ble_eq_true rfl) (fun r ad' f' H locs hw B => ?_)
          obtain ⟨rfl, rfl, rfl⟩ := hw
          refine lv_lstore (lv' := [(4, .long (v_X2_digestNext (v_X2_digestNext da (v_X1_allMonths sp i2)) 1)), (6, .int ua), (0, .ref (ad 0)), (1, .long b1), (3, .ref (ad (4 + i2)))]) hx hb dX2_digestCard_60 hl (by decide) rfl (fun ls hl => ?_)
          refine lv_lload hx hb dX2_digestCard_62 (lv_at hl 0 rfl) ?_
          refine lv_aload_n hx hb dX2_digestCard_64 rfl (lv_at hl 4 rfl) ?_
          refine k_i (k := 0) (n := 0) hA B (u_VN (rest := [.long (v_X2_digestNext (v_X2_digestNext da (v_X1_allMonths sp i2)) 1)]) X (c_X1_isBelowZero l g N ad x sp dy la kn re hN i2 hi2 H.size) mw_X1_isBelowZero md_X1_isBelowZero rfl lk_X2_120 ⟨Nat.le_of_ble_eq_true rfl, Nat.le_of_ble_eq_true rfl⟩ hA hK hT B (pl_sp hN hi2) (cf_sp hi2) rfl rfl hl.1 rfl (Nat.le_of_ble_eq_true rfl) dX2_digestCard_65 ⟨Nat.le_of_ble_eq_true rfl, Nat.le_of_ble_eq_true rfl⟩) (Nat.le_of_ble_eq_true rfl) (Nat.le_of_ble_eq_true rfl) (fun r ad' f' H locs hw B => ?_)
          obtain ⟨rfl, rfl, rfl⟩ := hw
          refine lv_if_eq (tgt := 75) hx hb dX2_digestCard_68 (by decide) (fun c30 => ?_) (fun c30 => ?_)
          · refine lv_lconst (v := 0) hx hb dX2_digestCard_75 (by decide) ?_
            refine k_l (k := 0) (n := 0) hA B (u_S (rest := []) X (c_X2_digestNext l g N ad x sp dy la kn re hN (v_X2_digestNext (v_X2_digestNext da (v_X1_allMonths sp i2)) 1) 0 H.size) mw_X2_digestNext md_X2_digestNext rfl lk_X2_213 ⟨Nat.le_of_ble_eq_true rfl, Nat.le_of_ble_eq_true rfl⟩ hA hK hT B hl.1 rfl (Nat.le_of_ble_eq_true rfl) dX2_digestCard_76 ⟨Nat.le_of_ble_eq_true rfl, Nat.le_of_ble_eq_true rfl⟩) (Nat.le_of_ble_eq_true rfl) (Nat.le_of_ble_eq_true rfl) (fun r ad' f' H locs hw B => ?_)
            obtain ⟨rfl, rfl, rfl⟩ := hw
            refine lv_lstore (lv' := [(4, .long (v_X2_digestNext (v_X2_digestNext (v_X2_digestNext da (v_X1_allMonths sp i2)) 1) 0)), (6, .int ua), (0, .ref (ad 0)), (1, .long b1), (3, .ref (ad (4 + i2)))]) hx hb dX2_digestCard_79 hl (by decide) rfl (fun ls hl => ?_)
            refine lv_lload hx hb dX2_digestCard_81 (lv_at hl 0 rfl) ?_
            refine lv_aload_n hx hb dX2_digestCard_83 rfl (lv_at hl 4 rfl) ?_
            refine k_i (k := 0) (n := 0) hA B (u_VN (rest := [.long (v_X2_digestNext (v_X2_digestNext (v_X2_digestNext da (v_X1_allMonths sp i2)) 1) 0)]) X (c_X1_signs l g N ad x sp dy la kn re hN i2 hi2 H.size) mw_X1_signs md_X1_signs rfl lk_X2_210 ⟨Nat.le_of_ble_eq_true rfl, Nat.le_of_ble_eq_true rfl⟩ hA hK hT B (pl_sp hN hi2) (cf_sp hi2) rfl rfl hl.1 rfl (Nat.le_of_ble_eq_true rfl) dX2_digestCard_84 ⟨Nat.le_of_ble_eq_true rfl, Nat.le_of_ble_eq_true rfl⟩) (Nat.le_of_ble_eq_true rfl) (Nat.le_of_ble_eq_true rfl) (fun r ad' f' H locs hw B => ?_)
            obtain ⟨rfl, rfl, rfl⟩ := hw
            refine lv_i2l (v := (v_X1_signs sp i2).toInt64) hx hb dX2_digestCard_87 rfl ?_
            refine k_l (k := 0) (n := 0) hA B (u_S (rest := []) X (c_X2_digestNext l g N ad x sp dy la kn re hN (v_X2_digestNext (v_X2_digestNext (v_X2_digestNext da (v_X1_allMonths sp i2)) 1) 0) ((v_X1_signs sp i2).toInt64) H.size) mw_X2_digestNext md_X2_digestNext rfl lk_X2_213 ⟨Nat.le_of_ble_eq_true rfl, Nat.le_of_ble_eq_true rfl⟩ hA hK hT B hl.1 rfl (Nat.le_of_ble_eq_true rfl) dX2_digestCard_88 ⟨Nat.le_of_ble_eq_true rfl, Nat.le_of_ble_eq_true rfl⟩) (Nat.le_of_ble_eq_true rfl) (Nat.le_of_ble_eq_true rfl) (fun r ad' f' H locs hw B => ?_)
            obtain ⟨rfl, rfl, rfl⟩ := hw
            refine lv_lstore (lv' := [(4, .long (v_X2_digestNext (v_X2_digestNext (v_X2_digestNext (v_X2_digestNext da (v_X1_allMonths sp i2)) 1) 0) ((v_X1_signs sp i2).toInt64))), (6, .int ua), (0, .ref (ad 0)), (1, .long b1), (3, .ref (ad (4 + i2)))]) hx hb dX2_digestCard_91 hl (by decide) rfl (fun ls hl => ?_)
            refine lv_lload hx hb dX2_digestCard_93 (lv_at hl 0 rfl) ?_
            refine lv_aload_n hx hb dX2_digestCard_95 rfl (lv_at hl 2 rfl) ?_
            refine lv_aload_n hx hb dX2_digestCard_96 rfl (lv_at hl 2 rfl) ?_
            refine g_get (q := 0) (k := 6) X hK B rfl in_X2 (pl_c hN 0 (by decide)) cf_0 (by decide) lk_X2_25 rfl rfl dX2_digestCard_97 ?_
            refine lv_aload_n hx hb dX2_digestCard_100 rfl (lv_at hl 4 rfl) ?_
            refine k_i (k := 0) (n := 0) hA B (u_VN (rest := [.ref (ad 0), .long (v_X2_digestNext (v_X2_digestNext (v_X2_digestNext (v_X2_digestNext da (v_X1_allMonths sp i2)) 1) 0) ((v_X1_signs sp i2).toInt64))]) X (c_X1_putTidy l g N ad x sp dy la kn re hN 12 (by decide) i2 hi2 H.size) mw_X1_putTidy md_X1_putTidy rfl lk_X2_88 ⟨Nat.le_of_ble_eq_true rfl, Nat.le_of_ble_eq_true rfl⟩ hA hK hT B (pl_sp hN (by decide)) (cf_sp (by decide)) rfl rfl hl.1 rfl (Nat.le_of_ble_eq_true rfl) dX2_digestCard_101 ⟨Nat.le_of_ble_eq_true rfl, Nat.le_of_ble_eq_true rfl⟩) (Nat.le_of_ble_eq_true rfl) (Nat.le_of_ble_eq_true rfl) (fun r ad' f' H locs hw B => ?_)
            obtain ⟨rfl, rfl, rfl⟩ := hw
            have k34 : ∀ j, j < 12 → (v_X1_putTidy sp 12 i2).2 j = sp j := fun j hj => kp_X1_putTidy_sp (by omega)
            refine k_i (k := 0) (n := 0) hA B (u_V (rest := [.long (v_X2_digestNext (v_X2_digestNext (v_X2_digestNext (v_X2_digestNext da (v_X1_allMonths sp i2)) 1) 0) ((v_X1_signs sp i2).toInt64))]) X (c_X2_resultSigns l g N ad x (v_X1_putTidy sp 12 i2).2 dy la kn re hN (v_X1_putTidy sp 12 i2).1 H.size) mw_X2_resultSigns md_X2_resultSigns rfl lk_X2_253 ⟨Nat.le_of_ble_eq_true rfl, Nat.le_of_ble_eq_true rfl⟩ hA hK hT B (pl_c hN 0 (by decide)) cf_0 rfl rfl hl.1 rfl (Nat.le_of_ble_eq_true rfl) dX2_digestCard_104 ⟨Nat.le_of_ble_eq_true rfl, Nat.le_of_ble_eq_true rfl⟩) (Nat.le_of_ble_eq_true rfl) (Nat.le_of_ble_eq_true rfl) (fun r ad' f' H locs hw B => ?_)
            obtain ⟨rfl, rfl, rfl⟩ := hw
            refine lv_i2l (v := (v_X2_resultSigns (v_X1_putTidy sp 12 i2).2 (v_X1_putTidy sp 12 i2).1).toInt64) hx hb dX2_digestCard_107 rfl ?_
            refine k_l (k := 0) (n := 0) hA B (u_S (rest := []) X (c_X2_digestNext l g N ad x (v_X1_putTidy sp 12 i2).2 dy la kn re hN (v_X2_digestNext (v_X2_digestNext (v_X2_digestNext (v_X2_digestNext da (v_X1_allMonths sp i2)) 1) 0) ((v_X1_signs sp i2).toInt64)) ((v_X2_resultSigns (v_X1_putTidy sp 12 i2).2 (v_X1_putTidy sp 12 i2).1).toInt64) H.size) mw_X2_digestNext md_X2_digestNext rfl lk_X2_213 ⟨Nat.le_of_ble_eq_true rfl, Nat.le_of_ble_eq_true rfl⟩ hA hK hT B hl.1 rfl (Nat.le_of_ble_eq_true rfl) dX2_digestCard_108 ⟨Nat.le_of_ble_eq_true rfl, Nat.le_of_ble_eq_true rfl⟩) (Nat.le_of_ble_eq_true rfl) (Nat.le_of_ble_eq_true rfl) (fun r ad' f' H locs hw B => ?_)
            obtain ⟨rfl, rfl, rfl⟩ := hw
            refine lv_lstore (lv' := [(4, .long (v_X2_digestNext (v_X2_digestNext (v_X2_digestNext (v_X2_digestNext (v_X2_digestNext da (v_X1_allMonths sp i2)) 1) 0) ((v_X1_signs sp i2).toInt64)) ((v_X2_resultSigns (v_X1_putTidy sp 12 i2).2 (v_X1_putTidy sp 12 i2).1).toInt64))), (6, .int ua), (0, .ref (ad 0)), (1, .long b1), (3, .ref (ad (4 + i2)))]) hx hb dX2_digestCard_111 hl (by decide) rfl (fun ls hl => ?_)
            refine lv_lload hx hb dX2_digestCard_113 (lv_at hl 0 rfl) ?_
            refine lv_aload_n hx hb dX2_digestCard_115 rfl (lv_at hl 2 rfl) ?_
            refine lv_aload_n hx hb dX2_digestCard_116 rfl (lv_at hl 2 rfl) ?_
            refine g_get (q := 0) (k := 6) X hK B rfl in_X2 (pl_c hN 0 (by decide)) cf_0 (by decide) lk_X2_25 rfl rfl dX2_digestCard_117 ?_
            refine lv_aload_n hx hb dX2_digestCard_120 rfl (lv_at hl 4 rfl) ?_
            refine k_i (k := 0) (n := 0) hA B (u_VN (rest := [.ref (ad 0), .long (v_X2_digestNext (v_X2_digestNext (v_X2_digestNext (v_X2_digestNext (v_X2_digestNext da (v_X1_allMonths sp i2)) 1) 0) ((v_X1_signs sp i2).toInt64)) ((v_X2_resultSigns (v_X1_putTidy sp 12 i2).2 (v_X1_putTidy sp 12 i2).1).toInt64))]) X (c_X1_putOpposite l g N ad x (v_X1_putTidy sp 12 i2).2 dy la kn re hN 12 (by decide) i2 hi2 H.size) mw_X1_putOpposite md_X1_putOpposite rfl lk_X2_84 ⟨Nat.le_of_ble_eq_true rfl, Nat.le_of_ble_eq_true rfl⟩ hA hK hT B (pl_sp hN (by decide)) (cf_sp (by decide)) rfl rfl hl.1 rfl (Nat.le_of_ble_eq_true rfl) dX2_digestCard_121 ⟨Nat.le_of_ble_eq_true rfl, Nat.le_of_ble_eq_true rfl⟩) (Nat.le_of_ble_eq_true rfl) (Nat.le_of_ble_eq_true rfl) (fun r ad' f' H locs hw B => ?_)
            obtain ⟨rfl, rfl, rfl⟩ := hw
            have k37 : ∀ j, j < 12 → (v_X1_putOpposite (v_X1_putTidy sp 12 i2).2 12 i2).2 j = sp j := fun j hj => (kp_X1_putOpposite_sp (by omega)).trans (k34 j hj)
            refine k_i (k := 0) (n := 0) hA B (u_V (rest := [.long (v_X2_digestNext (v_X2_digestNext (v_X2_digestNext (v_X2_digestNext (v_X2_digestNext da (v_X1_allMonths sp i2)) 1) 0) ((v_X1_signs sp i2).toInt64)) ((v_X2_resultSigns (v_X1_putTidy sp 12 i2).2 (v_X1_putTidy sp 12 i2).1).toInt64))]) X (c_X2_resultSigns l g N ad x (v_X1_putOpposite (v_X1_putTidy sp 12 i2).2 12 i2).2 dy la kn re hN (v_X1_putOpposite (v_X1_putTidy sp 12 i2).2 12 i2).1 H.size) mw_X2_resultSigns md_X2_resultSigns rfl lk_X2_253 ⟨Nat.le_of_ble_eq_true rfl, Nat.le_of_ble_eq_true rfl⟩ hA hK hT B (pl_c hN 0 (by decide)) cf_0 rfl rfl hl.1 rfl (Nat.le_of_ble_eq_true rfl) dX2_digestCard_124 ⟨Nat.le_of_ble_eq_true rfl, Nat.le_of_ble_eq_true rfl⟩) (Nat.le_of_ble_eq_true rfl) (Nat.le_of_ble_eq_true rfl) (fun r ad' f' H locs hw B => ?_)
            obtain ⟨rfl, rfl, rfl⟩ := hw
            refine lv_i2l (v := (v_X2_resultSigns (v_X1_putOpposite (v_X1_putTidy sp 12 i2).2 12 i2).2 (v_X1_putOpposite (v_X1_putTidy sp 12 i2).2 12 i2).1).toInt64) hx hb dX2_digestCard_127 rfl ?_
            refine k_l (k := 0) (n := 0) hA B (u_S (rest := []) X (c_X2_digestNext l g N ad x (v_X1_putOpposite (v_X1_putTidy sp 12 i2).2 12 i2).2 dy la kn re hN (v_X2_digestNext (v_X2_digestNext (v_X2_digestNext (v_X2_digestNext (v_X2_digestNext da (v_X1_allMonths sp i2)) 1) 0) ((v_X1_signs sp i2).toInt64)) ((v_X2_resultSigns (v_X1_putTidy sp 12 i2).2 (v_X1_putTidy sp 12 i2).1).toInt64)) ((v_X2_resultSigns (v_X1_putOpposite (v_X1_putTidy sp 12 i2).2 12 i2).2 (v_X1_putOpposite (v_X1_putTidy sp 12 i2).2 12 i2).1).toInt64) H.size) mw_X2_digestNext md_X2_digestNext rfl lk_X2_213 ⟨Nat.le_of_ble_eq_true rfl, Nat.le_of_ble_eq_true rfl⟩ hA hK hT B hl.1 rfl (Nat.le_of_ble_eq_true rfl) dX2_digestCard_128 ⟨Nat.le_of_ble_eq_true rfl, Nat.le_of_ble_eq_true rfl⟩) (Nat.le_of_ble_eq_true rfl) (Nat.le_of_ble_eq_true rfl) (fun r ad' f' H locs hw B => ?_)
            obtain ⟨rfl, rfl, rfl⟩ := hw
            exact rt_l X hr (ad, (cf g ad x (v_X1_putOpposite (v_X1_putTidy sp 12 i2).2 12 i2).2 dy la kn re)) B (PO_of B) ⟨rfl, (dA_leaf hq2 (LJ_e 3 hjua hzua c2 rfl) (z1 b01_X1_isNothing c6) (z0 c30)), _, _, k37, fun _ _ => rfl, rfl⟩ (Nat.le_of_ble_eq_true rfl) (Nat.le_of_ble_eq_true rfl) dX2_digestCard_131
          · refine lv_lconst (v := 1) hx hb dX2_digestCard_71 (by decide) ?_
            refine lv_goto (tgt := 76) hx hb dX2_digestCard_72 (by decide) ?_
            refine k_l (k := 0) (n := 0) hA B (u_S (rest := []) X (c_X2_digestNext l g N ad x sp dy la kn re hN (v_X2_digestNext (v_X2_digestNext da (v_X1_allMonths sp i2)) 1) 1 H.size) mw_X2_digestNext md_X2_digestNext rfl lk_X2_213 ⟨Nat.le_of_ble_eq_true rfl, Nat.le_of_ble_eq_true rfl⟩ hA hK hT B hl.1 rfl (Nat.le_of_ble_eq_true rfl) dX2_digestCard_76 ⟨Nat.le_of_ble_eq_true rfl, Nat.le_of_ble_eq_true rfl⟩) (Nat.le_of_ble_eq_true rfl) (Nat.le_of_ble_eq_true rfl) (fun r ad' f' H locs hw B => ?_)
            obtain ⟨rfl, rfl, rfl⟩ := hw
            refine lv_lstore (lv' := [(4, .long (v_X2_digestNext (v_X2_digestNext (v_X2_digestNext da (v_X1_allMonths sp i2)) 1) 1)), (6, .int ua), (0, .ref (ad 0)), (1, .long b1), (3, .ref (ad (4 + i2)))]) hx hb dX2_digestCard_79 hl (by decide) rfl (fun ls hl => ?_)
            refine lv_lload hx hb dX2_digestCard_81 (lv_at hl 0 rfl) ?_
            refine lv_aload_n hx hb dX2_digestCard_83 rfl (lv_at hl 4 rfl) ?_
            refine k_i (k := 0) (n := 0) hA B (u_VN (rest := [.long (v_X2_digestNext (v_X2_digestNext (v_X2_digestNext da (v_X1_allMonths sp i2)) 1) 1)]) X (c_X1_signs l g N ad x sp dy la kn re hN i2 hi2 H.size) mw_X1_signs md_X1_signs rfl lk_X2_210 ⟨Nat.le_of_ble_eq_true rfl, Nat.le_of_ble_eq_true rfl⟩ hA hK hT B (pl_sp hN hi2) (cf_sp hi2) rfl rfl hl.1 rfl (Nat.le_of_ble_eq_true rfl) dX2_digestCard_84 ⟨Nat.le_of_ble_eq_true rfl, Nat.le_of_ble_eq_true rfl⟩) (Nat.le_of_ble_eq_true rfl) (Nat.le_of_ble_eq_true rfl) (fun r ad' f' H locs hw B => ?_)
            obtain ⟨rfl, rfl, rfl⟩ := hw
            refine lv_i2l (v := (v_X1_signs sp i2).toInt64) hx hb dX2_digestCard_87 rfl ?_
            refine k_l (k := 0) (n := 0) hA B (u_S (rest := []) X (c_X2_digestNext l g N ad x sp dy la kn re hN (v_X2_digestNext (v_X2_digestNext (v_X2_digestNext da (v_X1_allMonths sp i2)) 1) 1) ((v_X1_signs sp i2).toInt64) H.size) mw_X2_digestNext md_X2_digestNext rfl lk_X2_213 ⟨Nat.le_of_ble_eq_true rfl, Nat.le_of_ble_eq_true rfl⟩ hA hK hT B hl.1 rfl (Nat.le_of_ble_eq_true rfl) dX2_digestCard_88 ⟨Nat.le_of_ble_eq_true rfl, Nat.le_of_ble_eq_true rfl⟩) (Nat.le_of_ble_eq_true rfl) (Nat.le_of_ble_eq_true rfl) (fun r ad' f' H locs hw B => ?_)
            obtain ⟨rfl, rfl, rfl⟩ := hw
            refine lv_lstore (lv' := [(4, .long (v_X2_digestNext (v_X2_digestNext (v_X2_digestNext (v_X2_digestNext da (v_X1_allMonths sp i2)) 1) 1) ((v_X1_signs sp i2).toInt64))), (6, .int ua), (0, .ref (ad 0)), (1, .long b1), (3, .ref (ad (4 + i2)))]) hx hb dX2_digestCard_91 hl (by decide) rfl (fun ls hl => ?_)
            refine lv_lload hx hb dX2_digestCard_93 (lv_at hl 0 rfl) ?_
            refine lv_aload_n hx hb dX2_digestCard_95 rfl (lv_at hl 2 rfl) ?_
            refine lv_aload_n hx hb dX2_digestCard_96 rfl (lv_at hl 2 rfl) ?_
            refine g_get (q := 0) (k := 6) X hK B rfl in_X2 (pl_c hN 0 (by decide)) cf_0 (by decide) lk_X2_25 rfl rfl dX2_digestCard_97 ?_
            refine lv_aload_n hx hb dX2_digestCard_100 rfl (lv_at hl 4 rfl) ?_
            refine k_i (k := 0) (n := 0) hA B (u_VN (rest := [.ref (ad 0), .long (v_X2_digestNext (v_X2_digestNext (v_X2_digestNext (v_X2_digestNext da (v_X1_allMonths sp i2)) 1) 1) ((v_X1_signs sp i2).toInt64))]) X (c_X1_putTidy l g N ad x sp dy la kn re hN 12 (by decide) i2 hi2 H.size) mw_X1_putTidy md_X1_putTidy rfl lk_X2_88 ⟨Nat.le_of_ble_eq_true rfl, Nat.le_of_ble_eq_true rfl⟩ hA hK hT B (pl_sp hN (by decide)) (cf_sp (by decide)) rfl rfl hl.1 rfl (Nat.le_of_ble_eq_true rfl) dX2_digestCard_101 ⟨Nat.le_of_ble_eq_true rfl, Nat.le_of_ble_eq_true rfl⟩) (Nat.le_of_ble_eq_true rfl) (Nat.le_of_ble_eq_true rfl) (fun r ad' f' H locs hw B => ?_)
            obtain ⟨rfl, rfl, rfl⟩ := hw
            have k43 : ∀ j, j < 12 → (v_X1_putTidy sp 12 i2).2 j = sp j := fun j hj => kp_X1_putTidy_sp (by omega)
            refine k_i (k := 0) (n := 0) hA B (u_V (rest := [.long (v_X2_digestNext (v_X2_digestNext (v_X2_digestNext (v_X2_digestNext da (v_X1_allMonths sp i2)) 1) 1) ((v_X1_signs sp i2).toInt64))]) X (c_X2_resultSigns l g N ad x (v_X1_putTidy sp 12 i2).2 dy la kn re hN (v_X1_putTidy sp 12 i2).1 H.size) mw_X2_resultSigns md_X2_resultSigns rfl lk_X2_253 ⟨Nat.le_of_ble_eq_true rfl, Nat.le_of_ble_eq_true rfl⟩ hA hK hT B (pl_c hN 0 (by decide)) cf_0 rfl rfl hl.1 rfl (Nat.le_of_ble_eq_true rfl) dX2_digestCard_104 ⟨Nat.le_of_ble_eq_true rfl, Nat.le_of_ble_eq_true rfl⟩) (Nat.le_of_ble_eq_true rfl) (Nat.le_of_ble_eq_true rfl) (fun r ad' f' H locs hw B => ?_)
            obtain ⟨rfl, rfl, rfl⟩ := hw
            refine lv_i2l (v := (v_X2_resultSigns (v_X1_putTidy sp 12 i2).2 (v_X1_putTidy sp 12 i2).1).toInt64) hx hb dX2_digestCard_107 rfl ?_
            refine k_l (k := 0) (n := 0) hA B (u_S (rest := []) X (c_X2_digestNext l g N ad x (v_X1_putTidy sp 12 i2).2 dy la kn re hN (v_X2_digestNext (v_X2_digestNext (v_X2_digestNext (v_X2_digestNext da (v_X1_allMonths sp i2)) 1) 1) ((v_X1_signs sp i2).toInt64)) ((v_X2_resultSigns (v_X1_putTidy sp 12 i2).2 (v_X1_putTidy sp 12 i2).1).toInt64) H.size) mw_X2_digestNext md_X2_digestNext rfl lk_X2_213 ⟨Nat.le_of_ble_eq_true rfl, Nat.le_of_ble_eq_true rfl⟩ hA hK hT B hl.1 rfl (Nat.le_of_ble_eq_true rfl) dX2_digestCard_108 ⟨Nat.le_of_ble_eq_true rfl, Nat.le_of_ble_eq_true rfl⟩) (Nat.le_of_ble_eq_true rfl) (Nat.le_of_ble_eq_true rfl) (fun r ad' f' H locs hw B => ?_)
            obtain ⟨rfl, rfl, rfl⟩ := hw
            refine lv_lstore (lv' := [(4, .long (v_X2_digestNext (v_X2_digestNext (v_X2_digestNext (v_X2_digestNext (v_X2_digestNext da (v_X1_allMonths sp i2)) 1) 1) ((v_X1_signs sp i2).toInt64)) ((v_X2_resultSigns (v_X1_putTidy sp 12 i2).2 (v_X1_putTidy sp 12 i2).1).toInt64))), (6, .int ua), (0, .ref (ad 0)), (1, .long b1), (3, .ref (ad (4 + i2)))]) hx hb dX2_digestCard_111 hl (by decide) rfl (fun ls hl => ?_)
            refine lv_lload hx hb dX2_digestCard_113 (lv_at hl 0 rfl) ?_
            refine lv_aload_n hx hb dX2_digestCard_115 rfl (lv_at hl 2 rfl) ?_
            refine lv_aload_n hx hb dX2_digestCard_116 rfl (lv_at hl 2 rfl) ?_
            refine g_get (q := 0) (k := 6) X hK B rfl in_X2 (pl_c hN 0 (by decide)) cf_0 (by decide) lk_X2_25 rfl rfl dX2_digestCard_117 ?_
            refine lv_aload_n hx hb dX2_digestCard_120 rfl (lv_at hl 4 rfl) ?_
            refine k_i (k := 0) (n := 0) hA B (u_VN (rest := [.ref (ad 0), .long (v_X2_digestNext (v_X2_digestNext (v_X2_digestNext (v_X2_digestNext (v_X2_digestNext da (v_X1_allMonths sp i2)) 1) 1) ((v_X1_signs sp i2).toInt64)) ((v_X2_resultSigns (v_X1_putTidy sp 12 i2).2 (v_X1_putTidy sp 12 i2).1).toInt64))]) X (c_X1_putOpposite l g N ad x (v_X1_putTidy sp 12 i2).2 dy la kn re hN 12 (by decide) i2 hi2 H.size) mw_X1_putOpposite md_X1_putOpposite rfl lk_X2_84 ⟨Nat.le_of_ble_eq_true rfl, Nat.le_of_ble_eq_true rfl⟩ hA hK hT B (pl_sp hN (by decide)) (cf_sp (by decide)) rfl rfl hl.1 rfl (Nat.le_of_ble_eq_true rfl) dX2_digestCard_121 ⟨Nat.le_of_ble_eq_true rfl, Nat.le_of_ble_eq_true rfl⟩) (Nat.le_of_ble_eq_true rfl) (Nat.le_of_ble_eq_true rfl) (fun r ad' f' H locs hw B => ?_)
            obtain ⟨rfl, rfl, rfl⟩ := hw
            have k46 : ∀ j, j < 12 → (v_X1_putOpposite (v_X1_putTidy sp 12 i2).2 12 i2).2 j = sp j := fun j hj => (kp_X1_putOpposite_sp (by omega)).trans (k43 j hj)
            refine k_i (k := 0) (n := 0) hA B (u_V (rest := [.long (v_X2_digestNext (v_X2_digestNext (v_X2_digestNext (v_X2_digestNext (v_X2_digestNext da (v_X1_allMonths sp i2)) 1) 1) ((v_X1_signs sp i2).toInt64)) ((v_X2_resultSigns (v_X1_putTidy sp 12 i2).2 (v_X1_putTidy sp 12 i2).1).toInt64))]) X (c_X2_resultSigns l g N ad x (v_X1_putOpposite (v_X1_putTidy sp 12 i2).2 12 i2).2 dy la kn re hN (v_X1_putOpposite (v_X1_putTidy sp 12 i2).2 12 i2).1 H.size) mw_X2_resultSigns md_X2_resultSigns rfl lk_X2_253 ⟨Nat.le_of_ble_eq_true rfl, Nat.le_of_ble_eq_true rfl⟩ hA hK hT B (pl_c hN 0 (by decide)) cf_0 rfl rfl hl.1 rfl (Nat.le_of_ble_eq_true rfl) dX2_digestCard_124 ⟨Nat.le_of_ble_eq_true rfl, Nat.le_of_ble_eq_true rfl⟩) (Nat.le_of_ble_eq_true rfl) (Nat.le_of_ble_eq_true rfl) (fun r ad' f' H locs hw B => ?_)
            obtain ⟨rfl, rfl, rfl⟩ := hw
            refine lv_i2l (v := (v_X2_resultSigns (v_X1_putOpposite (v_X1_putTidy sp 12 i2).2 12 i2).2 (v_X1_putOpposite (v_X1_putTidy sp 12 i2).2 12 i2).1).toInt64) hx hb dX2_digestCard_127 rfl ?_
            refine k_l (k := 0) (n := 0) hA B (u_S (rest := []) X (c_X2_digestNext l g N ad x (v_X1_putOpposite (v_X1_putTidy sp 12 i2).2 12 i2).2 dy la kn re hN (v_X2_digestNext (v_X2_digestNext (v_X2_digestNext (v_X2_digestNext (v_X2_digestNext da (v_X1_allMonths sp i2)) 1) 1) ((v_X1_signs sp i2).toInt64)) ((v_X2_resultSigns (v_X1_putTidy sp 12 i2).2 (v_X1_putTidy sp 12 i2).1).toInt64)) ((v_X2_resultSigns (v_X1_putOpposite (v_X1_putTidy sp 12 i2).2 12 i2).2 (v_X1_putOpposite (v_X1_putTidy sp 12 i2).2 12 i2).1).toInt64) H.size) mw_X2_digestNext md_X2_digestNext rfl lk_X2_213 ⟨Nat.le_of_ble_eq_true rfl, Nat.le_of_ble_eq_true rfl⟩ hA hK hT B hl.1 rfl (Nat.le_of_ble_eq_true rfl) dX2_digestCard_128 ⟨Nat.le_of_ble_eq_true rfl, Nat.le_of_ble_eq_true rfl⟩) (Nat.le_of_ble_eq_true rfl) (Nat.le_of_ble_eq_true rfl) (fun r ad' f' H locs hw B => ?_)
            obtain ⟨rfl, rfl, rfl⟩ := hw
            exact rt_l X hr (ad, (cf g ad x (v_X1_putOpposite (v_X1_putTidy sp 12 i2).2 12 i2).2 dy la kn re)) B (PO_of B) ⟨rfl, (dA_leaf hq2 (LJ_e 3 hjua hzua c2 rfl) (z1 b01_X1_isNothing c6) (z1 b01_X1_isBelowZero c30)), _, _, k46, fun _ _ => rfl, rfl⟩ (Nat.le_of_ble_eq_true rfl) (Nat.le_of_ble_eq_true rfl) dX2_digestCard_131
      · refine lv_lload hx hb dX2_digestCard_12 (lv_at hl 1 rfl) ?_
        refine lv_aload_n hx hb dX2_digestCard_14 rfl (lv_at hl 4 rfl) ?_
        refine lv_iload hx hb dX2_digestCard_15 (lv_at hl 0 rfl) ?_
        refine k_i (k := 0) (n := 0) hA B (u_VN (rest := [.long da]) X (c_X1_number l g N ad x sp dy la kn re hN i2 hi2 ua H.size) mw_X1_number md_X1_number rfl lk_X2_104 ⟨Nat.le_of_ble_eq_true rfl, Nat.le_of_ble_eq_true rfl⟩ hA hK hT B (pl_sp hN hi2) (cf_sp hi2) rfl rfl hl.1 rfl (Nat.le_of_ble_eq_true rfl) dX2_digestCard_17 ⟨Nat.le_of_ble_eq_true rfl, Nat.le_of_ble_eq_true rfl⟩) (Nat.le_of_ble_eq_true rfl) (Nat.le_of_ble_eq_true rfl) (fun r ad' f' H locs hw B => ?_)
        obtain ⟨rfl, rfl, rfl⟩ := hw
        refine lv_i2l (v := (v_X1_number sp i2 ua).toInt64) hx hb dX2_digestCard_20 rfl ?_
        refine k_l (k := 0) (n := 0) hA B (u_S (rest := []) X (c_X2_digestNext l g N ad x sp dy la kn re hN da ((v_X1_number sp i2 ua).toInt64) H.size) mw_X2_digestNext md_X2_digestNext rfl lk_X2_213 ⟨Nat.le_of_ble_eq_true rfl, Nat.le_of_ble_eq_true rfl⟩ hA hK hT B hl.1 rfl (Nat.le_of_ble_eq_true rfl) dX2_digestCard_21 ⟨Nat.le_of_ble_eq_true rfl, Nat.le_of_ble_eq_true rfl⟩) (Nat.le_of_ble_eq_true rfl) (Nat.le_of_ble_eq_true rfl) (fun r ad' f' H locs hw B => ?_)
        obtain ⟨rfl, rfl, rfl⟩ := hw
        refine lv_lstore (lv' := [(4, .long (v_X2_digestNext da ((v_X1_number sp i2 ua).toInt64))), (6, .int ua), (0, .ref (ad 0)), (1, .long b1), (3, .ref (ad (4 + i2)))]) hx hb dX2_digestCard_24 hl (by decide) rfl (fun ls hl => ?_)
        refine lv_iinc (v := ua + 1) (lv' := [(6, .int (ua + 1)), (4, .long (v_X2_digestNext da ((v_X1_number sp i2 ua).toInt64))), (0, .ref (ad 0)), (1, .long b1), (3, .ref (ad (4 + i2)))]) hx hb dX2_digestCard_26 hl (k := 1) rfl rfl (by decide) rfl (fun ls hl => ?_)
        refine lv_goto (tgt := 6) hx hb dX2_digestCard_29 (by decide) ?_
        exact ih1 (ua + 1) (v_X2_digestNext da ((v_X1_number sp i2 ua).toInt64)) H locs (fu_le c2 hn1) (inc_nn hzua c2) (LF_s hjua hzua c2 (by rw [num_rw hzua c2]; rfl)) B ls (lv_sub hl [0, 1, 2, 3, 4] rfl)
  exact loop1 (((3 : Int32).toInt - (0 : Int32).toInt).toNat + 1) 0 b1 H locs (Nat.lt_succ_self _) (by decide) (LF_0 (by decide)) B ls hl
set_option maxHeartbeats 4000000 in
set_option maxRecDepth 100000 in
theorem c1_X2_digestPairsOfCards (l : Launch) (g : GG) (N : Nat) (ad : Nat → Nat) (x : Nat → va_E) (sp dy : Nat → TR) (la kn re : Int32) (hN : 23 ≤ N) (b1 : Int64) : KL l yX2_digestPairsOfCards cX2_digestPairsOfCards 7 (rm 2 0 0) g [.ref (ad 0), .long b1] N ad (cf g ad x sp dy la kn re) N (fun r ad' f' => ad = ad' ∧ fo (sM sp) b1 4 = r ∧ ∃ sp' dy' : Nat → TR, (∀ j, j < 12 → sp' j = sp j) ∧ (∀ j, j < 4 → dy' j = dy j) ∧ cf g ad x sp' dy' la kn re = f') := by
  intro sz
  refine mt_start (by decide) (Nat.le_of_ble_eq_true rfl) ?_
  intro p e s m args below meth c hsz X hr hnam hA hK hT H locs B ls hl
  obtain ⟨hx, hb, hml, hown, hts, hlocks⟩ := id X
  have hl : lv_has ls 7 [(0, .ref (ad 0)), (1, .long b1)] := hl
  refine lv_lload_n hx hb dX2_digestPairsOfCards_0 rfl (lv_at hl 1 rfl) ?_
  refine lv_lstore_n (lv' := [(3, .long b1), (0, .ref (ad 0)), (1, .long b1)]) hx hb dX2_digestPairsOfCards_1 rfl hl (by decide) rfl (fun ls hl => ?_)
  refine lv_iconst (v := 0) hx hb dX2_digestPairsOfCards_2 (by decide) ?_
  refine lv_istore (lv' := [(5, .int 0), (3, .long b1), (0, .ref (ad 0)), (1, .long b1)]) hx hb dX2_digestPairsOfCards_3 hl (by decide) rfl (fun ls hl => ?_)
  have loop1 : ∀ (n1 : Nat) (ua : Int32) (da : Int64) (H : Heap) (locs : List Loc), ((4 : Int32).toInt - ua.toInt).toNat < n1 → ¬ ua < 0 → LJ 4 (fo (sM sp) b1) ua da → WB g (aw N ad sz) s.heap N ad (cf g ad x sp dy la kn re) H locs → ∀ ls : Array Slot, lv_has ls 7 [(5, .int ua), (3, .long da), (0, .ref (ad 0)), (1, .long b1)] → W p l e (rm 2 0 0) s m args below meth c H locs 0 0 (MQ below (va_Ql (fun r (u : WS) => (fun r ad' f' => ad = ad' ∧ fo (sM sp) b1 4 = r ∧ ∃ sp' dy' : Nat → TR, (∀ j, j < 12 → sp' j = sp j) ∧ (∀ j, j < 4 → dy' j = dy j) ∧ cf g ad x sp' dy' la kn re = f') r u.1 u.2) (fun u t => PO g N u.1 u.2 (aw N ad sz) t) (aw N ad sz)) args s (rm 2 0 0).cells (rm 2 0 0).slots (aw N ad sz)) (F0 m 5 ls []) := by
    intro n1
    induction n1 with
    | zero => intro ua da H locs hn; exact absurd hn (Nat.not_lt_zero _)
    | succ n1 ih1 =>
      intro ua da H locs hn1 hzua hjua B ls hl
      refine lv_iload hx hb dX2_digestPairsOfCards_5 (lv_at hl 0 rfl) ?_
      refine lv_iconst (v := 4) hx hb dX2_digestPairsOfCards_7 (by decide) ?_
      refine lv_icmp_ge (tgt := 92) hx hb dX2_digestPairsOfCards_8 (by decide) (fun c2 => ?_) (fun c2 => ?_)
      · refine lv_lload_n hx hb dX2_digestPairsOfCards_92 rfl (lv_at hl 1 rfl) ?_
        exact rt_l X hr (ad, (cf g ad x sp dy la kn re)) B (PO_of B) ⟨rfl, (LJ_e 4 hjua hzua c2 rfl).symm, _, _, fun _ _ => rfl, fun _ _ => rfl, rfl⟩ (Nat.le_of_ble_eq_true rfl) (Nat.le_of_ble_eq_true rfl) dX2_digestPairsOfCards_93
      · refine lv_iconst (v := 0) hx hb dX2_digestPairsOfCards_11 (by decide) ?_
        refine lv_istore (lv' := [(6, .int 0), (5, .int ua), (3, .long da), (0, .ref (ad 0)), (1, .long b1)]) hx hb dX2_digestPairsOfCards_12 hl (by decide) rfl (fun ls hl => ?_)
        have loop3 : ∀ (n3 : Nat) (ub : Int32) (db : Int64) (H : Heap) (locs : List Loc), ((4 : Int32).toInt - ub.toInt).toNat < n3 → ¬ ub < 0 → LJ 4 (fo (sN sp ua.toNatClampNeg) da) ub db → WB g (aw N ad sz) s.heap N ad (cf g ad x sp dy la kn re) H locs → ∀ ls : Array Slot, lv_has ls 7 [(6, .int ub), (5, .int ua), (3, .long db), (0, .ref (ad 0)), (1, .long b1)] → W p l e (rm 2 0 0) s m args below meth c H locs 0 0 (MQ below (va_Ql (fun r (u : WS) => (fun r ad' f' => ad = ad' ∧ fo (sM sp) b1 4 = r ∧ ∃ sp' dy' : Nat → TR, (∀ j, j < 12 → sp' j = sp j) ∧ (∀ j, j < 4 → dy' j = dy j) ∧ cf g ad x sp' dy' la kn re = f') r u.1 u.2) (fun u t => PO g N u.1 u.2 (aw N ad sz) t) (aw N ad sz)) args s (rm 2 0 0).cells (rm 2 0 0).slots (aw N ad sz)) (F0 m 14 ls []) := by
          intro n3
          induction n3 with
          | zero => intro ub db H locs hn; exact absurd hn (Nat.not_lt_zero _)
          | succ n3 ih3 =>
            intro ub db H locs hn3 hzub hjub B ls hl
            refine lv_iload hx hb dX2_digestPairsOfCards_14 (lv_at hl 0 rfl) ?_
            refine lv_iconst (v := 4) hx hb dX2_digestPairsOfCards_16 (by decide) ?_
            refine lv_icmp_ge (tgt := 86) hx hb dX2_digestPairsOfCards_17 (by decide) (fun c4 => ?_) (fun c4 => ?_)
            · refine lv_iinc (v := ua + 1) (lv' := [(5, .int (ua + 1)), (6, .int ub), (3, .long db), (0, .ref (ad 0)), (1, .long b1)]) hx hb dX2_digestPairsOfCards_86 hl (k := 1) rfl rfl (by decide) rfl (fun ls hl => ?_)
              refine lv_goto (tgt := 5) hx hb dX2_digestPairsOfCards_89 (by decide) ?_
              exact ih1 (ua + 1) db H locs (fu_le c2 hn1) (inc_nn hzua c2) (LF_s hjua hzua c2 ((LJ_e 4 hjub hzub c4 rfl))) B ls (lv_sub hl [0, 2, 3, 4] rfl)
            · refine lv_lload_n hx hb dX2_digestPairsOfCards_20 rfl (lv_at hl 2 rfl) ?_
              refine lv_aload_n hx hb dX2_digestPairsOfCards_21 rfl (lv_at hl 3 rfl) ?_
              refine g_get (q := 0) (k := 0) X hK B rfl in_X2 (pl_c hN 0 (by decide)) cf_0 (by decide) lk_X2_11 rfl rfl dX2_digestPairsOfCards_22 ?_
              refine lv_iload hx hb dX2_digestPairsOfCards_25 (lv_at hl 1 rfl) ?_
              refine g_aald (q := 1) (t0 := 3) X hK B (pl_c hN 1 (by decide)) cf_1 rfl rfl (ix_in (n := 4) hzua c2 rfl) dX2_digestPairsOfCards_27 ?_
              have h5 : ua.toNatClampNeg < 14 := by have := (ix_lt (n := 4) hzua c2 rfl); omega
              refine lv_aload_n hx hb dX2_digestPairsOfCards_28 rfl (lv_at hl 3 rfl) ?_
              refine g_get (q := 0) (k := 0) X hK B rfl in_X2 (pl_c hN 0 (by decide)) cf_0 (by decide) lk_X2_11 rfl rfl dX2_digestPairsOfCards_29 ?_
              refine lv_iload hx hb dX2_digestPairsOfCards_32 (lv_at hl 0 rfl) ?_
              refine g_aald (q := 1) (t0 := 3) X hK B (pl_c hN 1 (by decide)) cf_1 rfl rfl (ix_in (n := 4) hzub c4 rfl) dX2_digestPairsOfCards_34 ?_
              have h6 : ub.toNatClampNeg < 14 := by have := (ix_lt (n := 4) hzub c4 rfl); omega
              refine k_i (k := 0) (n := 0) hA B (u_VN (rest := [.long db]) X (c_X1_isSameAs l g N ad x sp dy la kn re hN ua.toNatClampNeg h5 ub.toNatClampNeg h6 H.size) mw_X1_isSameAs md_X1_isSameAs rfl lk_X2_123 ⟨Nat.le_of_ble_eq_true rfl, Nat.le_of_ble_eq_true rfl⟩ hA hK hT B (pl_sp hN h5) (cf_sp h5) rfl rfl hl.1 rfl (Nat.le_of_ble_eq_true rfl) dX2_digestPairsOfCards_35 ⟨Nat.le_of_ble_eq_true rfl, Nat.le_of_ble_eq_true rfl⟩) (Nat.le_of_ble_eq_true rfl) (Nat.le_of_ble_eq_true rfl) (fun r ad' f' H locs hw B => ?_)
              obtain ⟨rfl, rfl, rfl⟩ := hw
              refine lv_if_eq (tgt := 45) hx hb dX2_digestPairsOfCards_38 (by decide) (fun c8 => ?_) (fun c8 => ?_)
              · refine lv_lconst (v := 0) hx hb dX2_digestPairsOfCards_45 (by decide) ?_
                refine k_l (k := 0) (n := 0) hA B (u_S (rest := []) X (c_X2_digestNext l g N ad x sp dy la kn re hN db 0 H.size) mw_X2_digestNext md_X2_digestNext rfl lk_X2_213 ⟨Nat.le_of_ble_eq_true rfl, Nat.le_of_ble_eq_true rfl⟩ hA hK hT B hl.1 rfl (Nat.le_of_ble_eq_true rfl) dX2_digestPairsOfCards_46 ⟨Nat.le_of_ble_eq_true rfl, Nat.le_of_ble_eq_true rfl⟩) (Nat.le_of_ble_eq_true rfl) (Nat.le_of_ble_eq_true rfl) (fun r ad' f' H locs hw B => ?_)
                obtain ⟨rfl, rfl, rfl⟩ := hw
                refine lv_lstore_n (lv' := [(3, .long (v_X2_digestNext db 0)), (6, .int ub), (5, .int ua), (0, .ref (ad 0)), (1, .long b1)]) hx hb dX2_digestPairsOfCards_49 rfl hl (by decide) rfl (fun ls hl => ?_)
                refine lv_lload_n hx hb dX2_digestPairsOfCards_50 rfl (lv_at hl 0 rfl) ?_
                refine lv_aload_n hx hb dX2_digestPairsOfCards_51 rfl (lv_at hl 3 rfl) ?_
                refine g_get (q := 0) (k := 0) X hK B rfl in_X2 (pl_c hN 0 (by decide)) cf_0 (by decide) lk_X2_11 rfl rfl dX2_digestPairsOfCards_52 ?_
                refine lv_iload hx hb dX2_digestPairsOfCards_55 (lv_at hl 2 rfl) ?_
                refine g_aald (q := 1) (t0 := 3) X hK B (pl_c hN 1 (by decide)) cf_1 rfl rfl (ix_in (n := 4) hzua c2 rfl) dX2_digestPairsOfCards_57 ?_
                have h10 : ua.toNatClampNeg < 14 := by have := (ix_lt (n := 4) hzua c2 rfl); omega
                refine lv_aload_n hx hb dX2_digestPairsOfCards_58 rfl (lv_at hl 3 rfl) ?_
                refine g_get (q := 0) (k := 0) X hK B rfl in_X2 (pl_c hN 0 (by decide)) cf_0 (by decide) lk_X2_11 rfl rfl dX2_digestPairsOfCards_59 ?_
                refine lv_iload hx hb dX2_digestPairsOfCards_62 (lv_at hl 1 rfl) ?_
                refine g_aald (q := 1) (t0 := 3) X hK B (pl_c hN 1 (by decide)) cf_1 rfl rfl (ix_in (n := 4) hzub c4 rfl) dX2_digestPairsOfCards_64 ?_
                have h11 : ub.toNatClampNeg < 14 := by have := (ix_lt (n := 4) hzub c4 rfl); omega
                refine k_i (k := 0) (n := 0) hA B (u_VN (rest := [.long (v_X2_digestNext db 0)]) X (c_X1_isAlikeTo l g N ad x sp dy la kn re hN ua.toNatClampNeg h10 ub.toNatClampNeg h11 H.size) mw_X1_isAlikeTo md_X1_isAlikeTo rfl lk_X2_126 ⟨Nat.le_of_ble_eq_true rfl, Nat.le_of_ble_eq_true rfl⟩ hA hK hT B (pl_sp hN h10) (cf_sp h10) rfl rfl hl.1 rfl (Nat.le_of_ble_eq_true rfl) dX2_digestPairsOfCards_65 ⟨Nat.le_of_ble_eq_true rfl, Nat.le_of_ble_eq_true rfl⟩) (Nat.le_of_ble_eq_true rfl) (Nat.le_of_ble_eq_true rfl) (fun r ad' f' H locs hw B => ?_)
                obtain ⟨rfl, rfl, rfl⟩ := hw
                refine lv_if_eq (tgt := 75) hx hb dX2_digestPairsOfCards_68 (by decide) (fun c13 => ?_) (fun c13 => ?_)
                · refine lv_lconst (v := 0) hx hb dX2_digestPairsOfCards_75 (by decide) ?_
                  refine k_l (k := 0) (n := 0) hA B (u_S (rest := []) X (c_X2_digestNext l g N ad x sp dy la kn re hN (v_X2_digestNext db 0) 0 H.size) mw_X2_digestNext md_X2_digestNext rfl lk_X2_213 ⟨Nat.le_of_ble_eq_true rfl, Nat.le_of_ble_eq_true rfl⟩ hA hK hT B hl.1 rfl (Nat.le_of_ble_eq_true rfl) dX2_digestPairsOfCards_76 ⟨Nat.le_of_ble_eq_true rfl, Nat.le_of_ble_eq_true rfl⟩) (Nat.le_of_ble_eq_true rfl) (Nat.le_of_ble_eq_true rfl) (fun r ad' f' H locs hw B => ?_)
                  obtain ⟨rfl, rfl, rfl⟩ := hw
                  refine lv_lstore_n (lv' := [(3, .long (v_X2_digestNext (v_X2_digestNext db 0) 0)), (6, .int ub), (5, .int ua), (0, .ref (ad 0)), (1, .long b1)]) hx hb dX2_digestPairsOfCards_79 rfl hl (by decide) rfl (fun ls hl => ?_)
                  refine lv_iinc (v := ub + 1) (lv' := [(6, .int (ub + 1)), (3, .long (v_X2_digestNext (v_X2_digestNext db 0) 0)), (5, .int ua), (0, .ref (ad 0)), (1, .long b1)]) hx hb dX2_digestPairsOfCards_80 hl (k := 1) rfl rfl (by decide) rfl (fun ls hl => ?_)
                  refine lv_goto (tgt := 14) hx hb dX2_digestPairsOfCards_83 (by decide) ?_
                  exact ih3 (ub + 1) (v_X2_digestNext (v_X2_digestNext db 0) 0) H locs (fu_le c4 hn3) (inc_nn hzub c4) (LF_s hjub hzub c4 (dN_leaf (z0 c8) (z0 c13))) B ls (lv_sub hl [0, 2, 1, 3, 4] rfl)
                · refine lv_lconst (v := 1) hx hb dX2_digestPairsOfCards_71 (by decide) ?_
                  refine lv_goto (tgt := 76) hx hb dX2_digestPairsOfCards_72 (by decide) ?_
                  refine k_l (k := 0) (n := 0) hA B (u_S (rest := []) X (c_X2_digestNext l g N ad x sp dy la kn re hN (v_X2_digestNext db 0) 1 H.size) mw_X2_digestNext md_X2_digestNext rfl lk_X2_213 ⟨Nat.le_of_ble_eq_true rfl, Nat.le_of_ble_eq_true rfl⟩ hA hK hT B hl.1 rfl (Nat.le_of_ble_eq_true rfl) dX2_digestPairsOfCards_76 ⟨Nat.le_of_ble_eq_true rfl, Nat.le_of_ble_eq_true rfl⟩) (Nat.le_of_ble_eq_true rfl) (Nat.le_of_ble_eq_true rfl) (fun r ad' f' H locs hw B => ?_)
                  obtain ⟨rfl, rfl, rfl⟩ := hw
                  refine lv_lstore_n (lv' := [(3, .long (v_X2_digestNext (v_X2_digestNext db 0) 1)), (6, .int ub), (5, .int ua), (0, .ref (ad 0)), (1, .long b1)]) hx hb dX2_digestPairsOfCards_79 rfl hl (by decide) rfl (fun ls hl => ?_)
                  refine lv_iinc (v := ub + 1) (lv' := [(6, .int (ub + 1)), (3, .long (v_X2_digestNext (v_X2_digestNext db 0) 1)), (5, .int ua), (0, .ref (ad 0)), (1, .long b1)]) hx hb dX2_digestPairsOfCards_80 hl (k := 1) rfl rfl (by decide) rfl (fun ls hl => ?_)
                  refine lv_goto (tgt := 14) hx hb dX2_digestPairsOfCards_83 (by decide) ?_
                  exact ih3 (ub + 1) (v_X2_digestNext (v_X2_digestNext db 0) 1) H locs (fu_le c4 hn3) (inc_nn hzub c4) (LF_s hjub hzub c4 (dN_leaf (z0 c8) (z1 b01_X1_isAlikeTo c13))) B ls (lv_sub hl [0, 2, 1, 3, 4] rfl)
              · refine lv_lconst (v := 1) hx hb dX2_digestPairsOfCards_41 (by decide) ?_
                refine lv_goto (tgt := 46) hx hb dX2_digestPairsOfCards_42 (by decide) ?_
                refine k_l (k := 0) (n := 0) hA B (u_S (rest := []) X (c_X2_digestNext l g N ad x sp dy la kn re hN db 1 H.size) mw_X2_digestNext md_X2_digestNext rfl lk_X2_213 ⟨Nat.le_of_ble_eq_true rfl, Nat.le_of_ble_eq_true rfl⟩ hA hK hT B hl.1 rfl (Nat.le_of_ble_eq_true rfl) dX2_digestPairsOfCards_46 ⟨Nat.le_of_ble_eq_true rfl, Nat.le_of_ble_eq_true rfl⟩) (Nat.le_of_ble_eq_true rfl) (Nat.le_of_ble_eq_true rfl) (fun r ad' f' H locs hw B => ?_)
                obtain ⟨rfl, rfl, rfl⟩ := hw
                refine lv_lstore_n (lv' := [(3, .long (v_X2_digestNext db 1)), (6, .int ub), (5, .int ua), (0, .ref (ad 0)), (1, .long b1)]) hx hb dX2_digestPairsOfCards_49 rfl hl (by decide) rfl (fun ls hl => ?_)
                refine lv_lload_n hx hb dX2_digestPairsOfCards_50 rfl (lv_at hl 0 rfl) ?_
                refine lv_aload_n hx hb dX2_digestPairsOfCards_51 rfl (lv_at hl 3 rfl) ?_
                refine g_get (q := 0) (k := 0) X hK B rfl in_X2 (pl_c hN 0 (by decide)) cf_0 (by decide) lk_X2_11 rfl rfl dX2_digestPairsOfCards_52 ?_
                refine lv_iload hx hb dX2_digestPairsOfCards_55 (lv_at hl 2 rfl) ?_
                refine g_aald (q := 1) (t0 := 3) X hK B (pl_c hN 1 (by decide)) cf_1 rfl rfl (ix_in (n := 4) hzua c2 rfl) dX2_digestPairsOfCards_57 ?_
                have h17 : ua.toNatClampNeg < 14 := by have := (ix_lt (n := 4) hzua c2 rfl); omega
                refine lv_aload_n hx hb dX2_digestPairsOfCards_58 rfl (lv_at hl 3 rfl) ?_
                refine g_get (q := 0) (k := 0) X hK B rfl in_X2 (pl_c hN 0 (by decide)) cf_0 (by decide) lk_X2_11 rfl rfl dX2_digestPairsOfCards_59 ?_
                refine lv_iload hx hb dX2_digestPairsOfCards_62 (lv_at hl 1 rfl) ?_
                refine g_aald (q := 1) (t0 := 3) X hK B (pl_c hN 1 (by decide)) cf_1 rfl rfl (ix_in (n := 4) hzub c4 rfl) dX2_digestPairsOfCards_64 ?_
                have h18 : ub.toNatClampNeg < 14 := by have := (ix_lt (n := 4) hzub c4 rfl); omega
                refine k_i (k := 0) (n := 0) hA B (u_VN (rest := [.long (v_X2_digestNext db 1)]) X (c_X1_isAlikeTo l g N ad x sp dy la kn re hN ua.toNatClampNeg h17 ub.toNatClampNeg h18 H.size) mw_X1_isAlikeTo md_X1_isAlikeTo rfl lk_X2_126 ⟨Nat.le_of_ble_eq_true rfl, Nat.le_of_ble_eq_true rfl⟩ hA hK hT B (pl_sp hN h17) (cf_sp h17) rfl rfl hl.1 rfl (Nat.le_of_ble_eq_true rfl) dX2_digestPairsOfCards_65 ⟨Nat.le_of_ble_eq_true rfl, Nat.le_of_ble_eq_true rfl⟩) (Nat.le_of_ble_eq_true rfl) (Nat.le_of_ble_eq_true rfl) (fun r ad' f' H locs hw B => ?_)
                obtain ⟨rfl, rfl, rfl⟩ := hw
                refine lv_if_eq (tgt := 75) hx hb dX2_digestPairsOfCards_68 (by decide) (fun c20 => ?_) (fun c20 => ?_)
                · refine lv_lconst (v := 0) hx hb dX2_digestPairsOfCards_75 (by decide) ?_
                  refine k_l (k := 0) (n := 0) hA B (u_S (rest := []) X (c_X2_digestNext l g N ad x sp dy la kn re hN (v_X2_digestNext db 1) 0 H.size) mw_X2_digestNext md_X2_digestNext rfl lk_X2_213 ⟨Nat.le_of_ble_eq_true rfl, Nat.le_of_ble_eq_true rfl⟩ hA hK hT B hl.1 rfl (Nat.le_of_ble_eq_true rfl) dX2_digestPairsOfCards_76 ⟨Nat.le_of_ble_eq_true rfl, Nat.le_of_ble_eq_true rfl⟩) (Nat.le_of_ble_eq_true rfl) (Nat.le_of_ble_eq_true rfl) (fun r ad' f' H locs hw B => ?_)
                  obtain ⟨rfl, rfl, rfl⟩ := hw
                  refine lv_lstore_n (lv' := [(3, .long (v_X2_digestNext (v_X2_digestNext db 1) 0)), (6, .int ub), (5, .int ua), (0, .ref (ad 0)), (1, .long b1)]) hx hb dX2_digestPairsOfCards_79 rfl hl (by decide) rfl (fun ls hl => ?_)
                  refine lv_iinc (v := ub + 1) (lv' := [(6, .int (ub + 1)), (3, .long (v_X2_digestNext (v_X2_digestNext db 1) 0)), (5, .int ua), (0, .ref (ad 0)), (1, .long b1)]) hx hb dX2_digestPairsOfCards_80 hl (k := 1) rfl rfl (by decide) rfl (fun ls hl => ?_)
                  refine lv_goto (tgt := 14) hx hb dX2_digestPairsOfCards_83 (by decide) ?_
                  exact ih3 (ub + 1) (v_X2_digestNext (v_X2_digestNext db 1) 0) H locs (fu_le c4 hn3) (inc_nn hzub c4) (LF_s hjub hzub c4 (dN_leaf (z1 b01_X1_isSameAs c8) (z0 c20))) B ls (lv_sub hl [0, 2, 1, 3, 4] rfl)
                · refine lv_lconst (v := 1) hx hb dX2_digestPairsOfCards_71 (by decide) ?_
                  refine lv_goto (tgt := 76) hx hb dX2_digestPairsOfCards_72 (by decide) ?_
                  refine k_l (k := 0) (n := 0) hA B (u_S (rest := []) X (c_X2_digestNext l g N ad x sp dy la kn re hN (v_X2_digestNext db 1) 1 H.size) mw_X2_digestNext md_X2_digestNext rfl lk_X2_213 ⟨Nat.le_of_ble_eq_true rfl, Nat.le_of_ble_eq_true rfl⟩ hA hK hT B hl.1 rfl (Nat.le_of_ble_eq_true rfl) dX2_digestPairsOfCards_76 ⟨Nat.le_of_ble_eq_true rfl, Nat.le_of_ble_eq_true rfl⟩) (Nat.le_of_ble_eq_true rfl) (Nat.le_of_ble_eq_true rfl) (fun r ad' f' H locs hw B => ?_)
                  obtain ⟨rfl, rfl, rfl⟩ := hw
                  refine lv_lstore_n (lv' := [(3, .long (v_X2_digestNext (v_X2_digestNext db 1) 1)), (6, .int ub), (5, .int ua), (0, .ref (ad 0)), (1, .long b1)]) hx hb dX2_digestPairsOfCards_79 rfl hl (by decide) rfl (fun ls hl => ?_)
                  refine lv_iinc (v := ub + 1) (lv' := [(6, .int (ub + 1)), (3, .long (v_X2_digestNext (v_X2_digestNext db 1) 1)), (5, .int ua), (0, .ref (ad 0)), (1, .long b1)]) hx hb dX2_digestPairsOfCards_80 hl (k := 1) rfl rfl (by decide) rfl (fun ls hl => ?_)
                  refine lv_goto (tgt := 14) hx hb dX2_digestPairsOfCards_83 (by decide) ?_
                  exact ih3 (ub + 1) (v_X2_digestNext (v_X2_digestNext db 1) 1) H locs (fu_le c4 hn3) (inc_nn hzub c4) (LF_s hjub hzub c4 (dN_leaf (z1 b01_X1_isSameAs c8) (z1 b01_X1_isAlikeTo c20))) B ls (lv_sub hl [0, 2, 1, 3, 4] rfl)
        exact loop3 (((4 : Int32).toInt - (0 : Int32).toInt).toNat + 1) 0 da H locs (Nat.lt_succ_self _) (by decide) (LF_0 (by decide)) B ls hl
  exact loop1 (((4 : Int32).toInt - (0 : Int32).toInt).toNat + 1) 0 b1 H locs (Nat.lt_succ_self _) (by decide) (LF_0 (by decide)) B ls hl
set_option maxHeartbeats 4000000 in
set_option maxRecDepth 100000 in
theorem c1_X2_digestDate (l : Launch) (g : GG) (N : Nat) (ad : Nat → Nat) (x : Nat → va_E) (sp dy : Nat → TR) (la kn re : Int32) (hN : 23 ≤ N) (hov : ∀ i, i < 4 → okv (dy i)) (b1 : Int64) (j2 : Nat) (hj2 : j2 < 5) (hq2 : j2 < 4) : KL l yX2_digestDate cX2_digestDate 7 (rm 5 0 0) g [.ref (ad 0), .long b1, .ref (ad (18 + j2))] N ad (cf g ad x sp dy la kn re) N (fun r ad' f' => ad = ad' ∧ sF sp dy j2 b1 = r ∧ ∃ sp' dy' : Nat → TR, (∀ j, j < 12 → sp' j = sp j) ∧ (∀ j, j < 4 → dy' j = dy j) ∧ cf g ad x sp' dy' la kn re = f') := by
  intro sz
  refine mt_start (by decide) (Nat.le_of_ble_eq_true rfl) ?_
  intro p e s m args below meth c hsz X hr hnam hA hK hT H locs B ls hl
  obtain ⟨hx, hb, hml, hown, hts, hlocks⟩ := id X
  have hl : lv_has ls 7 [(0, .ref (ad 0)), (1, .long b1), (3, .ref (ad (18 + j2)))] := hl
  refine lv_lload_n hx hb dX2_digestDate_0 rfl (lv_at hl 1 rfl) ?_
  refine lv_lstore (lv' := [(4, .long b1), (0, .ref (ad 0)), (1, .long b1), (3, .ref (ad (18 + j2)))]) hx hb dX2_digestDate_1 hl (by decide) rfl (fun ls hl => ?_)
  refine lv_iconst (v := 0) hx hb dX2_digestDate_3 (by decide) ?_
  refine lv_istore (lv' := [(6, .int 0), (4, .long b1), (0, .ref (ad 0)), (1, .long b1), (3, .ref (ad (18 + j2)))]) hx hb dX2_digestDate_4 hl (by decide) rfl (fun ls hl => ?_)
  have loop1 : ∀ (n1 : Nat) (ua : Int32) (da : Int64) (H : Heap) (locs : List Loc), ((4 : Int32).toInt - ua.toInt).toNat < n1 → ¬ ua < 0 → LJ 4 (fo (sD dy j2) b1) ua da → WB g (aw N ad sz) s.heap N ad (cf g ad x sp dy la kn re) H locs → ∀ ls : Array Slot, lv_has ls 7 [(6, .int ua), (4, .long da), (0, .ref (ad 0)), (1, .long b1), (3, .ref (ad (18 + j2)))] → W p l e (rm 5 0 0) s m args below meth c H locs 0 0 (MQ below (va_Ql (fun r (u : WS) => (fun r ad' f' => ad = ad' ∧ sF sp dy j2 b1 = r ∧ ∃ sp' dy' : Nat → TR, (∀ j, j < 12 → sp' j = sp j) ∧ (∀ j, j < 4 → dy' j = dy j) ∧ cf g ad x sp' dy' la kn re = f') r u.1 u.2) (fun u t => PO g N u.1 u.2 (aw N ad sz) t) (aw N ad sz)) args s (rm 5 0 0).cells (rm 5 0 0).slots (aw N ad sz)) (F0 m 6 ls []) := by
    intro n1
    induction n1 with
    | zero => intro ua da H locs hn; exact absurd hn (Nat.not_lt_zero _)
    | succ n1 ih1 =>
      intro ua da H locs hn1 hzua hjua B ls hl
      refine lv_iload hx hb dX2_digestDate_6 (lv_at hl 0 rfl) ?_
      refine lv_iconst (v := 4) hx hb dX2_digestDate_8 (by decide) ?_
      refine lv_icmp_ge (tgt := 32) hx hb dX2_digestDate_9 (by decide) (fun c2 => ?_) (fun c2 => ?_)
      · refine lv_iconst (v := 0) hx hb dX2_digestDate_32 (by decide) ?_
        refine lv_istore (lv' := [(6, .int 0), (4, .long da), (0, .ref (ad 0)), (1, .long b1), (3, .ref (ad (18 + j2)))]) hx hb dX2_digestDate_33 hl (by decide) rfl (fun ls hl => ?_)
        have loop3 : ∀ (n3 : Nat) (ub : Int32) (db : Int64) (dy9 : Nat → TR) (H : Heap) (locs : List Loc), ((4 : Int32).toInt - ub.toInt).toNat < n3 → ¬ ub < 0 → LJ 4 (fo (sE sp dy j2) da) ub db → (∀ j, j < 4 → dy9 j = dy j) → WB g (aw N ad sz) s.heap N ad (cf g ad x sp dy9 la kn re) H locs → ∀ ls : Array Slot, lv_has ls 7 [(6, .int ub), (4, .long db), (0, .ref (ad 0)), (1, .long b1), (3, .ref (ad (18 + j2)))] → W p l e (rm 5 0 0) s m args below meth c H locs 0 0 (MQ below (va_Ql (fun r (u : WS) => (fun r ad' f' => ad = ad' ∧ sF sp dy j2 b1 = r ∧ ∃ sp' dy' : Nat → TR, (∀ j, j < 12 → sp' j = sp j) ∧ (∀ j, j < 4 → dy' j = dy j) ∧ cf g ad x sp' dy' la kn re = f') r u.1 u.2) (fun u t => PO g N u.1 u.2 (aw N ad sz) t) (aw N ad sz)) args s (rm 5 0 0).cells (rm 5 0 0).slots (aw N ad sz)) (F0 m 35 ls []) := by
          intro n3
          induction n3 with
          | zero => intro ub db dy9 H locs hn; exact absurd hn (Nat.not_lt_zero _)
          | succ n3 ih3 =>
            intro ub db dy9 H locs hn3 hzub hjub hkdy3 B ls hl
            refine lv_iload hx hb dX2_digestDate_35 (lv_at hl 0 rfl) ?_
            refine lv_iconst (v := 4) hx hb dX2_digestDate_37 (by decide) ?_
            refine lv_icmp_ge (tgt := 117) hx hb dX2_digestDate_38 (by decide) (fun c4 => ?_) (fun c4 => ?_)
            · refine lv_lload hx hb dX2_digestDate_117 (lv_at hl 1 rfl) ?_
              exact rt_l X hr (ad, (cf g ad x sp dy9 la kn re)) B (PO_of B) ⟨rfl, (by unfold sF; rw [(LJ_e 4 hjub hzub c4 rfl), (LJ_e 4 hjua hzua c2 rfl)]), _, _, fun _ _ => rfl, hkdy3, rfl⟩ (Nat.le_of_ble_eq_true rfl) (Nat.le_of_ble_eq_true rfl) dX2_digestDate_119
            · refine lv_lload hx hb dX2_digestDate_41 (lv_at hl 1 rfl) ?_
              refine lv_aload_n hx hb dX2_digestDate_43 rfl (lv_at hl 2 rfl) ?_
              refine lv_aload_n hx hb dX2_digestDate_44 rfl (lv_at hl 4 rfl) ?_
              refine lv_aload_n hx hb dX2_digestDate_45 rfl (lv_at hl 2 rfl) ?_
              refine g_get (q := 0) (k := 0) X hK B rfl in_X2 (pl_c hN 0 (by decide)) cf_0 (by decide) lk_X2_11 rfl rfl dX2_digestDate_46 ?_
              refine lv_iload hx hb dX2_digestDate_49 (lv_at hl 0 rfl) ?_
              refine g_aald (q := 1) (t0 := 3) X hK B (pl_c hN 1 (by decide)) cf_1 rfl rfl (ix_in (n := 4) hzub c4 rfl) dX2_digestDate_51 ?_
              have h5 : ub.toNatClampNeg < 14 := by have := (ix_lt (n := 4) hzub c4 rfl); omega
              refine lv_iconst (v := 0) hx hb dX2_digestDate_52 (by decide) ?_
              refine k_i (k := 0) (n := 0) hA B (u_V (rest := [.long db]) X (c_X2_reach l g N ad x sp dy9 la kn re hN j2 hj2 ub.toNatClampNeg h5 0 H.size) mw_X2_reach md_X2_reach rfl lk_X2_161 ⟨Nat.le_of_ble_eq_true rfl, Nat.le_of_ble_eq_true rfl⟩ hA hK hT B (pl_c hN 0 (by decide)) cf_0 rfl rfl hl.1 rfl (Nat.le_of_ble_eq_true rfl) dX2_digestDate_53 ⟨Nat.le_of_ble_eq_true rfl, Nat.le_of_ble_eq_true rfl⟩) (Nat.le_of_ble_eq_true rfl) (Nat.le_of_ble_eq_true rfl) (fun r ad' f' H locs hw B => ?_)
              obtain ⟨rfl, rfl, rfl⟩ := hw
              have e6 : ∀ j, j < 4 → (v_X2_reach sp dy9 j2 ub.toNatClampNeg 0).2 j = dy j := fun j hj => (kp_X2_reach_dy (by omega)).trans (hkdy3 j hj)
              refine lv_if_eq (tgt := 70) hx hb dX2_digestDate_56 (by decide) (fun c7 => ?_) (fun c7 => ?_)
              · refine lv_lconst (v := 0) hx hb dX2_digestDate_70 (by decide) ?_
                refine k_l (k := 0) (n := 0) hA B (u_S (rest := []) X (c_X2_digestNext l g N ad x sp (v_X2_reach sp dy9 j2 ub.toNatClampNeg 0).2 la kn re hN db 0 H.size) mw_X2_digestNext md_X2_digestNext rfl lk_X2_213 ⟨Nat.le_of_ble_eq_true rfl, Nat.le_of_ble_eq_true rfl⟩ hA hK hT B hl.1 rfl (Nat.le_of_ble_eq_true rfl) dX2_digestDate_71 ⟨Nat.le_of_ble_eq_true rfl, Nat.le_of_ble_eq_true rfl⟩) (Nat.le_of_ble_eq_true rfl) (Nat.le_of_ble_eq_true rfl) (fun r ad' f' H locs hw B => ?_)
                obtain ⟨rfl, rfl, rfl⟩ := hw
                refine lv_lstore (lv' := [(4, .long (v_X2_digestNext db 0)), (6, .int ub), (0, .ref (ad 0)), (1, .long b1), (3, .ref (ad (18 + j2)))]) hx hb dX2_digestDate_74 hl (by decide) rfl (fun ls hl => ?_)
                refine lv_lload hx hb dX2_digestDate_76 (lv_at hl 0 rfl) ?_
                refine lv_aload_n hx hb dX2_digestDate_78 rfl (lv_at hl 2 rfl) ?_
                refine lv_aload_n hx hb dX2_digestDate_79 rfl (lv_at hl 4 rfl) ?_
                refine lv_aload_n hx hb dX2_digestDate_80 rfl (lv_at hl 2 rfl) ?_
                refine g_get (q := 0) (k := 0) X hK B rfl in_X2 (pl_c hN 0 (by decide)) cf_0 (by decide) lk_X2_11 rfl rfl dX2_digestDate_81 ?_
                refine lv_iload hx hb dX2_digestDate_84 (lv_at hl 1 rfl) ?_
                refine g_aald (q := 1) (t0 := 3) X hK B (pl_c hN 1 (by decide)) cf_1 rfl rfl (ix_in (n := 4) hzub c4 rfl) dX2_digestDate_86 ?_
                have h9 : ub.toNatClampNeg < 14 := by have := (ix_lt (n := 4) hzub c4 rfl); omega
                refine lv_iconst (v := 1) hx hb dX2_digestDate_87 (by decide) ?_
                refine k_i (k := 0) (n := 0) hA B (u_V (rest := [.long (v_X2_digestNext db 0)]) X (c_X2_reach l g N ad x sp (v_X2_reach sp dy9 j2 ub.toNatClampNeg 0).2 la kn re hN j2 hj2 ub.toNatClampNeg h9 1 H.size) mw_X2_reach md_X2_reach rfl lk_X2_161 ⟨Nat.le_of_ble_eq_true rfl, Nat.le_of_ble_eq_true rfl⟩ hA hK hT B (pl_c hN 0 (by decide)) cf_0 rfl rfl hl.1 rfl (Nat.le_of_ble_eq_true rfl) dX2_digestDate_88 ⟨Nat.le_of_ble_eq_true rfl, Nat.le_of_ble_eq_true rfl⟩) (Nat.le_of_ble_eq_true rfl) (Nat.le_of_ble_eq_true rfl) (fun r ad' f' H locs hw B => ?_)
                obtain ⟨rfl, rfl, rfl⟩ := hw
                have e10 : ∀ j, j < 4 → (v_X2_reach sp (v_X2_reach sp dy9 j2 ub.toNatClampNeg 0).2 j2 ub.toNatClampNeg 1).2 j = dy j := fun j hj => (kp_X2_reach_dy (by omega)).trans (e6 j hj)
                refine lv_if_eq (tgt := 105) hx hb dX2_digestDate_91 (by decide) (fun c11 => ?_) (fun c11 => ?_)
                · refine lv_lconst (v := 0) hx hb dX2_digestDate_105 (by decide) ?_
                  refine k_l (k := 0) (n := 0) hA B (u_S (rest := []) X (c_X2_digestNext l g N ad x sp (v_X2_reach sp (v_X2_reach sp dy9 j2 ub.toNatClampNeg 0).2 j2 ub.toNatClampNeg 1).2 la kn re hN (v_X2_digestNext db 0) 0 H.size) mw_X2_digestNext md_X2_digestNext rfl lk_X2_213 ⟨Nat.le_of_ble_eq_true rfl, Nat.le_of_ble_eq_true rfl⟩ hA hK hT B hl.1 rfl (Nat.le_of_ble_eq_true rfl) dX2_digestDate_106 ⟨Nat.le_of_ble_eq_true rfl, Nat.le_of_ble_eq_true rfl⟩) (Nat.le_of_ble_eq_true rfl) (Nat.le_of_ble_eq_true rfl) (fun r ad' f' H locs hw B => ?_)
                  obtain ⟨rfl, rfl, rfl⟩ := hw
                  refine lv_lstore (lv' := [(4, .long (v_X2_digestNext (v_X2_digestNext db 0) 0)), (6, .int ub), (0, .ref (ad 0)), (1, .long b1), (3, .ref (ad (18 + j2)))]) hx hb dX2_digestDate_109 hl (by decide) rfl (fun ls hl => ?_)
                  refine lv_iinc (v := ub + 1) (lv' := [(6, .int (ub + 1)), (4, .long (v_X2_digestNext (v_X2_digestNext db 0) 0)), (0, .ref (ad 0)), (1, .long b1), (3, .ref (ad (18 + j2)))]) hx hb dX2_digestDate_111 hl (k := 1) rfl rfl (by decide) rfl (fun ls hl => ?_)
                  refine lv_goto (tgt := 35) hx hb dX2_digestDate_114 (by decide) ?_
                  exact ih3 (ub + 1) (v_X2_digestNext (v_X2_digestNext db 0) 0) (v_X2_reach sp (v_X2_reach sp dy9 j2 ub.toNatClampNeg 0).2 j2 ub.toNatClampNeg 1).2 H locs (fu_le c4 hn3) (inc_nn hzub c4) (LF_s hjub hzub c4 (dE_leaf (rs0 (hkdy3 _ hq2) (hov _ hq2).1 c7) (rs0 ((kp_X2_reach_dy (by omega)).trans (hkdy3 _ hq2)) (hov _ hq2).1 c11))) (e10) B ls (lv_sub hl [0, 1, 2, 3, 4] rfl)
                · refine lv_aload_n hx hb dX2_digestDate_94 rfl (lv_at hl 2 rfl) ?_
                  refine g_get (q := 0) (k := 8) X hK B rfl in_X2 (pl_c hN 0 (by decide)) cf_0 (by decide) lk_X2_33 rfl rfl dX2_digestDate_95 ?_
                  refine k_i (k := 0) (n := 0) hA B (u_VN (rest := [.long (v_X2_digestNext db 0)]) X (c_X0_signs l g N ad x sp (v_X2_reach sp (v_X2_reach sp dy9 j2 ub.toNatClampNeg 0).2 j2 ub.toNatClampNeg 1).2 la kn re hN 4 (by decide) H.size) mw_X0_signs md_X0_signs rfl lk_X2_257 ⟨Nat.le_of_ble_eq_true rfl, Nat.le_of_ble_eq_true rfl⟩ hA hK hT B (pl_dy hN (by decide)) (cf_dy (by decide)) rfl rfl hl.1 rfl (Nat.le_of_ble_eq_true rfl) dX2_digestDate_98 ⟨Nat.le_of_ble_eq_true rfl, Nat.le_of_ble_eq_true rfl⟩) (Nat.le_of_ble_eq_true rfl) (Nat.le_of_ble_eq_true rfl) (fun r ad' f' H locs hw B => ?_)
                  obtain ⟨rfl, rfl, rfl⟩ := hw
                  refine lv_i2l (v := (v_X0_signs (v_X2_reach sp (v_X2_reach sp dy9 j2 ub.toNatClampNeg 0).2 j2 ub.toNatClampNeg 1).2 4).toInt64) hx hb dX2_digestDate_101 rfl ?_
                  refine lv_goto (tgt := 106) hx hb dX2_digestDate_102 (by decide) ?_
                  refine k_l (k := 0) (n := 0) hA B (u_S (rest := []) X (c_X2_digestNext l g N ad x sp (v_X2_reach sp (v_X2_reach sp dy9 j2 ub.toNatClampNeg 0).2 j2 ub.toNatClampNeg 1).2 la kn re hN (v_X2_digestNext db 0) ((v_X0_signs (v_X2_reach sp (v_X2_reach sp dy9 j2 ub.toNatClampNeg 0).2 j2 ub.toNatClampNeg 1).2 4).toInt64) H.size) mw_X2_digestNext md_X2_digestNext rfl lk_X2_213 ⟨Nat.le_of_ble_eq_true rfl, Nat.le_of_ble_eq_true rfl⟩ hA hK hT B hl.1 rfl (Nat.le_of_ble_eq_true rfl) dX2_digestDate_106 ⟨Nat.le_of_ble_eq_true rfl, Nat.le_of_ble_eq_true rfl⟩) (Nat.le_of_ble_eq_true rfl) (Nat.le_of_ble_eq_true rfl) (fun r ad' f' H locs hw B => ?_)
                  obtain ⟨rfl, rfl, rfl⟩ := hw
                  refine lv_lstore (lv' := [(4, .long (v_X2_digestNext (v_X2_digestNext db 0) ((v_X0_signs (v_X2_reach sp (v_X2_reach sp dy9 j2 ub.toNatClampNeg 0).2 j2 ub.toNatClampNeg 1).2 4).toInt64))), (6, .int ub), (0, .ref (ad 0)), (1, .long b1), (3, .ref (ad (18 + j2)))]) hx hb dX2_digestDate_109 hl (by decide) rfl (fun ls hl => ?_)
                  refine lv_iinc (v := ub + 1) (lv' := [(6, .int (ub + 1)), (4, .long (v_X2_digestNext (v_X2_digestNext db 0) ((v_X0_signs (v_X2_reach sp (v_X2_reach sp dy9 j2 ub.toNatClampNeg 0).2 j2 ub.toNatClampNeg 1).2 4).toInt64))), (0, .ref (ad 0)), (1, .long b1), (3, .ref (ad (18 + j2)))]) hx hb dX2_digestDate_111 hl (k := 1) rfl rfl (by decide) rfl (fun ls hl => ?_)
                  refine lv_goto (tgt := 35) hx hb dX2_digestDate_114 (by decide) ?_
                  exact ih3 (ub + 1) (v_X2_digestNext (v_X2_digestNext db 0) ((v_X0_signs (v_X2_reach sp (v_X2_reach sp dy9 j2 ub.toNatClampNeg 0).2 j2 ub.toNatClampNeg 1).2 4).toInt64)) (v_X2_reach sp (v_X2_reach sp dy9 j2 ub.toNatClampNeg 0).2 j2 ub.toNatClampNeg 1).2 H locs (fu_le c4 hn3) (inc_nn hzub c4) (LF_s hjub hzub c4 (dE_leaf (rs0 (hkdy3 _ hq2) (hov _ hq2).1 c7) (rs1 ((kp_X2_reach_dy (by omega)).trans (hkdy3 _ hq2)) (hov _ hq2).1 c11))) (e10) B ls (lv_sub hl [0, 1, 2, 3, 4] rfl)
              · refine lv_aload_n hx hb dX2_digestDate_59 rfl (lv_at hl 2 rfl) ?_
                refine g_get (q := 0) (k := 8) X hK B rfl in_X2 (pl_c hN 0 (by decide)) cf_0 (by decide) lk_X2_33 rfl rfl dX2_digestDate_60 ?_
                refine k_i (k := 0) (n := 0) hA B (u_VN (rest := [.long db]) X (c_X0_signs l g N ad x sp (v_X2_reach sp dy9 j2 ub.toNatClampNeg 0).2 la kn re hN 4 (by decide) H.size) mw_X0_signs md_X0_signs rfl lk_X2_257 ⟨Nat.le_of_ble_eq_true rfl, Nat.le_of_ble_eq_true rfl⟩ hA hK hT B (pl_dy hN (by decide)) (cf_dy (by decide)) rfl rfl hl.1 rfl (Nat.le_of_ble_eq_true rfl) dX2_digestDate_63 ⟨Nat.le_of_ble_eq_true rfl, Nat.le_of_ble_eq_true rfl⟩) (Nat.le_of_ble_eq_true rfl) (Nat.le_of_ble_eq_true rfl) (fun r ad' f' H locs hw B => ?_)
                obtain ⟨rfl, rfl, rfl⟩ := hw
                refine lv_i2l (v := (v_X0_signs (v_X2_reach sp dy9 j2 ub.toNatClampNeg 0).2 4).toInt64) hx hb dX2_digestDate_66 rfl ?_
                refine lv_goto (tgt := 71) hx hb dX2_digestDate_67 (by decide) ?_
                refine k_l (k := 0) (n := 0) hA B (u_S (rest := []) X (c_X2_digestNext l g N ad x sp (v_X2_reach sp dy9 j2 ub.toNatClampNeg 0).2 la kn re hN db ((v_X0_signs (v_X2_reach sp dy9 j2 ub.toNatClampNeg 0).2 4).toInt64) H.size) mw_X2_digestNext md_X2_digestNext rfl lk_X2_213 ⟨Nat.le_of_ble_eq_true rfl, Nat.le_of_ble_eq_true rfl⟩ hA hK hT B hl.1 rfl (Nat.le_of_ble_eq_true rfl) dX2_digestDate_71 ⟨Nat.le_of_ble_eq_true rfl, Nat.le_of_ble_eq_true rfl⟩) (Nat.le_of_ble_eq_true rfl) (Nat.le_of_ble_eq_true rfl) (fun r ad' f' H locs hw B => ?_)
                obtain ⟨rfl, rfl, rfl⟩ := hw
                refine lv_lstore (lv' := [(4, .long (v_X2_digestNext db ((v_X0_signs (v_X2_reach sp dy9 j2 ub.toNatClampNeg 0).2 4).toInt64))), (6, .int ub), (0, .ref (ad 0)), (1, .long b1), (3, .ref (ad (18 + j2)))]) hx hb dX2_digestDate_74 hl (by decide) rfl (fun ls hl => ?_)
                refine lv_lload hx hb dX2_digestDate_76 (lv_at hl 0 rfl) ?_
                refine lv_aload_n hx hb dX2_digestDate_78 rfl (lv_at hl 2 rfl) ?_
                refine lv_aload_n hx hb dX2_digestDate_79 rfl (lv_at hl 4 rfl) ?_
                refine lv_aload_n hx hb dX2_digestDate_80 rfl (lv_at hl 2 rfl) ?_
                refine g_get (q := 0) (k := 0) X hK B rfl in_X2 (pl_c hN 0 (by decide)) cf_0 (by decide) lk_X2_11 rfl rfl dX2_digestDate_81 ?_
                refine lv_iload hx hb dX2_digestDate_84 (lv_at hl 1 rfl) ?_
                refine g_aald (q := 1) (t0 := 3) X hK B (pl_c hN 1 (by decide)) cf_1 rfl rfl (ix_in (n := 4) hzub c4 rfl) dX2_digestDate_86 ?_
                have h17 : ub.toNatClampNeg < 14 := by have := (ix_lt (n := 4) hzub c4 rfl); omega
                refine lv_iconst (v := 1) hx hb dX2_digestDate_87 (by decide) ?_
                refine k_i (k := 0) (n := 0) hA B (u_V (rest := [.long (v_X2_digestNext db ((v_X0_signs (v_X2_reach sp dy9 j2 ub.toNatClampNeg 0).2 4).toInt64))]) X (c_X2_reach l g N ad x sp (v_X2_reach sp dy9 j2 ub.toNatClampNeg 0).2 la kn re hN j2 hj2 ub.toNatClampNeg h17 1 H.size) mw_X2_reach md_X2_reach rfl lk_X2_161 ⟨Nat.le_of_ble_eq_true rfl, Nat.le_of_ble_eq_true rfl⟩ hA hK hT B (pl_c hN 0 (by decide)) cf_0 rfl rfl hl.1 rfl (Nat.le_of_ble_eq_true rfl) dX2_digestDate_88 ⟨Nat.le_of_ble_eq_true rfl, Nat.le_of_ble_eq_true rfl⟩) (Nat.le_of_ble_eq_true rfl) (Nat.le_of_ble_eq_true rfl) (fun r ad' f' H locs hw B => ?_)
                obtain ⟨rfl, rfl, rfl⟩ := hw
                have e18 : ∀ j, j < 4 → (v_X2_reach sp (v_X2_reach sp dy9 j2 ub.toNatClampNeg 0).2 j2 ub.toNatClampNeg 1).2 j = dy j := fun j hj => (kp_X2_reach_dy (by omega)).trans (e6 j hj)
                refine lv_if_eq (tgt := 105) hx hb dX2_digestDate_91 (by decide) (fun c19 => ?_) (fun c19 => ?_)
                · refine lv_lconst (v := 0) hx hb dX2_digestDate_105 (by decide) ?_
                  refine k_l (k := 0) (n := 0) hA B (u_S (rest := []) X (c_X2_digestNext l g N ad x sp (v_X2_reach sp (v_X2_reach sp dy9 j2 ub.toNatClampNeg 0).2 j2 ub.toNatClampNeg 1).2 la kn re hN (v_X2_digestNext db ((v_X0_signs (v_X2_reach sp dy9 j2 ub.toNatClampNeg 0).2 4).toInt64)) 0 H.size) mw_X2_digestNext md_X2_digestNext rfl lk_X2_213 ⟨Nat.le_of_ble_eq_true rfl, Nat.le_of_ble_eq_true rfl⟩ hA hK hT B hl.1 rfl (Nat.le_of_ble_eq_true rfl) dX2_digestDate_106 ⟨Nat.le_of_ble_eq_true rfl, Nat.le_of_ble_eq_true rfl⟩) (Nat.le_of_ble_eq_true rfl) (Nat.le_of_ble_eq_true rfl) (fun r ad' f' H locs hw B => ?_)
                  obtain ⟨rfl, rfl, rfl⟩ := hw
                  refine lv_lstore (lv' := [(4, .long (v_X2_digestNext (v_X2_digestNext db ((v_X0_signs (v_X2_reach sp dy9 j2 ub.toNatClampNeg 0).2 4).toInt64)) 0)), (6, .int ub), (0, .ref (ad 0)), (1, .long b1), (3, .ref (ad (18 + j2)))]) hx hb dX2_digestDate_109 hl (by decide) rfl (fun ls hl => ?_)
                  refine lv_iinc (v := ub + 1) (lv' := [(6, .int (ub + 1)), (4, .long (v_X2_digestNext (v_X2_digestNext db ((v_X0_signs (v_X2_reach sp dy9 j2 ub.toNatClampNeg 0).2 4).toInt64)) 0)), (0, .ref (ad 0)), (1, .long b1), (3, .ref (ad (18 + j2)))]) hx hb dX2_digestDate_111 hl (k := 1) rfl rfl (by decide) rfl (fun ls hl => ?_)
                  refine lv_goto (tgt := 35) hx hb dX2_digestDate_114 (by decide) ?_
                  exact ih3 (ub + 1) (v_X2_digestNext (v_X2_digestNext db ((v_X0_signs (v_X2_reach sp dy9 j2 ub.toNatClampNeg 0).2 4).toInt64)) 0) (v_X2_reach sp (v_X2_reach sp dy9 j2 ub.toNatClampNeg 0).2 j2 ub.toNatClampNeg 1).2 H locs (fu_le c4 hn3) (inc_nn hzub c4) (LF_s hjub hzub c4 (dE_leaf (rs1 (hkdy3 _ hq2) (hov _ hq2).1 c7) (rs0 ((kp_X2_reach_dy (by omega)).trans (hkdy3 _ hq2)) (hov _ hq2).1 c19))) (e18) B ls (lv_sub hl [0, 1, 2, 3, 4] rfl)
                · refine lv_aload_n hx hb dX2_digestDate_94 rfl (lv_at hl 2 rfl) ?_
                  refine g_get (q := 0) (k := 8) X hK B rfl in_X2 (pl_c hN 0 (by decide)) cf_0 (by decide) lk_X2_33 rfl rfl dX2_digestDate_95 ?_
                  refine k_i (k := 0) (n := 0) hA B (u_VN (rest := [.long (v_X2_digestNext db ((v_X0_signs (v_X2_reach sp dy9 j2 ub.toNatClampNeg 0).2 4).toInt64))]) X (c_X0_signs l g N ad x sp (v_X2_reach sp (v_X2_reach sp dy9 j2 ub.toNatClampNeg 0).2 j2 ub.toNatClampNeg 1).2 la kn re hN 4 (by decide) H.size) mw_X0_signs md_X0_signs rfl lk_X2_257 ⟨Nat.le_of_ble_eq_true rfl, Nat.le_of_ble_eq_true rfl⟩ hA hK hT B (pl_dy hN (by decide)) (cf_dy (by decide)) rfl rfl hl.1 rfl (Nat.le_of_ble_eq_true rfl) dX2_digestDate_98 ⟨Nat.le_of_ble_eq_true rfl, Nat.le_of_ble_eq_true rfl⟩) (Nat.le_of_ble_eq_true rfl) (Nat.le_of_ble_eq_true rfl) (fun r ad' f' H locs hw B => ?_)
                  obtain ⟨rfl, rfl, rfl⟩ := hw
                  refine lv_i2l (v := (v_X0_signs (v_X2_reach sp (v_X2_reach sp dy9 j2 ub.toNatClampNeg 0).2 j2 ub.toNatClampNeg 1).2 4).toInt64) hx hb dX2_digestDate_101 rfl ?_
                  refine lv_goto (tgt := 106) hx hb dX2_digestDate_102 (by decide) ?_
                  refine k_l (k := 0) (n := 0) hA B (u_S (rest := []) X (c_X2_digestNext l g N ad x sp (v_X2_reach sp (v_X2_reach sp dy9 j2 ub.toNatClampNeg 0).2 j2 ub.toNatClampNeg 1).2 la kn re hN (v_X2_digestNext db ((v_X0_signs (v_X2_reach sp dy9 j2 ub.toNatClampNeg 0).2 4).toInt64)) ((v_X0_signs (v_X2_reach sp (v_X2_reach sp dy9 j2 ub.toNatClampNeg 0).2 j2 ub.toNatClampNeg 1).2 4).toInt64) H.size) mw_X2_digestNext md_X2_digestNext rfl lk_X2_213 ⟨Nat.le_of_ble_eq_true rfl, Nat.le_of_ble_eq_true rfl⟩ hA hK hT B hl.1 rfl (Nat.le_of_ble_eq_true rfl) dX2_digestDate_106 ⟨Nat.le_of_ble_eq_true rfl, Nat.le_of_ble_eq_true rfl⟩) (Nat.le_of_ble_eq_true rfl) (Nat.le_of_ble_eq_true rfl) (fun r ad' f' H locs hw B => ?_)
                  obtain ⟨rfl, rfl, rfl⟩ := hw
                  refine lv_lstore (lv' := [(4, .long (v_X2_digestNext (v_X2_digestNext db ((v_X0_signs (v_X2_reach sp dy9 j2 ub.toNatClampNeg 0).2 4).toInt64)) ((v_X0_signs (v_X2_reach sp (v_X2_reach sp dy9 j2 ub.toNatClampNeg 0).2 j2 ub.toNatClampNeg 1).2 4).toInt64))), (6, .int ub), (0, .ref (ad 0)), (1, .long b1), (3, .ref (ad (18 + j2)))]) hx hb dX2_digestDate_109 hl (by decide) rfl (fun ls hl => ?_)
                  refine lv_iinc (v := ub + 1) (lv' := [(6, .int (ub + 1)), (4, .long (v_X2_digestNext (v_X2_digestNext db ((v_X0_signs (v_X2_reach sp dy9 j2 ub.toNatClampNeg 0).2 4).toInt64)) ((v_X0_signs (v_X2_reach sp (v_X2_reach sp dy9 j2 ub.toNatClampNeg 0).2 j2 ub.toNatClampNeg 1).2 4).toInt64))), (0, .ref (ad 0)), (1, .long b1), (3, .ref (ad (18 + j2)))]) hx hb dX2_digestDate_111 hl (k := 1) rfl rfl (by decide) rfl (fun ls hl => ?_)
                  refine lv_goto (tgt := 35) hx hb dX2_digestDate_114 (by decide) ?_
                  exact ih3 (ub + 1) (v_X2_digestNext (v_X2_digestNext db ((v_X0_signs (v_X2_reach sp dy9 j2 ub.toNatClampNeg 0).2 4).toInt64)) ((v_X0_signs (v_X2_reach sp (v_X2_reach sp dy9 j2 ub.toNatClampNeg 0).2 j2 ub.toNatClampNeg 1).2 4).toInt64)) (v_X2_reach sp (v_X2_reach sp dy9 j2 ub.toNatClampNeg 0).2 j2 ub.toNatClampNeg 1).2 H locs (fu_le c4 hn3) (inc_nn hzub c4) (LF_s hjub hzub c4 (dE_leaf (rs1 (hkdy3 _ hq2) (hov _ hq2).1 c7) (rs1 ((kp_X2_reach_dy (by omega)).trans (hkdy3 _ hq2)) (hov _ hq2).1 c19))) (e18) B ls (lv_sub hl [0, 1, 2, 3, 4] rfl)
        exact loop3 (((4 : Int32).toInt - (0 : Int32).toInt).toNat + 1) 0 da dy H locs (Nat.lt_succ_self _) (by decide) (LF_0 (by decide)) (fun _ _ => rfl) B ls hl
      · refine lv_lload hx hb dX2_digestDate_12 (lv_at hl 1 rfl) ?_
        refine lv_aload_n hx hb dX2_digestDate_14 rfl (lv_at hl 4 rfl) ?_
        refine lv_iload hx hb dX2_digestDate_15 (lv_at hl 0 rfl) ?_
        refine k_i (k := 0) (n := 0) hA B (u_VN (rest := [.long da]) X (c_X0_number l g N ad x sp dy la kn re hN j2 hj2 ua H.size) mw_X0_number md_X0_number rfl lk_X2_171 ⟨Nat.le_of_ble_eq_true rfl, Nat.le_of_ble_eq_true rfl⟩ hA hK hT B (pl_dy hN hj2) (cf_dy hj2) rfl rfl hl.1 rfl (Nat.le_of_ble_eq_true rfl) dX2_digestDate_17 ⟨Nat.le_of_ble_eq_true rfl, Nat.le_of_ble_eq_true rfl⟩) (Nat.le_of_ble_eq_true rfl) (Nat.le_of_ble_eq_true rfl) (fun r ad' f' H locs hw B => ?_)
        obtain ⟨rfl, rfl, rfl⟩ := hw
        refine lv_i2l (v := (v_X0_number dy j2 ua).toInt64) hx hb dX2_digestDate_20 rfl ?_
        refine k_l (k := 0) (n := 0) hA B (u_S (rest := []) X (c_X2_digestNext l g N ad x sp dy la kn re hN da ((v_X0_number dy j2 ua).toInt64) H.size) mw_X2_digestNext md_X2_digestNext rfl lk_X2_213 ⟨Nat.le_of_ble_eq_true rfl, Nat.le_of_ble_eq_true rfl⟩ hA hK hT B hl.1 rfl (Nat.le_of_ble_eq_true rfl) dX2_digestDate_21 ⟨Nat.le_of_ble_eq_true rfl, Nat.le_of_ble_eq_true rfl⟩) (Nat.le_of_ble_eq_true rfl) (Nat.le_of_ble_eq_true rfl) (fun r ad' f' H locs hw B => ?_)
        obtain ⟨rfl, rfl, rfl⟩ := hw
        refine lv_lstore (lv' := [(4, .long (v_X2_digestNext da ((v_X0_number dy j2 ua).toInt64))), (6, .int ua), (0, .ref (ad 0)), (1, .long b1), (3, .ref (ad (18 + j2)))]) hx hb dX2_digestDate_24 hl (by decide) rfl (fun ls hl => ?_)
        refine lv_iinc (v := ua + 1) (lv' := [(6, .int (ua + 1)), (4, .long (v_X2_digestNext da ((v_X0_number dy j2 ua).toInt64))), (0, .ref (ad 0)), (1, .long b1), (3, .ref (ad (18 + j2)))]) hx hb dX2_digestDate_26 hl (k := 1) rfl rfl (by decide) rfl (fun ls hl => ?_)
        refine lv_goto (tgt := 6) hx hb dX2_digestDate_29 (by decide) ?_
        exact ih1 (ua + 1) (v_X2_digestNext da ((v_X0_number dy j2 ua).toInt64)) H locs (fu_le c2 hn1) (inc_nn hzua c2) (LF_s hjua hzua c2 (by rw [nd_rw (hov _ hq2).1 hzua c2]; rfl)) B ls (lv_sub hl [0, 1, 2, 3, 4] rfl)
  exact loop1 (((4 : Int32).toInt - (0 : Int32).toInt).toNat + 1) 0 b1 H locs (Nat.lt_succ_self _) (by decide) (LF_0 (by decide)) B ls hl
set_option maxHeartbeats 4000000 in
set_option maxRecDepth 100000 in
theorem c1_X2_digestPairsOfDates (l : Launch) (g : GG) (N : Nat) (ad : Nat → Nat) (x : Nat → va_E) (sp dy : Nat → TR) (la kn re : Int32) (hN : 23 ≤ N) (hov : ∀ i, i < 4 → okv (dy i)) (b1 : Int64) : KL l yX2_digestPairsOfDates cX2_digestPairsOfDates 7 (rm 5 0 0) g [.ref (ad 0), .long b1] N ad (cf g ad x sp dy la kn re) N (fun r ad' f' => ad = ad' ∧ fo (sQ dy) b1 4 = r ∧ ∃ sp' dy' : Nat → TR, (∀ j, j < 12 → sp' j = sp j) ∧ (∀ j, j < 4 → dy' j = dy j) ∧ cf g ad x sp' dy' la kn re = f') := by
  intro sz
  refine mt_start (by decide) (Nat.le_of_ble_eq_true rfl) ?_
  intro p e s m args below meth c hsz X hr hnam hA hK hT H locs B ls hl
  obtain ⟨hx, hb, hml, hown, hts, hlocks⟩ := id X
  have hl : lv_has ls 7 [(0, .ref (ad 0)), (1, .long b1)] := hl
  refine lv_lload_n hx hb dX2_digestPairsOfDates_0 rfl (lv_at hl 1 rfl) ?_
  refine lv_lstore_n (lv' := [(3, .long b1), (0, .ref (ad 0)), (1, .long b1)]) hx hb dX2_digestPairsOfDates_1 rfl hl (by decide) rfl (fun ls hl => ?_)
  refine lv_iconst (v := 0) hx hb dX2_digestPairsOfDates_2 (by decide) ?_
  refine lv_istore (lv' := [(5, .int 0), (3, .long b1), (0, .ref (ad 0)), (1, .long b1)]) hx hb dX2_digestPairsOfDates_3 hl (by decide) rfl (fun ls hl => ?_)
  have loop1 : ∀ (n1 : Nat) (ua : Int32) (da : Int64) (sp9 : Nat → TR) (H : Heap) (locs : List Loc), ((4 : Int32).toInt - ua.toInt).toNat < n1 → ¬ ua < 0 → LJ 4 (fo (sQ dy) b1) ua da → (∀ j, j < 12 → sp9 j = sp j) → WB g (aw N ad sz) s.heap N ad (cf g ad x sp9 dy la kn re) H locs → ∀ ls : Array Slot, lv_has ls 7 [(5, .int ua), (3, .long da), (0, .ref (ad 0)), (1, .long b1)] → W p l e (rm 5 0 0) s m args below meth c H locs 0 0 (MQ below (va_Ql (fun r (u : WS) => (fun r ad' f' => ad = ad' ∧ fo (sQ dy) b1 4 = r ∧ ∃ sp' dy' : Nat → TR, (∀ j, j < 12 → sp' j = sp j) ∧ (∀ j, j < 4 → dy' j = dy j) ∧ cf g ad x sp' dy' la kn re = f') r u.1 u.2) (fun u t => PO g N u.1 u.2 (aw N ad sz) t) (aw N ad sz)) args s (rm 5 0 0).cells (rm 5 0 0).slots (aw N ad sz)) (F0 m 5 ls []) := by
    intro n1
    induction n1 with
    | zero => intro ua da sp9 H locs hn; exact absurd hn (Nat.not_lt_zero _)
    | succ n1 ih1 =>
      intro ua da sp9 H locs hn1 hzua hjua hksp1 B ls hl
      refine lv_iload hx hb dX2_digestPairsOfDates_5 (lv_at hl 0 rfl) ?_
      refine lv_iconst (v := 4) hx hb dX2_digestPairsOfDates_7 (by decide) ?_
      refine lv_icmp_ge (tgt := 86) hx hb dX2_digestPairsOfDates_8 (by decide) (fun c2 => ?_) (fun c2 => ?_)
      · refine lv_lload_n hx hb dX2_digestPairsOfDates_86 rfl (lv_at hl 1 rfl) ?_
        exact rt_l X hr (ad, (cf g ad x sp9 dy la kn re)) B (PO_of B) ⟨rfl, (LJ_e 4 hjua hzua c2 rfl).symm, _, _, hksp1, fun _ _ => rfl, rfl⟩ (Nat.le_of_ble_eq_true rfl) (Nat.le_of_ble_eq_true rfl) dX2_digestPairsOfDates_87
      · refine lv_iconst (v := 0) hx hb dX2_digestPairsOfDates_11 (by decide) ?_
        refine lv_istore (lv' := [(6, .int 0), (5, .int ua), (3, .long da), (0, .ref (ad 0)), (1, .long b1)]) hx hb dX2_digestPairsOfDates_12 hl (by decide) rfl (fun ls hl => ?_)
        have loop3 : ∀ (n3 : Nat) (ub : Int32) (db : Int64) (sp9 : Nat → TR) (H : Heap) (locs : List Loc), ((4 : Int32).toInt - ub.toInt).toNat < n3 → ¬ ub < 0 → LJ 4 (fo (sO dy ua.toNatClampNeg) da) ub db → (∀ j, j < 12 → sp9 j = sp j) → WB g (aw N ad sz) s.heap N ad (cf g ad x sp9 dy la kn re) H locs → ∀ ls : Array Slot, lv_has ls 7 [(6, .int ub), (5, .int ua), (3, .long db), (0, .ref (ad 0)), (1, .long b1)] → W p l e (rm 5 0 0) s m args below meth c H locs 0 0 (MQ below (va_Ql (fun r (u : WS) => (fun r ad' f' => ad = ad' ∧ fo (sQ dy) b1 4 = r ∧ ∃ sp' dy' : Nat → TR, (∀ j, j < 12 → sp' j = sp j) ∧ (∀ j, j < 4 → dy' j = dy j) ∧ cf g ad x sp' dy' la kn re = f') r u.1 u.2) (fun u t => PO g N u.1 u.2 (aw N ad sz) t) (aw N ad sz)) args s (rm 5 0 0).cells (rm 5 0 0).slots (aw N ad sz)) (F0 m 14 ls []) := by
          intro n3
          induction n3 with
          | zero => intro ub db sp9 H locs hn; exact absurd hn (Nat.not_lt_zero _)
          | succ n3 ih3 =>
            intro ub db sp9 H locs hn3 hzub hjub hksp3 B ls hl
            refine lv_iload hx hb dX2_digestPairsOfDates_14 (lv_at hl 0 rfl) ?_
            refine lv_iconst (v := 4) hx hb dX2_digestPairsOfDates_16 (by decide) ?_
            refine lv_icmp_ge (tgt := 80) hx hb dX2_digestPairsOfDates_17 (by decide) (fun c4 => ?_) (fun c4 => ?_)
            · refine lv_iinc (v := ua + 1) (lv' := [(5, .int (ua + 1)), (6, .int ub), (3, .long db), (0, .ref (ad 0)), (1, .long b1)]) hx hb dX2_digestPairsOfDates_80 hl (k := 1) rfl rfl (by decide) rfl (fun ls hl => ?_)
              refine lv_goto (tgt := 5) hx hb dX2_digestPairsOfDates_83 (by decide) ?_
              exact ih1 (ua + 1) db sp9 H locs (fu_le c2 hn1) (inc_nn hzua c2) (LF_s hjua hzua c2 ((LJ_e 4 hjub hzub c4 rfl))) (hksp3) B ls (lv_sub hl [0, 2, 3, 4] rfl)
            · refine lv_lload_n hx hb dX2_digestPairsOfDates_20 rfl (lv_at hl 2 rfl) ?_
              refine lv_aload_n hx hb dX2_digestPairsOfDates_21 rfl (lv_at hl 3 rfl) ?_
              refine g_get (q := 0) (k := 2) X hK B rfl in_X2 (pl_c hN 0 (by decide)) cf_0 (by decide) lk_X2_20 rfl rfl dX2_digestPairsOfDates_22 ?_
              refine lv_iload hx hb dX2_digestPairsOfDates_25 (lv_at hl 1 rfl) ?_
              refine g_aald (q := 3) (t0 := 4) X hK B (pl_c hN 3 (by decide)) cf_3 rfl rfl (ix_in (n := 4) hzua c2 rfl) dX2_digestPairsOfDates_27 ?_
              have h5 : ua.toNatClampNeg < 5 := by have := (ix_lt (n := 4) hzua c2 rfl); omega
              refine lv_aload_n hx hb dX2_digestPairsOfDates_28 rfl (lv_at hl 3 rfl) ?_
              refine g_get (q := 0) (k := 2) X hK B rfl in_X2 (pl_c hN 0 (by decide)) cf_0 (by decide) lk_X2_20 rfl rfl dX2_digestPairsOfDates_29 ?_
              refine lv_iload hx hb dX2_digestPairsOfDates_32 (lv_at hl 0 rfl) ?_
              refine g_aald (q := 3) (t0 := 4) X hK B (pl_c hN 3 (by decide)) cf_3 rfl rfl (ix_in (n := 4) hzub c4 rfl) dX2_digestPairsOfDates_34 ?_
              have h6 : ub.toNatClampNeg < 5 := by have := (ix_lt (n := 4) hzub c4 rfl); omega
              refine k_i (k := 0) (n := 0) hA B (u_VN (rest := [.long db]) X (c_X0_orderTo l g N ad x sp9 dy la kn re hN ua.toNatClampNeg h5 ub.toNatClampNeg h6 H.size) mw_X0_orderTo md_X0_orderTo rfl lk_X2_181 ⟨Nat.le_of_ble_eq_true rfl, Nat.le_of_ble_eq_true rfl⟩ hA hK hT B (pl_dy hN h5) (cf_dy h5) rfl rfl hl.1 rfl (Nat.le_of_ble_eq_true rfl) dX2_digestPairsOfDates_35 ⟨Nat.le_of_ble_eq_true rfl, Nat.le_of_ble_eq_true rfl⟩) (Nat.le_of_ble_eq_true rfl) (Nat.le_of_ble_eq_true rfl) (fun r ad' f' H locs hw B => ?_)
              obtain ⟨rfl, rfl, rfl⟩ := hw
              refine lv_i2l (v := (v_X0_orderTo dy ua.toNatClampNeg ub.toNatClampNeg).toInt64) hx hb dX2_digestPairsOfDates_38 rfl ?_
              refine k_l (k := 0) (n := 0) hA B (u_S (rest := []) X (c_X2_digestNext l g N ad x sp9 dy la kn re hN db ((v_X0_orderTo dy ua.toNatClampNeg ub.toNatClampNeg).toInt64) H.size) mw_X2_digestNext md_X2_digestNext rfl lk_X2_213 ⟨Nat.le_of_ble_eq_true rfl, Nat.le_of_ble_eq_true rfl⟩ hA hK hT B hl.1 rfl (Nat.le_of_ble_eq_true rfl) dX2_digestPairsOfDates_39 ⟨Nat.le_of_ble_eq_true rfl, Nat.le_of_ble_eq_true rfl⟩) (Nat.le_of_ble_eq_true rfl) (Nat.le_of_ble_eq_true rfl) (fun r ad' f' H locs hw B => ?_)
              obtain ⟨rfl, rfl, rfl⟩ := hw
              refine lv_lstore_n (lv' := [(3, .long (v_X2_digestNext db ((v_X0_orderTo dy ua.toNatClampNeg ub.toNatClampNeg).toInt64))), (6, .int ub), (5, .int ua), (0, .ref (ad 0)), (1, .long b1)]) hx hb dX2_digestPairsOfDates_42 rfl hl (by decide) rfl (fun ls hl => ?_)
              refine lv_lload_n hx hb dX2_digestPairsOfDates_43 rfl (lv_at hl 0 rfl) ?_
              refine lv_aload_n hx hb dX2_digestPairsOfDates_44 rfl (lv_at hl 3 rfl) ?_
              refine lv_aload_n hx hb dX2_digestPairsOfDates_45 rfl (lv_at hl 3 rfl) ?_
              refine g_get (q := 0) (k := 6) X hK B rfl in_X2 (pl_c hN 0 (by decide)) cf_0 (by decide) lk_X2_25 rfl rfl dX2_digestPairsOfDates_46 ?_
              refine lv_aload_n hx hb dX2_digestPairsOfDates_49 rfl (lv_at hl 3 rfl) ?_
              refine g_get (q := 0) (k := 2) X hK B rfl in_X2 (pl_c hN 0 (by decide)) cf_0 (by decide) lk_X2_20 rfl rfl dX2_digestPairsOfDates_50 ?_
              refine lv_iload hx hb dX2_digestPairsOfDates_53 (lv_at hl 2 rfl) ?_
              refine g_aald (q := 3) (t0 := 4) X hK B (pl_c hN 3 (by decide)) cf_3 rfl rfl (ix_in (n := 4) hzua c2 rfl) dX2_digestPairsOfDates_55 ?_
              have h9 : ua.toNatClampNeg < 5 := by have := (ix_lt (n := 4) hzua c2 rfl); omega
              refine lv_aload_n hx hb dX2_digestPairsOfDates_56 rfl (lv_at hl 3 rfl) ?_
              refine g_get (q := 0) (k := 2) X hK B rfl in_X2 (pl_c hN 0 (by decide)) cf_0 (by decide) lk_X2_20 rfl rfl dX2_digestPairsOfDates_57 ?_
              refine lv_iload hx hb dX2_digestPairsOfDates_60 (lv_at hl 1 rfl) ?_
              refine g_aald (q := 3) (t0 := 4) X hK B (pl_c hN 3 (by decide)) cf_3 rfl rfl (ix_in (n := 4) hzub c4 rfl) dX2_digestPairsOfDates_62 ?_
              have h10 : ub.toNatClampNeg < 5 := by have := (ix_lt (n := 4) hzub c4 rfl); omega
              refine k_i (k := 0) (n := 0) hA B (u_VN (rest := [.ref (ad 0), .long (v_X2_digestNext db ((v_X0_orderTo dy ua.toNatClampNeg ub.toNatClampNeg).toInt64))]) X (c_X1_putBetween l g N ad x sp9 dy la kn re hN 12 (by decide) ua.toNatClampNeg h9 ub.toNatClampNeg h10 H.size) mw_X1_putBetween md_X1_putBetween rfl lk_X2_173 ⟨Nat.le_of_ble_eq_true rfl, Nat.le_of_ble_eq_true rfl⟩ hA hK hT B (pl_sp hN (by decide)) (cf_sp (by decide)) rfl rfl hl.1 rfl (Nat.le_of_ble_eq_true rfl) dX2_digestPairsOfDates_63 ⟨Nat.le_of_ble_eq_true rfl, Nat.le_of_ble_eq_true rfl⟩) (Nat.le_of_ble_eq_true rfl) (Nat.le_of_ble_eq_true rfl) (fun r ad' f' H locs hw B => ?_)
              obtain ⟨rfl, rfl, rfl⟩ := hw
              have k11 : ∀ j, j < 12 → (v_X1_putBetween sp9 dy 12 ua.toNatClampNeg ub.toNatClampNeg).2 j = sp j := fun j hj => (kp_X1_putBetween_sp (by omega)).trans (hksp3 j hj)
              refine k_i (k := 0) (n := 0) hA B (u_V (rest := [.long (v_X2_digestNext db ((v_X0_orderTo dy ua.toNatClampNeg ub.toNatClampNeg).toInt64))]) X (c_X2_resultSigns l g N ad x (v_X1_putBetween sp9 dy 12 ua.toNatClampNeg ub.toNatClampNeg).2 dy la kn re hN (v_X1_putBetween sp9 dy 12 ua.toNatClampNeg ub.toNatClampNeg).1 H.size) mw_X2_resultSigns md_X2_resultSigns rfl lk_X2_253 ⟨Nat.le_of_ble_eq_true rfl, Nat.le_of_ble_eq_true rfl⟩ hA hK hT B (pl_c hN 0 (by decide)) cf_0 rfl rfl hl.1 rfl (Nat.le_of_ble_eq_true rfl) dX2_digestPairsOfDates_66 ⟨Nat.le_of_ble_eq_true rfl, Nat.le_of_ble_eq_true rfl⟩) (Nat.le_of_ble_eq_true rfl) (Nat.le_of_ble_eq_true rfl) (fun r ad' f' H locs hw B => ?_)
              obtain ⟨rfl, rfl, rfl⟩ := hw
              refine lv_i2l (v := (v_X2_resultSigns (v_X1_putBetween sp9 dy 12 ua.toNatClampNeg ub.toNatClampNeg).2 (v_X1_putBetween sp9 dy 12 ua.toNatClampNeg ub.toNatClampNeg).1).toInt64) hx hb dX2_digestPairsOfDates_69 rfl ?_
              refine k_l (k := 0) (n := 0) hA B (u_S (rest := []) X (c_X2_digestNext l g N ad x (v_X1_putBetween sp9 dy 12 ua.toNatClampNeg ub.toNatClampNeg).2 dy la kn re hN (v_X2_digestNext db ((v_X0_orderTo dy ua.toNatClampNeg ub.toNatClampNeg).toInt64)) ((v_X2_resultSigns (v_X1_putBetween sp9 dy 12 ua.toNatClampNeg ub.toNatClampNeg).2 (v_X1_putBetween sp9 dy 12 ua.toNatClampNeg ub.toNatClampNeg).1).toInt64) H.size) mw_X2_digestNext md_X2_digestNext rfl lk_X2_213 ⟨Nat.le_of_ble_eq_true rfl, Nat.le_of_ble_eq_true rfl⟩ hA hK hT B hl.1 rfl (Nat.le_of_ble_eq_true rfl) dX2_digestPairsOfDates_70 ⟨Nat.le_of_ble_eq_true rfl, Nat.le_of_ble_eq_true rfl⟩) (Nat.le_of_ble_eq_true rfl) (Nat.le_of_ble_eq_true rfl) (fun r ad' f' H locs hw B => ?_)
              obtain ⟨rfl, rfl, rfl⟩ := hw
              refine lv_lstore_n (lv' := [(3, .long (v_X2_digestNext (v_X2_digestNext db ((v_X0_orderTo dy ua.toNatClampNeg ub.toNatClampNeg).toInt64)) ((v_X2_resultSigns (v_X1_putBetween sp9 dy 12 ua.toNatClampNeg ub.toNatClampNeg).2 (v_X1_putBetween sp9 dy 12 ua.toNatClampNeg ub.toNatClampNeg).1).toInt64))), (6, .int ub), (5, .int ua), (0, .ref (ad 0)), (1, .long b1)]) hx hb dX2_digestPairsOfDates_73 rfl hl (by decide) rfl (fun ls hl => ?_)
              refine lv_iinc (v := ub + 1) (lv' := [(6, .int (ub + 1)), (3, .long (v_X2_digestNext (v_X2_digestNext db ((v_X0_orderTo dy ua.toNatClampNeg ub.toNatClampNeg).toInt64)) ((v_X2_resultSigns (v_X1_putBetween sp9 dy 12 ua.toNatClampNeg ub.toNatClampNeg).2 (v_X1_putBetween sp9 dy 12 ua.toNatClampNeg ub.toNatClampNeg).1).toInt64))), (5, .int ua), (0, .ref (ad 0)), (1, .long b1)]) hx hb dX2_digestPairsOfDates_74 hl (k := 1) rfl rfl (by decide) rfl (fun ls hl => ?_)
              refine lv_goto (tgt := 14) hx hb dX2_digestPairsOfDates_77 (by decide) ?_
              exact ih3 (ub + 1) (v_X2_digestNext (v_X2_digestNext db ((v_X0_orderTo dy ua.toNatClampNeg ub.toNatClampNeg).toInt64)) ((v_X2_resultSigns (v_X1_putBetween sp9 dy 12 ua.toNatClampNeg ub.toNatClampNeg).2 (v_X1_putBetween sp9 dy 12 ua.toNatClampNeg ub.toNatClampNeg).1).toInt64)) (v_X1_putBetween sp9 dy 12 ua.toNatClampNeg ub.toNatClampNeg).2 H locs (fu_le c4 hn3) (inc_nn hzub c4) (LF_s hjub hzub c4 (dO_leaf hov (ix_lt (n := 4) hzua c2 rfl) (ix_lt (n := 4) hzub c4 rfl))) (k11) B ls (lv_sub hl [0, 2, 1, 3, 4] rfl)
        exact loop3 (((4 : Int32).toInt - (0 : Int32).toInt).toNat + 1) 0 da sp9 H locs (Nat.lt_succ_self _) (by decide) (LF_0 (by decide)) (hksp1) B ls hl
  exact loop1 (((4 : Int32).toInt - (0 : Int32).toInt).toNat + 1) 0 b1 sp H locs (Nat.lt_succ_self _) (by decide) (LF_0 (by decide)) (fun _ _ => rfl) B ls hl
set_option maxHeartbeats 4000000 in
set_option maxRecDepth 100000 in
theorem c1_X2_digest (l : Launch) (g : GG) (N : Nat) (ad : Nat → Nat) (x : Nat → va_E) (sp dy : Nat → TR) (la kn re : Int32) (hN : 23 ≤ N) (hla : ¬ la < 0) (hlb : ¬ 8 < la) (cr dr pl : Nat → TR) (rf : Int32) (pz : Nat) (hR : Rq sp dy la re cr dr rf pl pz) : KL l yX2_digest cX2_digest 4 (rm 6 0 0) g [.ref (ad 0)] N ad (cf g ad x sp dy la kn re) N (fun r ad' f' => ad = ad' ∧ dG cr dr kn rf pl pz = r ∧ ∃ sp' dy' : Nat → TR, (∀ j, j < 12 → sp' j = sp j) ∧ (∀ j, j < 4 → dy' j = dy j) ∧ cf g ad x sp' dy' la kn re = f') := by
  intro sz
  refine mt_start (by decide) (Nat.le_of_ble_eq_true rfl) ?_
  intro p e s m args below meth c hsz X hr hnam hA hK hT H locs B ls hl
  obtain ⟨hx, hb, hml, hown, hts, hlocks⟩ := id X
  have hl : lv_has ls 4 [(0, .ref (ad 0))] := hl
  refine lv_ldc2 hx hb hown (hts _ (List.mem_cons_of_mem _ lk_X2_200)) dX2_digest_0 ?_
  refine lv_lstore_n (lv' := [(1, .long 6217), (0, .ref (ad 0))]) hx hb dX2_digest_3 rfl hl (by decide) rfl (fun ls hl => ?_)
  refine lv_iconst (v := 0) hx hb dX2_digest_4 (by decide) ?_
  refine lv_istore_n (lv' := [(3, .int 0), (1, .long 6217), (0, .ref (ad 0))]) hx hb dX2_digest_5 rfl hl (by decide) rfl (fun ls hl => ?_)
  have loop1 : ∀ (n1 : Nat) (ua : Int32) (da : Int64) (sp9 : Nat → TR) (dy9 : Nat → TR) (H : Heap) (locs : List Loc), ((4 : Int32).toInt - ua.toInt).toNat < n1 → ¬ ua < 0 → LJ 4 (fo (sA cr) 6217) ua da → (∀ j, j < 12 → sp9 j = sp j) → (∀ j, j < 4 → dy9 j = dy j) → WB g (aw N ad sz) s.heap N ad (cf g ad x sp9 dy9 la kn re) H locs → ∀ ls : Array Slot, lv_has ls 4 [(3, .int ua), (1, .long da), (0, .ref (ad 0))] → W p l e (rm 6 0 0) s m args below meth c H locs 0 0 (MQ below (va_Ql (fun r (u : WS) => (fun r ad' f' => ad = ad' ∧ dG cr dr kn rf pl pz = r ∧ ∃ sp' dy' : Nat → TR, (∀ j, j < 12 → sp' j = sp j) ∧ (∀ j, j < 4 → dy' j = dy j) ∧ cf g ad x sp' dy' la kn re = f') r u.1 u.2) (fun u t => PO g N u.1 u.2 (aw N ad sz) t) (aw N ad sz)) args s (rm 6 0 0).cells (rm 6 0 0).slots (aw N ad sz)) (F0 m 6 ls []) := by
    intro n1
    induction n1 with
    | zero => intro ua da sp9 dy9 H locs hn; exact absurd hn (Nat.not_lt_zero _)
    | succ n1 ih1 =>
      intro ua da sp9 dy9 H locs hn1 hzua hjua hksp1 hkdy1 B ls hl
      refine lv_iload_n hx hb dX2_digest_6 rfl (lv_at hl 0 rfl) ?_
      refine lv_iconst (v := 4) hx hb dX2_digest_7 (by decide) ?_
      refine lv_icmp_ge (tgt := 29) hx hb dX2_digest_8 (by decide) (fun c2 => ?_) (fun c2 => ?_)
      · refine lv_aload_n hx hb dX2_digest_29 rfl (lv_at hl 2 rfl) ?_
        refine lv_lload_n hx hb dX2_digest_30 rfl (lv_at hl 1 rfl) ?_
        refine k_l (k := 0) (n := 0) hA B (u_V (rest := []) X (c1_X2_digestPairsOfCards l g N ad x sp9 dy9 la kn re hN da H.size) mw_X2_digestPairsOfCards md_X2_digestPairsOfCards rfl lk_X2_206 ⟨Nat.le_of_ble_eq_true rfl, Nat.le_of_ble_eq_true rfl⟩ hA hK hT B (pl_c hN 0 (by decide)) cf_0 rfl rfl hl.1 rfl (Nat.le_of_ble_eq_true rfl) dX2_digest_31 ⟨Nat.le_of_ble_eq_true rfl, Nat.le_of_ble_eq_true rfl⟩) (Nat.le_of_ble_eq_true rfl) (Nat.le_of_ble_eq_true rfl) (fun r3 ad' f' H locs hw B => ?_)
        obtain ⟨rfl, rfl, sp3, dy3, k3, e3, rfl⟩ := hw
        have k3 : ∀ j, j < 12 → sp3 j = sp j := fun j hj => (k3 j hj).trans (hksp1 j hj)
        have e3 : ∀ j, j < 4 → dy3 j = dy j := fun j hj => (e3 j hj).trans (hkdy1 j hj)
        refine lv_lstore_n (lv' := [(1, .long (fo (sM sp9) da 4)), (3, .int ua), (0, .ref (ad 0))]) hx hb dX2_digest_34 rfl hl (by decide) rfl (fun ls hl => ?_)
        refine lv_iconst (v := 0) hx hb dX2_digest_35 (by decide) ?_
        refine lv_istore_n (lv' := [(3, .int 0), (1, .long (fo (sM sp9) da 4)), (0, .ref (ad 0))]) hx hb dX2_digest_36 rfl hl (by decide) rfl (fun ls hl => ?_)
        have loop4 : ∀ (n4 : Nat) (uc : Int32) (dc : Int64) (H : Heap) (locs : List Loc), ((8 : Int32).toInt - uc.toInt).toNat < n4 → ¬ uc < 0 → LJ 8 (fo (sP pl pz) (fo (sM cr) (fo (sA cr) 6217 4) 4)) uc dc → WB g (aw N ad sz) s.heap N ad (cf g ad x sp3 dy3 la kn re) H locs → ∀ ls : Array Slot, lv_has ls 4 [(3, .int uc), (1, .long dc), (0, .ref (ad 0))] → W p l e (rm 6 0 0) s m args below meth c H locs 0 0 (MQ below (va_Ql (fun r (u : WS) => (fun r ad' f' => ad = ad' ∧ dG cr dr kn rf pl pz = r ∧ ∃ sp' dy' : Nat → TR, (∀ j, j < 12 → sp' j = sp j) ∧ (∀ j, j < 4 → dy' j = dy j) ∧ cf g ad x sp' dy' la kn re = f') r u.1 u.2) (fun u t => PO g N u.1 u.2 (aw N ad sz) t) (aw N ad sz)) args s (rm 6 0 0).cells (rm 6 0 0).slots (aw N ad sz)) (F0 m 37 ls []) := by
          intro n4
          induction n4 with
          | zero => intro uc dc H locs hn; exact absurd hn (Nat.not_lt_zero _)
          | succ n4 ih4 =>
            intro uc dc H locs hn4 hzuc hjuc B ls hl
            refine lv_iload_n hx hb dX2_digest_37 rfl (lv_at hl 0 rfl) ?_
            refine lv_bipush (v := 8) hx hb dX2_digest_38 (by decide) ?_
            refine lv_icmp_ge (tgt := 76) hx hb dX2_digest_40 (by decide) (fun c5 => ?_) (fun c5 => ?_)
            · refine lv_iconst (v := 0) hx hb dX2_digest_76 (by decide) ?_
              refine lv_istore_n (lv' := [(3, .int 0), (1, .long dc), (0, .ref (ad 0))]) hx hb dX2_digest_77 rfl hl (by decide) rfl (fun ls hl => ?_)
              have loop6 : ∀ (n6 : Nat) (ud : Int32) (dd : Int64) (sp9 : Nat → TR) (dy9 : Nat → TR) (H : Heap) (locs : List Loc), ((4 : Int32).toInt - ud.toInt).toNat < n6 → ¬ ud < 0 → LJ 4 (fo (sF cr dr) (fo (sP pl pz) (fo (sM cr) (fo (sA cr) 6217 4) 4) 8)) ud dd → (∀ j, j < 12 → sp9 j = sp j) → (∀ j, j < 4 → dy9 j = dy j) → WB g (aw N ad sz) s.heap N ad (cf g ad x sp9 dy9 la kn re) H locs → ∀ ls : Array Slot, lv_has ls 4 [(3, .int ud), (1, .long dd), (0, .ref (ad 0))] → W p l e (rm 6 0 0) s m args below meth c H locs 0 0 (MQ below (va_Ql (fun r (u : WS) => (fun r ad' f' => ad = ad' ∧ dG cr dr kn rf pl pz = r ∧ ∃ sp' dy' : Nat → TR, (∀ j, j < 12 → sp' j = sp j) ∧ (∀ j, j < 4 → dy' j = dy j) ∧ cf g ad x sp' dy' la kn re = f') r u.1 u.2) (fun u t => PO g N u.1 u.2 (aw N ad sz) t) (aw N ad sz)) args s (rm 6 0 0).cells (rm 6 0 0).slots (aw N ad sz)) (F0 m 78 ls []) := by
                intro n6
                induction n6 with
                | zero => intro ud dd sp9 dy9 H locs hn; exact absurd hn (Nat.not_lt_zero _)
                | succ n6 ih6 =>
                  intro ud dd sp9 dy9 H locs hn6 hzud hjud hksp6 hkdy6 B ls hl
                  refine lv_iload_n hx hb dX2_digest_78 rfl (lv_at hl 0 rfl) ?_
                  refine lv_iconst (v := 4) hx hb dX2_digest_79 (by decide) ?_
                  refine lv_icmp_ge (tgt := 101) hx hb dX2_digest_80 (by decide) (fun c7 => ?_) (fun c7 => ?_)
                  · refine lv_aload_n hx hb dX2_digest_101 rfl (lv_at hl 2 rfl) ?_
                    refine lv_lload_n hx hb dX2_digest_102 rfl (lv_at hl 1 rfl) ?_
                    refine k_l (k := 0) (n := 0) hA B (u_V (rest := []) X (c1_X2_digestPairsOfDates l g N ad x sp9 dy9 la kn re hN (fun i hi => by rw [(hkdy6) i hi]; exact (RL_d hR hi).1) dd H.size) mw_X2_digestPairsOfDates md_X2_digestPairsOfDates rfl lk_X2_221 ⟨Nat.le_of_ble_eq_true rfl, Nat.le_of_ble_eq_true rfl⟩ hA hK hT B (pl_c hN 0 (by decide)) cf_0 rfl rfl hl.1 rfl (Nat.le_of_ble_eq_true rfl) dX2_digest_103 ⟨Nat.le_of_ble_eq_true rfl, Nat.le_of_ble_eq_true rfl⟩) (Nat.le_of_ble_eq_true rfl) (Nat.le_of_ble_eq_true rfl) (fun r8 ad' f' H locs hw B => ?_)
                    obtain ⟨rfl, rfl, sp8, dy8, k8, e8, rfl⟩ := hw
                    have k8 : ∀ j, j < 12 → sp8 j = sp j := fun j hj => (k8 j hj).trans (hksp6 j hj)
                    have e8 : ∀ j, j < 4 → dy8 j = dy j := fun j hj => (e8 j hj).trans (hkdy6 j hj)
                    refine lv_lstore_n (lv' := [(1, .long (fo (sQ dy9) dd 4)), (3, .int ud), (0, .ref (ad 0))]) hx hb dX2_digest_106 rfl hl (by decide) rfl (fun ls hl => ?_)
                    refine lv_iconst (v := 0) hx hb dX2_digest_107 (by decide) ?_
                    refine lv_istore_n (lv' := [(3, .int 0), (1, .long (fo (sQ dy9) dd 4)), (0, .ref (ad 0))]) hx hb dX2_digest_108 rfl hl (by decide) rfl (fun ls hl => ?_)
                    have loop9 : ∀ (n9 : Nat) (ue : Int32) (de : Int64) (H : Heap) (locs : List Loc), ((5 : Int32).toInt - ue.toInt).toNat < n9 → ¬ ue < 0 → LJ 5 (fo (sH cr kn rf pz) (fo (sQ dr) (fo (sF cr dr) (fo (sP pl pz) (fo (sM cr) (fo (sA cr) 6217 4) 4) 8) 4) 4)) ue de → WB g (aw N ad sz) s.heap N ad (cf g ad x sp8 dy8 la kn re) H locs → ∀ ls : Array Slot, lv_has ls 4 [(3, .int ue), (1, .long de), (0, .ref (ad 0))] → W p l e (rm 6 0 0) s m args below meth c H locs 0 0 (MQ below (va_Ql (fun r (u : WS) => (fun r ad' f' => ad = ad' ∧ dG cr dr kn rf pl pz = r ∧ ∃ sp' dy' : Nat → TR, (∀ j, j < 12 → sp' j = sp j) ∧ (∀ j, j < 4 → dy' j = dy j) ∧ cf g ad x sp' dy' la kn re = f') r u.1 u.2) (fun u t => PO g N u.1 u.2 (aw N ad sz) t) (aw N ad sz)) args s (rm 6 0 0).cells (rm 6 0 0).slots (aw N ad sz)) (F0 m 109 ls []) := by
                      intro n9
                      induction n9 with
                      | zero => intro ue de H locs hn; exact absurd hn (Nat.not_lt_zero _)
                      | succ n9 ih9 =>
                        intro ue de H locs hn9 hzue hjue B ls hl
                        refine lv_iload_n hx hb dX2_digest_109 rfl (lv_at hl 0 rfl) ?_
                        refine lv_iconst (v := 5) hx hb dX2_digest_110 (by decide) ?_
                        refine lv_icmp_ge (tgt := 131) hx hb dX2_digest_111 (by decide) (fun c10 => ?_) (fun c10 => ?_)
                        · refine lv_lload_n hx hb dX2_digest_131 rfl (lv_at hl 1 rfl) ?_
                          refine lv_aload_n hx hb dX2_digest_132 rfl (lv_at hl 2 rfl) ?_
                          refine k_i (k := 0) (n := 0) hA B (u_V (rest := [.long de]) X (ce_X2_isSound l g N ad x sp8 dy8 la kn re hN (fun i hi => by rw [(e8) i hi]; exact (RL_d hR hi).1) H.size) mw_X2_isSound md_X2_isSound rfl lk_X2_224 ⟨Nat.le_of_ble_eq_true rfl, Nat.le_of_ble_eq_true rfl⟩ hA hK hT B (pl_c hN 0 (by decide)) cf_0 rfl rfl hl.1 rfl (Nat.le_of_ble_eq_true rfl) dX2_digest_133 ⟨Nat.le_of_ble_eq_true rfl, Nat.le_of_ble_eq_true rfl⟩) (Nat.le_of_ble_eq_true rfl) (Nat.le_of_ble_eq_true rfl) (fun r11 ad' f' H locs hw B => ?_)
                          obtain ⟨rfl, rfl, sp11, dy11, k11, e11, rfl⟩ := hw
                          have k11 : ∀ j, j < 12 → sp11 j = sp j := fun j hj => (k11 j hj).trans (k8 j hj)
                          have e11 : ∀ j, j < 4 → dy11 j = dy j := fun j hj => (e11 j hj).trans (e8 j hj)
                          refine lv_if_eq (tgt := 143) hx hb dX2_digest_136 (by decide) (fun z => absurd z (by decide)) (fun _ => ?_)
                          refine lv_lconst (v := 1) hx hb dX2_digest_139 (by decide) ?_
                          refine lv_goto (tgt := 144) hx hb dX2_digest_140 (by decide) ?_
                          refine k_l (k := 0) (n := 0) hA B (u_S (rest := []) X (c_X2_digestNext l g N ad x sp11 dy11 la kn re hN de 1 H.size) mw_X2_digestNext md_X2_digestNext rfl lk_X2_213 ⟨Nat.le_of_ble_eq_true rfl, Nat.le_of_ble_eq_true rfl⟩ hA hK hT B hl.1 rfl (Nat.le_of_ble_eq_true rfl) dX2_digest_144 ⟨Nat.le_of_ble_eq_true rfl, Nat.le_of_ble_eq_true rfl⟩) (Nat.le_of_ble_eq_true rfl) (Nat.le_of_ble_eq_true rfl) (fun r ad' f' H locs hw B => ?_)
                          obtain ⟨rfl, rfl, rfl⟩ := hw
                          exact rt_l X hr (ad, (cf g ad x sp11 dy11 la kn re)) B (PO_of B) ⟨rfl, (by rw [dG_e, (LJ_e 5 hjue hzue c10 rfl)]), _, _, k11, e11, rfl⟩ (Nat.le_of_ble_eq_true rfl) (Nat.le_of_ble_eq_true rfl) dX2_digest_147
                        · refine lv_lload_n hx hb dX2_digest_114 rfl (lv_at hl 1 rfl) ?_
                          refine lv_aload_n hx hb dX2_digest_115 rfl (lv_at hl 2 rfl) ?_
                          refine lv_iload_n hx hb dX2_digest_116 rfl (lv_at hl 0 rfl) ?_
                          refine k_i (k := 0) (n := 0) hA B (u_V (rest := [.long de]) X (c_X2_ofHouse l g N ad x sp8 dy8 la kn re hN ue H.size) mw_X2_ofHouse md_X2_ofHouse rfl lk_X2_188 ⟨Nat.le_of_ble_eq_true rfl, Nat.le_of_ble_eq_true rfl⟩ hA hK hT B (pl_c hN 0 (by decide)) cf_0 rfl rfl hl.1 rfl (Nat.le_of_ble_eq_true rfl) dX2_digest_117 ⟨Nat.le_of_ble_eq_true rfl, Nat.le_of_ble_eq_true rfl⟩) (Nat.le_of_ble_eq_true rfl) (Nat.le_of_ble_eq_true rfl) (fun r ad' f' H locs hw B => ?_)
                          obtain ⟨rfl, rfl, rfl⟩ := hw
                          refine lv_i2l (v := (v_X2_ofHouse sp8 la kn re ue).toInt64) hx hb dX2_digest_120 rfl ?_
                          refine k_l (k := 0) (n := 0) hA B (u_S (rest := []) X (c_X2_digestNext l g N ad x sp8 dy8 la kn re hN de ((v_X2_ofHouse sp8 la kn re ue).toInt64) H.size) mw_X2_digestNext md_X2_digestNext rfl lk_X2_213 ⟨Nat.le_of_ble_eq_true rfl, Nat.le_of_ble_eq_true rfl⟩ hA hK hT B hl.1 rfl (Nat.le_of_ble_eq_true rfl) dX2_digest_121 ⟨Nat.le_of_ble_eq_true rfl, Nat.le_of_ble_eq_true rfl⟩) (Nat.le_of_ble_eq_true rfl) (Nat.le_of_ble_eq_true rfl) (fun r ad' f' H locs hw B => ?_)
                          obtain ⟨rfl, rfl, rfl⟩ := hw
                          refine lv_lstore_n (lv' := [(1, .long (v_X2_digestNext de ((v_X2_ofHouse sp8 la kn re ue).toInt64))), (3, .int ue), (0, .ref (ad 0))]) hx hb dX2_digest_124 rfl hl (by decide) rfl (fun ls hl => ?_)
                          refine lv_iinc (v := ue + 1) (lv' := [(3, .int (ue + 1)), (1, .long (v_X2_digestNext de ((v_X2_ofHouse sp8 la kn re ue).toInt64))), (0, .ref (ad 0))]) hx hb dX2_digest_125 hl (k := 1) rfl rfl (by decide) rfl (fun ls hl => ?_)
                          refine lv_goto (tgt := 109) hx hb dX2_digest_128 (by decide) ?_
                          exact ih9 (ue + 1) (v_X2_digestNext de ((v_X2_ofHouse sp8 la kn re ue).toInt64)) H locs (fu_le c10 hn9) (inc_nn hzue c10) (LF_s hjue hzue c10 (sH_1 hR (k8) hzue c10)) B ls (lv_sub hl [0, 1, 2] rfl)
                    exact loop9 (((5 : Int32).toInt - (0 : Int32).toInt).toNat + 1) 0 (fo (sQ dy9) dd 4) H locs (Nat.lt_succ_self _) (by decide) (LF_i (by decide) (by rw [sQQ_cg (fun j hj => (hkdy6 j hj).trans (hR.2.1 j hj)), (LJ_e 4 hjud hzud c7 rfl)])) B ls hl
                  · refine lv_aload_n hx hb dX2_digest_83 rfl (lv_at hl 2 rfl) ?_
                    refine lv_lload_n hx hb dX2_digest_84 rfl (lv_at hl 1 rfl) ?_
                    refine lv_aload_n hx hb dX2_digest_85 rfl (lv_at hl 2 rfl) ?_
                    refine g_get (q := 0) (k := 2) X hK B rfl in_X2 (pl_c hN 0 (by decide)) cf_0 (by decide) lk_X2_20 rfl rfl dX2_digest_86 ?_
                    refine lv_iload_n hx hb dX2_digest_89 rfl (lv_at hl 0 rfl) ?_
                    refine g_aald (q := 3) (t0 := 4) X hK B (pl_c hN 3 (by decide)) cf_3 rfl rfl (ix_in (n := 4) hzud c7 rfl) dX2_digest_90 ?_
                    have h15 : ud.toNatClampNeg < 5 := by have := (ix_lt (n := 4) hzud c7 rfl); omega
                    refine k_l (k := 0) (n := 0) hA B (u_V (rest := []) X (c1_X2_digestDate l g N ad x sp9 dy9 la kn re hN (fun i hi => by rw [(hkdy6) i hi]; exact (RL_d hR hi).1) dd ud.toNatClampNeg h15 (ix_lt (n := 4) hzud c7 rfl) H.size) mw_X2_digestDate md_X2_digestDate rfl lk_X2_217 ⟨Nat.le_of_ble_eq_true rfl, Nat.le_of_ble_eq_true rfl⟩ hA hK hT B (pl_c hN 0 (by decide)) cf_0 rfl rfl hl.1 rfl (Nat.le_of_ble_eq_true rfl) dX2_digest_91 ⟨Nat.le_of_ble_eq_true rfl, Nat.le_of_ble_eq_true rfl⟩) (Nat.le_of_ble_eq_true rfl) (Nat.le_of_ble_eq_true rfl) (fun r16 ad' f' H locs hw B => ?_)
                    obtain ⟨rfl, rfl, sp16, dy16, k16, e16, rfl⟩ := hw
                    have k16 : ∀ j, j < 12 → sp16 j = sp j := fun j hj => (k16 j hj).trans (hksp6 j hj)
                    have e16 : ∀ j, j < 4 → dy16 j = dy j := fun j hj => (e16 j hj).trans (hkdy6 j hj)
                    refine lv_lstore_n (lv' := [(1, .long (sF sp9 dy9 ud.toNatClampNeg dd)), (3, .int ud), (0, .ref (ad 0))]) hx hb dX2_digest_94 rfl hl (by decide) rfl (fun ls hl => ?_)
                    refine lv_iinc (v := ud + 1) (lv' := [(3, .int (ud + 1)), (1, .long (sF sp9 dy9 ud.toNatClampNeg dd)), (0, .ref (ad 0))]) hx hb dX2_digest_95 hl (k := 1) rfl rfl (by decide) rfl (fun ls hl => ?_)
                    refine lv_goto (tgt := 78) hx hb dX2_digest_98 (by decide) ?_
                    exact ih6 (ud + 1) (sF sp9 dy9 ud.toNatClampNeg dd) sp16 dy16 H locs (fu_le c7 hn6) (inc_nn hzud c7) (LF_s hjud hzud c7 (sF_cg ((fun j hj => (hkdy6 j hj).trans (hR.2.1 j hj)) _ (ix_lt (n := 4) hzud c7 rfl)) (fun j hj => (hksp6 j (Nat.lt_of_lt_of_le hj (by decide))).trans (hR.1 j hj)))) (k16) (e16) B ls (lv_sub hl [0, 1, 2] rfl)
              exact loop6 (((4 : Int32).toInt - (0 : Int32).toInt).toNat + 1) 0 dc sp3 dy3 H locs (Nat.lt_succ_self _) (by decide) (LF_i (by decide) (LJ_e 8 hjuc hzuc c5 rfl)) (k3) (e3) B ls hl
            · refine lv_lload_n hx hb dX2_digest_43 rfl (lv_at hl 1 rfl) ?_
              refine lv_iload_n hx hb dX2_digest_44 rfl (lv_at hl 0 rfl) ?_
              refine lv_aload_n hx hb dX2_digest_45 rfl (lv_at hl 2 rfl) ?_
              refine g_get (q := 0) (k := 3) X hK B rfl in_X2 (pl_c hN 0 (by decide)) cf_0 (by decide) lk_X2_91 rfl rfl dX2_digest_46 ?_
              refine lv_icmp_ge (tgt := 65) hx hb dX2_digest_49 (by decide) (fun c17 => ?_) (fun c17 => ?_)
              · refine lv_lconst (v := 0) hx hb dX2_digest_65 (by decide) ?_
                refine k_l (k := 0) (n := 0) hA B (u_S (rest := []) X (c_X2_digestNext l g N ad x sp3 dy3 la kn re hN dc 0 H.size) mw_X2_digestNext md_X2_digestNext rfl lk_X2_213 ⟨Nat.le_of_ble_eq_true rfl, Nat.le_of_ble_eq_true rfl⟩ hA hK hT B hl.1 rfl (Nat.le_of_ble_eq_true rfl) dX2_digest_66 ⟨Nat.le_of_ble_eq_true rfl, Nat.le_of_ble_eq_true rfl⟩) (Nat.le_of_ble_eq_true rfl) (Nat.le_of_ble_eq_true rfl) (fun r ad' f' H locs hw B => ?_)
                obtain ⟨rfl, rfl, rfl⟩ := hw
                refine lv_lstore_n (lv' := [(1, .long (v_X2_digestNext dc 0)), (3, .int uc), (0, .ref (ad 0))]) hx hb dX2_digest_69 rfl hl (by decide) rfl (fun ls hl => ?_)
                refine lv_iinc (v := uc + 1) (lv' := [(3, .int (uc + 1)), (1, .long (v_X2_digestNext dc 0)), (0, .ref (ad 0))]) hx hb dX2_digest_70 hl (k := 1) rfl rfl (by decide) rfl (fun ls hl => ?_)
                refine lv_goto (tgt := 37) hx hb dX2_digest_73 (by decide) ?_
                exact ih4 (uc + 1) (v_X2_digestNext dc 0) H locs (fu_le c5 hn4) (inc_nn hzuc c5) (LF_s hjuc hzuc c5 (sP_0 hR hzuc c5 c17)) B ls (lv_sub hl [0, 1, 2] rfl)
              · refine lv_aload_n hx hb dX2_digest_52 rfl (lv_at hl 2 rfl) ?_
                refine g_get (q := 0) (k := 1) X hK B rfl in_X2 (pl_c hN 0 (by decide)) cf_0 (by decide) lk_X2_15 rfl rfl dX2_digest_53 ?_
                refine lv_iload_n hx hb dX2_digest_56 rfl (lv_at hl 0 rfl) ?_
                refine g_aald (q := 2) (t0 := 3) X hK B (pl_c hN 2 (by decide)) cf_2 rfl rfl (ix_in (n := 8) hzuc c5 rfl) dX2_digest_57 ?_
                have h19 : 4 + uc.toNatClampNeg < 14 := by have := (ix_lt (n := 8) hzuc c5 rfl); omega
                rw [show va_rf (some (ad (8 + uc.toNatClampNeg))) = Value.ref (ad (4 + (4 + uc.toNatClampNeg))) from by rw [← Nat.add_assoc]; rfl]
                refine k_i (k := 0) (n := 0) hA B (u_VN (rest := [.long dc]) X (c_X1_signs l g N ad x sp3 dy3 la kn re hN (4 + uc.toNatClampNeg) h19 H.size) mw_X1_signs md_X1_signs rfl lk_X2_210 ⟨Nat.le_of_ble_eq_true rfl, Nat.le_of_ble_eq_true rfl⟩ hA hK hT B (pl_sp hN h19) (cf_sp h19) rfl rfl hl.1 rfl (Nat.le_of_ble_eq_true rfl) dX2_digest_58 ⟨Nat.le_of_ble_eq_true rfl, Nat.le_of_ble_eq_true rfl⟩) (Nat.le_of_ble_eq_true rfl) (Nat.le_of_ble_eq_true rfl) (fun r ad' f' H locs hw B => ?_)
                obtain ⟨rfl, rfl, rfl⟩ := hw
                refine lv_i2l (v := (v_X1_signs sp3 (4 + uc.toNatClampNeg)).toInt64) hx hb dX2_digest_61 rfl ?_
                refine lv_goto (tgt := 66) hx hb dX2_digest_62 (by decide) ?_
                refine k_l (k := 0) (n := 0) hA B (u_S (rest := []) X (c_X2_digestNext l g N ad x sp3 dy3 la kn re hN dc ((v_X1_signs sp3 (4 + uc.toNatClampNeg)).toInt64) H.size) mw_X2_digestNext md_X2_digestNext rfl lk_X2_213 ⟨Nat.le_of_ble_eq_true rfl, Nat.le_of_ble_eq_true rfl⟩ hA hK hT B hl.1 rfl (Nat.le_of_ble_eq_true rfl) dX2_digest_66 ⟨Nat.le_of_ble_eq_true rfl, Nat.le_of_ble_eq_true rfl⟩) (Nat.le_of_ble_eq_true rfl) (Nat.le_of_ble_eq_true rfl) (fun r ad' f' H locs hw B => ?_)
                obtain ⟨rfl, rfl, rfl⟩ := hw
                refine lv_lstore_n (lv' := [(1, .long (v_X2_digestNext dc ((v_X1_signs sp3 (4 + uc.toNatClampNeg)).toInt64))), (3, .int uc), (0, .ref (ad 0))]) hx hb dX2_digest_69 rfl hl (by decide) rfl (fun ls hl => ?_)
                refine lv_iinc (v := uc + 1) (lv' := [(3, .int (uc + 1)), (1, .long (v_X2_digestNext dc ((v_X1_signs sp3 (4 + uc.toNatClampNeg)).toInt64))), (0, .ref (ad 0))]) hx hb dX2_digest_70 hl (k := 1) rfl rfl (by decide) rfl (fun ls hl => ?_)
                refine lv_goto (tgt := 37) hx hb dX2_digest_73 (by decide) ?_
                exact ih4 (uc + 1) (v_X2_digestNext dc ((v_X1_signs sp3 (4 + uc.toNatClampNeg)).toInt64)) H locs (fu_le c5 hn4) (inc_nn hzuc c5) (LF_s hjuc hzuc c5 (sP_1 hR (k3) hzuc c5 c17)) B ls (lv_sub hl [0, 1, 2] rfl)
        exact loop4 (((8 : Int32).toInt - (0 : Int32).toInt).toNat + 1) 0 (fo (sM sp9) da 4) H locs (Nat.lt_succ_self _) (by decide) (LF_i (by decide) (by rw [sMM_cg (fun j hj => (hksp1 j (Nat.lt_of_lt_of_le hj (by decide))).trans (hR.1 j hj)), (LJ_e 4 hjua hzua c2 rfl)])) B ls hl
      · refine lv_aload_n hx hb dX2_digest_11 rfl (lv_at hl 2 rfl) ?_
        refine lv_lload_n hx hb dX2_digest_12 rfl (lv_at hl 1 rfl) ?_
        refine lv_aload_n hx hb dX2_digest_13 rfl (lv_at hl 2 rfl) ?_
        refine g_get (q := 0) (k := 0) X hK B rfl in_X2 (pl_c hN 0 (by decide)) cf_0 (by decide) lk_X2_11 rfl rfl dX2_digest_14 ?_
        refine lv_iload_n hx hb dX2_digest_17 rfl (lv_at hl 0 rfl) ?_
        refine g_aald (q := 1) (t0 := 3) X hK B (pl_c hN 1 (by decide)) cf_1 rfl rfl (ix_in (n := 4) hzua c2 rfl) dX2_digest_18 ?_
        have h22 : ua.toNatClampNeg < 14 := by have := (ix_lt (n := 4) hzua c2 rfl); omega
        refine k_l (k := 0) (n := 0) hA B (u_V (rest := []) X (c1_X2_digestCard l g N ad x sp9 dy9 la kn re hN da ua.toNatClampNeg h22 (Nat.lt_of_lt_of_le (ix_lt (n := 4) hzua c2 rfl) (by decide)) H.size) mw_X2_digestCard md_X2_digestCard rfl lk_X2_202 ⟨Nat.le_of_ble_eq_true rfl, Nat.le_of_ble_eq_true rfl⟩ hA hK hT B (pl_c hN 0 (by decide)) cf_0 rfl rfl hl.1 rfl (Nat.le_of_ble_eq_true rfl) dX2_digest_19 ⟨Nat.le_of_ble_eq_true rfl, Nat.le_of_ble_eq_true rfl⟩) (Nat.le_of_ble_eq_true rfl) (Nat.le_of_ble_eq_true rfl) (fun r23 ad' f' H locs hw B => ?_)
        obtain ⟨rfl, rfl, sp23, dy23, k23, e23, rfl⟩ := hw
        have k23 : ∀ j, j < 12 → sp23 j = sp j := fun j hj => (k23 j hj).trans (hksp1 j hj)
        have e23 : ∀ j, j < 4 → dy23 j = dy j := fun j hj => (e23 j hj).trans (hkdy1 j hj)
        refine lv_lstore_n (lv' := [(1, .long (sA sp9 ua.toNatClampNeg da)), (3, .int ua), (0, .ref (ad 0))]) hx hb dX2_digest_22 rfl hl (by decide) rfl (fun ls hl => ?_)
        refine lv_iinc (v := ua + 1) (lv' := [(3, .int (ua + 1)), (1, .long (sA sp9 ua.toNatClampNeg da)), (0, .ref (ad 0))]) hx hb dX2_digest_23 hl (k := 1) rfl rfl (by decide) rfl (fun ls hl => ?_)
        refine lv_goto (tgt := 6) hx hb dX2_digest_26 (by decide) ?_
        exact ih1 (ua + 1) (sA sp9 ua.toNatClampNeg da) sp23 dy23 H locs (fu_le c2 hn1) (inc_nn hzua c2) (LF_s hjua hzua c2 (sA_cg ((fun j hj => (hksp1 j (Nat.lt_of_lt_of_le hj (by decide))).trans (hR.1 j hj)) _ (ix_lt (n := 4) hzua c2 rfl)))) (k23) (e23) B ls (lv_sub hl [0, 1, 2] rfl)
  exact loop1 (((4 : Int32).toInt - (0 : Int32).toInt).toNat + 1) 0 6217 sp dy H locs (Nat.lt_succ_self _) (by decide) (LF_0 (by decide)) (fun _ _ => rfl) (fun _ _ => rfl) B ls hl
set_option maxHeartbeats 16000000 in
set_option maxRecDepth 100000 in
theorem c1_X4_ofCards (l : Launch) (g : GG) (N : Nat) (ad : Nat → Nat) (y : Nat → va_E) (cr dr : Nat → TR) (th kn rf : Int32) (pl : Nat → TR) (pz : Nat) (mc : Int32) (hN : 36 + pz ≤ N) (b0 : Nat) (hb0 : ad 24 = b0) (b1 : Int64) (hz : pz ≤ 9) : KL l yX4_ofCards cX4_ofCards 7 (rm 8 164 4044) g [.ref b0, .long b1] N ad (mg g ad y cr dr th kn rf pl pz mc) N (fun r ad' f' => ad = ad' ∧ dC cr pl pz b1 = r ∧ mg g ad y cr dr th kn rf pl pz mc = f') := by
  intro sz
  refine mt_start (by decide) (Nat.le_of_ble_eq_true rfl) ?_
  intro p e s m args below meth c hsz X hr hnam hA hK hT H locs B ls hl
  obtain ⟨hx, hb, hml, hown, hts, hlocks⟩ := id X
  have hl : lv_has ls 7 [(0, .ref b0), (1, .long b1)] := hl
  refine lv_lload_n hx hb dX4_ofCards_0 rfl (lv_at hl 1 rfl) ?_
  refine lv_lstore_n (lv' := [(3, .long b1), (0, .ref b0), (1, .long b1)]) hx hb dX4_ofCards_1 rfl hl (by decide) rfl (fun ls hl => ?_)
  refine lv_iconst (v := 0) hx hb dX4_ofCards_2 (by decide) ?_
  refine lv_istore (lv' := [(5, .int 0), (3, .long b1), (0, .ref b0), (1, .long b1)]) hx hb dX4_ofCards_3 hl (by decide) rfl (fun ls hl => ?_)
  have loop1 : ∀ (n1 : Nat) (ca : Int32) (dd : Int64) (C1 : Nat) (S1 : Nat) (H : Heap) (locs : List Loc), C1 + n1 * 22 ≤ 110 → S1 + n1 * 510 ≤ 2550 → ((4 : Int32).toInt - ca.toInt).toNat < n1 → ¬ ca < 0 → LJ 4 (fo (sA cr) b1) ca dd → WB g (aw N ad sz) s.heap N ad (mg g ad y cr dr th kn rf pl pz mc) H locs → ∀ ls : Array Slot, lv_has ls 7 [(5, .int ca), (3, .long dd), (0, .ref b0), (1, .long b1)] → W p l e (rm 8 164 4044) s m args below meth c H locs C1 S1 (MQ below (va_Ql (fun r (u : WS) => (fun r ad' f' => ad = ad' ∧ dC cr pl pz b1 = r ∧ mg g ad y cr dr th kn rf pl pz mc = f') r u.1 u.2) (fun u t => PO g N u.1 u.2 (aw N ad sz) t) (aw N ad sz)) args s (rm 8 164 4044).cells (rm 8 164 4044).slots (aw N ad sz)) (F0 m 5 ls []) := by
    intro n1
    induction n1 with
    | zero => intro ca dd C1 S1 H locs _ _ hn; exact absurd hn (Nat.not_lt_zero _)
    | succ n1 ih1 =>
      intro ca dd C1 S1 H locs hC1 hS1 hn1 hzca hjca B ls hl
      refine lv_iload hx hb dX4_ofCards_5 (lv_at hl 0 rfl) ?_
      refine lv_iconst (v := 4) hx hb dX4_ofCards_7 (by decide) ?_
      refine lv_icmp_ge (tgt := 148) hx hb dX4_ofCards_8 (by decide) (fun c2 => ?_) (fun c2 => ?_)
      · refine W.widen (show (C1 + 0) ≤ 110 by omega) (show (S1 + 0) ≤ 2550 by omega) ?_
        refine lv_iconst (v := 0) hx hb dX4_ofCards_148 (by decide) ?_
        refine lv_istore (lv' := [(5, .int 0), (3, .long dd), (0, .ref b0), (1, .long b1)]) hx hb dX4_ofCards_149 hl (by decide) rfl (fun ls hl => ?_)
        have loop3 : ∀ (n3 : Nat) (cb : Int32) (df : Int64) (C3 : Nat) (S3 : Nat) (H : Heap) (locs : List Loc), C3 + n3 * 0 ≤ 110 → S3 + n3 * 0 ≤ 2550 → ((4 : Int32).toInt - cb.toInt).toNat < n3 → ¬ cb < 0 → LJ 4 (fo (sM cr) dd) cb df → WB g (aw N ad sz) s.heap N ad (mg g ad y cr dr th kn rf pl pz mc) H locs → ∀ ls : Array Slot, lv_has ls 7 [(5, .int cb), (3, .long df), (0, .ref b0), (1, .long b1)] → W p l e (rm 8 164 4044) s m args below meth c H locs C3 S3 (MQ below (va_Ql (fun r (u : WS) => (fun r ad' f' => ad = ad' ∧ dC cr pl pz b1 = r ∧ mg g ad y cr dr th kn rf pl pz mc = f') r u.1 u.2) (fun u t => PO g N u.1 u.2 (aw N ad sz) t) (aw N ad sz)) args s (rm 8 164 4044).cells (rm 8 164 4044).slots (aw N ad sz)) (F0 m 151 ls []) := by
          intro n3
          induction n3 with
          | zero => intro cb df C3 S3 H locs _ _ hn; exact absurd hn (Nat.not_lt_zero _)
          | succ n3 ih3 =>
            intro cb df C3 S3 H locs hC3 hS3 hn3 hzcb hjcb B ls hl
            refine lv_iload hx hb dX4_ofCards_151 (lv_at hl 0 rfl) ?_
            refine lv_iconst (v := 4) hx hb dX4_ofCards_153 (by decide) ?_
            refine lv_icmp_ge (tgt := 228) hx hb dX4_ofCards_154 (by decide) (fun c4 => ?_) (fun c4 => ?_)
            · refine W.widen (show (C3 + 0) ≤ 110 by omega) (show (S3 + 0) ≤ 2550 by omega) ?_
              refine lv_iconst (v := 0) hx hb dX4_ofCards_228 (by decide) ?_
              refine lv_istore (lv' := [(5, .int 0), (3, .long df), (0, .ref b0), (1, .long b1)]) hx hb dX4_ofCards_229 hl (by decide) rfl (fun ls hl => ?_)
              have loop5 : ∀ (n5 : Nat) (pk : Int32) (dh : Int64) (C5 : Nat) (S5 : Nat) (H : Heap) (locs : List Loc), C5 + n5 * 6 ≤ 164 → S5 + n5 * 166 ≤ 4044 → ((8 : Int32).toInt - pk.toInt).toNat < n5 → ¬ pk < 0 → LJ 8 (fo (sP pl pz) df) pk dh → WB g (aw N ad sz) s.heap N ad (mg g ad y cr dr th kn rf pl pz mc) H locs → ∀ ls : Array Slot, lv_has ls 7 [(5, .int pk), (3, .long dh), (0, .ref b0), (1, .long b1)] → W p l e (rm 8 164 4044) s m args below meth c H locs C5 S5 (MQ below (va_Ql (fun r (u : WS) => (fun r ad' f' => ad = ad' ∧ dC cr pl pz b1 = r ∧ mg g ad y cr dr th kn rf pl pz mc = f') r u.1 u.2) (fun u t => PO g N u.1 u.2 (aw N ad sz) t) (aw N ad sz)) args s (rm 8 164 4044).cells (rm 8 164 4044).slots (aw N ad sz)) (F0 m 231 ls []) := by
                intro n5
                induction n5 with
                | zero => intro pk dh C5 S5 H locs _ _ hn; exact absurd hn (Nat.not_lt_zero _)
                | succ n5 ih5 =>
                  intro pk dh C5 S5 H locs hC5 hS5 hn5 hzpk hjpk B ls hl
                  refine lv_iload hx hb dX4_ofCards_231 (lv_at hl 0 rfl) ?_
                  refine lv_bipush (v := 8) hx hb dX4_ofCards_233 (by decide) ?_
                  refine lv_icmp_ge (tgt := 259) hx hb dX4_ofCards_235 (by decide) (fun c6 => ?_) (fun c6 => ?_)
                  · refine W.widen (show (C5 + 0) ≤ 164 by omega) (show (S5 + 0) ≤ 4044 by omega) ?_
                    refine lv_lload_n hx hb dX4_ofCards_259 rfl (lv_at hl 1 rfl) ?_
                    exact rt_l X hr (ad, mg g ad y cr dr th kn rf pl pz mc) B (PO_of B) ⟨rfl, by unfold dC; rw [(LJ_e 8 hjpk hzpk c6 rfl), (LJ_e 4 hjcb hzcb c4 rfl), (LJ_e 4 hjca hzca c2 rfl)], rfl⟩ (Nat.le_of_ble_eq_true rfl) (Nat.le_of_ble_eq_true rfl) dX4_ofCards_260
                  · refine lv_lload_n hx hb dX4_ofCards_238 rfl (lv_at hl 1 rfl) ?_
                    refine lv_aload_n hx hb dX4_ofCards_239 rfl (lv_at hl 2 rfl) ?_
                    refine lv_iload hx hb dX4_ofCards_240 (lv_at hl 0 rfl) ?_
                    by_cases sn7 : (v_X4_isIn pk.toInt64 0 (((Int32.ofNat (pz - 1)) - 1).toInt64)) = 0
                    · refine k_r (k := (C5 + 0)) (n := (S5 + 0)) hA B (b_V (q := 24) (rest := [.long dh]) hb0 X (c_X4_piledNowN l g N ad y cr dr th kn rf pl pz mc (by omega) b0 hb0 pk hz sn7 H.size) mw_X4_piledNow md_X4_piledNow rfl lk_X4_149 ⟨Nat.le_of_ble_eq_true rfl, Nat.le_of_ble_eq_true rfl⟩ hA hK hT B (by omega) mg_24 rfl rfl hl.1 rfl (Nat.le_of_ble_eq_true rfl) dX4_ofCards_242 (by dsimp only [rm]; omega)) (by dsimp only [rm]; omega) (by dsimp only [rm]; omega) (fun r ad' f' H locs hw B => ?_)
                      obtain ⟨rfl, rfl, rfl⟩ := hw
                      refine k_i (k := (C5 + 0)) (n := (S5 + 0)) hA B (u_K (rest := [.long dh]) (by decide) X (c_K_len l g N ad (mg g ad y cr dr th kn rf pl pz mc) 10 (by decide) H.size) mw_J0_length_8abf5 rfl md_J0_length_8abf5 rfl lk_X4_269 ⟨Nat.le_of_ble_eq_true rfl, Nat.le_of_ble_eq_true rfl⟩ hA hK hT B hl.1 rfl (Nat.le_of_ble_eq_true rfl) dX4_ofCards_245 (by dsimp only [rm]; omega)) (by dsimp only [rm]; omega) (by dsimp only [rm]; omega) (fun r ad' f' H locs hw B => ?_)
                      obtain ⟨rfl, rfl, rfl⟩ := hw
                      refine lv_i2l (v := (nI (st_len.getD 10 0)).toInt64) hx hb dX4_ofCards_248 rfl ?_
                      refine k_l (k := (C5 + 0)) (n := (S5 + 0)) hA B (u_S (rest := []) X (c_X4_add l g N ad (mg g ad y cr dr th kn rf pl pz mc) dh ((nI (st_len.getD 10 0)).toInt64) H.size) mw_X4_add md_X4_add rfl lk_X4_266 ⟨Nat.le_of_ble_eq_true rfl, Nat.le_of_ble_eq_true rfl⟩ hA hK hT B hl.1 rfl (Nat.le_of_ble_eq_true rfl) dX4_ofCards_249 (by dsimp only [rm]; omega)) (by dsimp only [rm]; omega) (by dsimp only [rm]; omega) (fun r9 ad9 f' H locs hw B => ?_)
                      obtain ⟨rfl, rfl, rfl⟩ := hw
                      refine lv_lstore_n (lv' := [(3, .long (v_X4_add dh ((nI (st_len.getD 10 0)).toInt64))), (5, .int pk), (0, .ref b0), (1, .long b1)]) hx hb dX4_ofCards_252 rfl hl (by decide) rfl (fun ls hl => ?_)
                      refine lv_iinc (v := pk + 1) (lv' := [(5, .int (pk + 1)), (3, .long (v_X4_add dh ((nI (st_len.getD 10 0)).toInt64))), (0, .ref b0), (1, .long b1)]) hx hb dX4_ofCards_253 hl (k := 1) rfl rfl (by decide) rfl (fun ls hl => ?_)
                      refine lv_goto (tgt := 231) hx hb dX4_ofCards_256 (by decide) ?_
                      exact ih5 (pk + 1) (v_X4_add dh ((nI (st_len.getD 10 0)).toInt64)) (C5 + 0) (S5 + 0) H locs (by omega) (by omega) (fu_le c6 hn5) (inc_nn hzpk c6) (LF_s hjpk hzpk c6 (by unfold sP; rw [nI_tn hzpk, if_pos sn7]; try rfl)) B ls (lv_sub hl [0, 1, 2, 3] rfl)
                    · refine k_r (k := (C5 + 6)) (n := (S5 + 166)) hA B (b_V (q := 24) (rest := [.long dh]) hb0 X (c_X4_piledNowY l g N ad y cr dr th kn rf pl pz mc (by omega) b0 hb0 pk hz sn7 H.size) mw_X4_piledNow md_X4_piledNow rfl lk_X4_149 ⟨Nat.le_of_ble_eq_true rfl, Nat.le_of_ble_eq_true rfl⟩ hA hK hT B (by omega) mg_24 rfl rfl hl.1 rfl (Nat.le_of_ble_eq_true rfl) dX4_ofCards_242 (by dsimp only [rm]; omega)) (by dsimp only [rm]; omega) (by dsimp only [rm]; omega) (fun r ad' f' H locs hw B => ?_)
                      dsimp only at hw
                      obtain ⟨a8, a8x, h8, hF8, rfl, rfl, rfl⟩ := hw
                      have B : WB g (aw N ad sz) s.heap (N + 1 + 1) (va_up (va_up ad N a8) (N + 1) a8x) (mg g (va_up (va_up ad N a8) (N + 1) a8x) (va_up (va_up y N (c_st a8x)) (N + 1) (c_ba g (tlen (pl pk.toNatClampNeg)) h8)) cr dr th kn rf pl pz mc) H locs := B
                      refine k_i (k := (C5 + 6)) (n := (S5 + 166)) hA B (b_V (q := N) (rest := [.long dh]) ((up_lt (by omega)).trans up_eq) X (c_W_len l g (N + 1 + 1) (va_up (va_up ad N a8) (N + 1) a8x) (mg g (va_up (va_up ad N a8) (N + 1) a8x) (va_up (va_up y N (c_st a8x)) (N + 1) (c_ba g (tlen (pl pk.toNatClampNeg)) h8)) cr dr th kn rf pl pz mc) N a8 (N + 1) a8x (tlen (pl pk.toNatClampNeg)) h8 (by omega) (by omega) ((up_lt (by omega)).trans up_eq) up_eq ((mg_hi (by omega)).trans ((up_lt (by omega)).trans up_eq)) ((mg_hi (by omega)).trans up_eq) H.size) mw_J0_length_8abf5 md_J0_length_8abf5 rfl lk_X4_269 ⟨Nat.le_of_ble_eq_true rfl, Nat.le_of_ble_eq_true rfl⟩ hA hK hT B (by omega) ((mg_hi (by omega)).trans ((up_lt (by omega)).trans up_eq)) rfl rfl hl.1 rfl (Nat.le_of_ble_eq_true rfl) dX4_ofCards_245 (by dsimp only [rm]; omega)) (by dsimp only [rm]; omega) (by dsimp only [rm]; omega) (fun r ad' f' H locs hw B => ?_)
                      obtain ⟨rfl, rfl, rfl⟩ := hw
                      have B : WB g (aw N ad sz) s.heap N ad (mg g ad y cr dr th kn rf pl pz mc) H locs := WM_drop B (by omega) (by omega) (fun _ hk => ((up_lt (Nat.lt_succ_of_lt hk)).trans (up_lt hk))) (fun _ hk => ((up_lt (Nat.lt_succ_of_lt hk)).trans (up_lt hk)))
                      refine lv_i2l (v := (nI (tlen (pl pk.toNatClampNeg))).toInt64) hx hb dX4_ofCards_248 rfl ?_
                      refine k_l (k := (C5 + 6)) (n := (S5 + 166)) hA B (u_S (rest := []) X (c_X4_add l g N ad (mg g ad y cr dr th kn rf pl pz mc) dh ((nI (tlen (pl pk.toNatClampNeg))).toInt64) H.size) mw_X4_add md_X4_add rfl lk_X4_266 ⟨Nat.le_of_ble_eq_true rfl, Nat.le_of_ble_eq_true rfl⟩ hA hK hT B hl.1 rfl (Nat.le_of_ble_eq_true rfl) dX4_ofCards_249 (by dsimp only [rm]; omega)) (by dsimp only [rm]; omega) (by dsimp only [rm]; omega) (fun r10 ad10 f' H locs hw B => ?_)
                      obtain ⟨rfl, rfl, rfl⟩ := hw
                      refine lv_lstore_n (lv' := [(3, .long (v_X4_add dh ((nI (tlen (pl pk.toNatClampNeg))).toInt64))), (5, .int pk), (0, .ref b0), (1, .long b1)]) hx hb dX4_ofCards_252 rfl hl (by decide) rfl (fun ls hl => ?_)
                      refine lv_iinc (v := pk + 1) (lv' := [(5, .int (pk + 1)), (3, .long (v_X4_add dh ((nI (tlen (pl pk.toNatClampNeg))).toInt64))), (0, .ref b0), (1, .long b1)]) hx hb dX4_ofCards_253 hl (k := 1) rfl rfl (by decide) rfl (fun ls hl => ?_)
                      refine lv_goto (tgt := 231) hx hb dX4_ofCards_256 (by decide) ?_
                      exact ih5 (pk + 1) (v_X4_add dh ((nI (tlen (pl pk.toNatClampNeg))).toInt64)) (C5 + 6) (S5 + 166) H locs (by omega) (by omega) (fu_le c6 hn5) (inc_nn hzpk c6) (LF_s hjpk hzpk c6 (by unfold sP; rw [nI_tn hzpk, if_neg sn7]; try rfl)) B ls (lv_sub hl [0, 1, 2, 3] rfl)
              have hT5 : 8 + 1 ≤ 9 := (by decide)
              exact loop5 (8 + 1) 0 df 110 2550 H locs (by first | exact Nat.le_refl _ | exact Nat.le_of_ble_eq_true rfl | omega) (by first | exact Nat.le_refl _ | exact Nat.le_of_ble_eq_true rfl | omega) (by decide) (by decide) (LF_0 (by decide)) B ls hl
            · refine lv_iconst (v := 0) hx hb dX4_ofCards_157 (by decide) ?_
              refine lv_istore (lv' := [(6, .int 0), (5, .int cb), (3, .long df), (0, .ref b0), (1, .long b1)]) hx hb dX4_ofCards_158 hl (by decide) rfl (fun ls hl => ?_)
              have loop11 : ∀ (n11 : Nat) (ce : Int32) (dg : Int64) (C11 : Nat) (S11 : Nat) (H : Heap) (locs : List Loc), C11 + n11 * 0 ≤ (C3 + 0) → S11 + n11 * 0 ≤ (S3 + 0) → ((4 : Int32).toInt - ce.toInt).toNat < n11 → ¬ ce < 0 → LJ 4 (fo (sN cr cb.toNatClampNeg) df) ce dg → WB g (aw N ad sz) s.heap N ad (mg g ad y cr dr th kn rf pl pz mc) H locs → ∀ ls : Array Slot, lv_has ls 7 [(6, .int ce), (5, .int cb), (3, .long dg), (0, .ref b0), (1, .long b1)] → W p l e (rm 8 164 4044) s m args below meth c H locs C11 S11 (MQ below (va_Ql (fun r (u : WS) => (fun r ad' f' => ad = ad' ∧ dC cr pl pz b1 = r ∧ mg g ad y cr dr th kn rf pl pz mc = f') r u.1 u.2) (fun u t => PO g N u.1 u.2 (aw N ad sz) t) (aw N ad sz)) args s (rm 8 164 4044).cells (rm 8 164 4044).slots (aw N ad sz)) (F0 m 160 ls []) := by
                intro n11
                induction n11 with
                | zero => intro ce dg C11 S11 H locs _ _ hn; exact absurd hn (Nat.not_lt_zero _)
                | succ n11 ih11 =>
                  intro ce dg C11 S11 H locs hC11 hS11 hn11 hzce hjce B ls hl
                  refine lv_iload hx hb dX4_ofCards_160 (lv_at hl 0 rfl) ?_
                  refine lv_iconst (v := 4) hx hb dX4_ofCards_162 (by decide) ?_
                  refine lv_icmp_ge (tgt := 222) hx hb dX4_ofCards_163 (by decide) (fun c12 => ?_) (fun c12 => ?_)
                  · refine W.widen (show (C11 + 0) ≤ (C3 + 0) by omega) (show (S11 + 0) ≤ (S3 + 0) by omega) ?_
                    refine lv_iinc (v := cb + 1) (lv' := [(5, .int (cb + 1)), (6, .int ce), (3, .long dg), (0, .ref b0), (1, .long b1)]) hx hb dX4_ofCards_222 hl (k := 1) rfl rfl (by decide) rfl (fun ls hl => ?_)
                    refine lv_goto (tgt := 151) hx hb dX4_ofCards_225 (by decide) ?_
                    exact ih3 (cb + 1) dg (C3 + 0) (S3 + 0) H locs (by omega) (by omega) (fu_le c4 hn3) (inc_nn hzcb c4) (LF_s hjcb hzcb c4 ((LJ_e 4 hjce hzce c12 rfl))) B ls (lv_sub hl [0, 2, 3, 4] rfl)
                  · refine lv_lload_n hx hb dX4_ofCards_166 rfl (lv_at hl 2 rfl) ?_
                    refine lv_aload_n hx hb dX4_ofCards_167 rfl (lv_at hl 3 rfl) ?_
                    refine b_get (q := 24) (k := 1) hb0 X hK B rfl in_X4 (by omega) mg_24 (by decide) lk_X4_11 rfl rfl dX4_ofCards_168 ?_
                    refine lv_iload hx hb dX4_ofCards_171 (lv_at hl 1 rfl) ?_
                    refine b_aald (q := 25) (t0 := 2) (v := ad (28 + cb.toNatClampNeg)) rfl X hK B (by omega) mg_25 rfl rfl (ix_in (n := 4) hzcb c4 rfl) rfl dX4_ofCards_173 ?_
                    have g13 : cb.toNatClampNeg < 4 := (ix_lt (n := 4) hzcb c4 rfl)
                    refine lv_aload_n hx hb dX4_ofCards_174 rfl (lv_at hl 3 rfl) ?_
                    refine b_get (q := 24) (k := 1) hb0 X hK B rfl in_X4 (by omega) mg_24 (by decide) lk_X4_11 rfl rfl dX4_ofCards_175 ?_
                    refine lv_iload hx hb dX4_ofCards_178 (lv_at hl 0 rfl) ?_
                    refine b_aald (q := 25) (t0 := 2) (v := ad (28 + ce.toNatClampNeg)) rfl X hK B (by omega) mg_25 rfl rfl (ix_in (n := 4) hzce c12 rfl) rfl dX4_ofCards_180 ?_
                    have g14 : ce.toNatClampNeg < 4 := (ix_lt (n := 4) hzce c12 rfl)
                    refine k_i (k := (C11 + 0)) (n := (S11 + 0)) hA B (u_S (rest := [.long dg]) X (c_X4_isSame l g N ad (mg g ad y cr dr th kn rf pl pz mc) (28 + cb.toNatClampNeg) (ad (28 + cb.toNatClampNeg)) (cr cb.toNatClampNeg) (pl_cr hN g13) rfl (mg_cr g13) (28 + ce.toNatClampNeg) (ad (28 + ce.toNatClampNeg)) (cr ce.toNatClampNeg) (pl_cr hN g14) rfl (mg_cr g14) H.size) mw_X4_isSame md_X4_isSame rfl lk_X4_87 ⟨Nat.le_of_ble_eq_true rfl, Nat.le_of_ble_eq_true rfl⟩ hA hK hT B hl.1 rfl (Nat.le_of_ble_eq_true rfl) dX4_ofCards_181 (by dsimp only [rm]; omega)) (by dsimp only [rm]; omega) (by dsimp only [rm]; omega) (fun r15 ad15 f' H locs hw B => ?_)
                    obtain ⟨rfl, rfl, rfl⟩ := hw
                    refine k_i (k := (C11 + 0)) (n := (S11 + 0)) hA B (u_S (rest := [.long dg]) X (c_X4_one l g N ad (mg g ad y cr dr th kn rf pl pz mc) (v_X4_isSame (cr cb.toNatClampNeg) (cr ce.toNatClampNeg)) H.size) mw_X4_one md_X4_one rfl lk_X4_91 ⟨Nat.le_of_ble_eq_true rfl, Nat.le_of_ble_eq_true rfl⟩ hA hK hT B hl.1 rfl (Nat.le_of_ble_eq_true rfl) dX4_ofCards_184 (by dsimp only [rm]; omega)) (by dsimp only [rm]; omega) (by dsimp only [rm]; omega) (fun r16 ad16 f' H locs hw B => ?_)
                    obtain ⟨rfl, rfl, rfl⟩ := hw
                    refine lv_i2l (v := (v_X4_one (v_X4_isSame (cr cb.toNatClampNeg) (cr ce.toNatClampNeg))).toInt64) hx hb dX4_ofCards_187 rfl ?_
                    refine k_l (k := (C11 + 0)) (n := (S11 + 0)) hA B (u_S (rest := []) X (c_X4_add l g N ad (mg g ad y cr dr th kn rf pl pz mc) dg ((v_X4_one (v_X4_isSame (cr cb.toNatClampNeg) (cr ce.toNatClampNeg))).toInt64) H.size) mw_X4_add md_X4_add rfl lk_X4_266 ⟨Nat.le_of_ble_eq_true rfl, Nat.le_of_ble_eq_true rfl⟩ hA hK hT B hl.1 rfl (Nat.le_of_ble_eq_true rfl) dX4_ofCards_188 (by dsimp only [rm]; omega)) (by dsimp only [rm]; omega) (by dsimp only [rm]; omega) (fun r17 ad17 f' H locs hw B => ?_)
                    obtain ⟨rfl, rfl, rfl⟩ := hw
                    refine lv_aload_n hx hb dX4_ofCards_191 rfl (lv_at hl 3 rfl) ?_
                    refine b_get (q := 24) (k := 1) hb0 X hK B rfl in_X4 (by omega) mg_24 (by decide) lk_X4_11 rfl rfl dX4_ofCards_192 ?_
                    refine lv_iload hx hb dX4_ofCards_195 (lv_at hl 1 rfl) ?_
                    refine b_aald (q := 25) (t0 := 2) (v := ad (28 + cb.toNatClampNeg)) rfl X hK B (by omega) mg_25 rfl rfl (ix_in (n := 4) hzcb c4 rfl) rfl dX4_ofCards_197 ?_
                    have g18 : cb.toNatClampNeg < 4 := (ix_lt (n := 4) hzcb c4 rfl)
                    refine lv_aload_n hx hb dX4_ofCards_198 rfl (lv_at hl 3 rfl) ?_
                    refine b_get (q := 24) (k := 1) hb0 X hK B rfl in_X4 (by omega) mg_24 (by decide) lk_X4_11 rfl rfl dX4_ofCards_199 ?_
                    refine lv_iload hx hb dX4_ofCards_202 (lv_at hl 0 rfl) ?_
                    refine b_aald (q := 25) (t0 := 2) (v := ad (28 + ce.toNatClampNeg)) rfl X hK B (by omega) mg_25 rfl rfl (ix_in (n := 4) hzce c12 rfl) rfl dX4_ofCards_204 ?_
                    have g19 : ce.toNatClampNeg < 4 := (ix_lt (n := 4) hzce c12 rfl)
                    refine k_i (k := (C11 + 0)) (n := (S11 + 0)) hA B (u_S (rest := [.long (v_X4_add dg ((v_X4_one (v_X4_isSame (cr cb.toNatClampNeg) (cr ce.toNatClampNeg))).toInt64))]) X (c_X4_isAlike l g N ad (mg g ad y cr dr th kn rf pl pz mc) (28 + cb.toNatClampNeg) (ad (28 + cb.toNatClampNeg)) (cr cb.toNatClampNeg) (pl_cr hN g18) rfl (mg_cr g18) (28 + ce.toNatClampNeg) (ad (28 + ce.toNatClampNeg)) (cr ce.toNatClampNeg) (pl_cr hN g19) rfl (mg_cr g19) H.size) mw_X4_isAlike md_X4_isAlike rfl lk_X4_162 ⟨Nat.le_of_ble_eq_true rfl, Nat.le_of_ble_eq_true rfl⟩ hA hK hT B hl.1 rfl (Nat.le_of_ble_eq_true rfl) dX4_ofCards_205 (by dsimp only [rm]; omega)) (by dsimp only [rm]; omega) (by dsimp only [rm]; omega) (fun r20 ad20 f' H locs hw B => ?_)
                    obtain ⟨rfl, rfl, rfl⟩ := hw
                    refine k_i (k := (C11 + 0)) (n := (S11 + 0)) hA B (u_S (rest := [.long (v_X4_add dg ((v_X4_one (v_X4_isSame (cr cb.toNatClampNeg) (cr ce.toNatClampNeg))).toInt64))]) X (c_X4_one l g N ad (mg g ad y cr dr th kn rf pl pz mc) (v_X4_isAlike (cr cb.toNatClampNeg) (cr ce.toNatClampNeg)) H.size) mw_X4_one md_X4_one rfl lk_X4_91 ⟨Nat.le_of_ble_eq_true rfl, Nat.le_of_ble_eq_true rfl⟩ hA hK hT B hl.1 rfl (Nat.le_of_ble_eq_true rfl) dX4_ofCards_208 (by dsimp only [rm]; omega)) (by dsimp only [rm]; omega) (by dsimp only [rm]; omega) (fun r21 ad21 f' H locs hw B => ?_)
                    obtain ⟨rfl, rfl, rfl⟩ := hw
                    refine lv_i2l (v := (v_X4_one (v_X4_isAlike (cr cb.toNatClampNeg) (cr ce.toNatClampNeg))).toInt64) hx hb dX4_ofCards_211 rfl ?_
                    refine k_l (k := (C11 + 0)) (n := (S11 + 0)) hA B (u_S (rest := []) X (c_X4_add l g N ad (mg g ad y cr dr th kn rf pl pz mc) (v_X4_add dg ((v_X4_one (v_X4_isSame (cr cb.toNatClampNeg) (cr ce.toNatClampNeg))).toInt64)) ((v_X4_one (v_X4_isAlike (cr cb.toNatClampNeg) (cr ce.toNatClampNeg))).toInt64) H.size) mw_X4_add md_X4_add rfl lk_X4_266 ⟨Nat.le_of_ble_eq_true rfl, Nat.le_of_ble_eq_true rfl⟩ hA hK hT B hl.1 rfl (Nat.le_of_ble_eq_true rfl) dX4_ofCards_212 (by dsimp only [rm]; omega)) (by dsimp only [rm]; omega) (by dsimp only [rm]; omega) (fun r22 ad22 f' H locs hw B => ?_)
                    obtain ⟨rfl, rfl, rfl⟩ := hw
                    refine lv_lstore_n (lv' := [(3, .long (v_X4_add (v_X4_add dg ((v_X4_one (v_X4_isSame (cr cb.toNatClampNeg) (cr ce.toNatClampNeg))).toInt64)) ((v_X4_one (v_X4_isAlike (cr cb.toNatClampNeg) (cr ce.toNatClampNeg))).toInt64))), (6, .int ce), (5, .int cb), (0, .ref b0), (1, .long b1)]) hx hb dX4_ofCards_215 rfl hl (by decide) rfl (fun ls hl => ?_)
                    refine lv_iinc (v := ce + 1) (lv' := [(6, .int (ce + 1)), (3, .long (v_X4_add (v_X4_add dg ((v_X4_one (v_X4_isSame (cr cb.toNatClampNeg) (cr ce.toNatClampNeg))).toInt64)) ((v_X4_one (v_X4_isAlike (cr cb.toNatClampNeg) (cr ce.toNatClampNeg))).toInt64))), (5, .int cb), (0, .ref b0), (1, .long b1)]) hx hb dX4_ofCards_216 hl (k := 1) rfl rfl (by decide) rfl (fun ls hl => ?_)
                    refine lv_goto (tgt := 160) hx hb dX4_ofCards_219 (by decide) ?_
                    exact ih11 (ce + 1) (v_X4_add (v_X4_add dg ((v_X4_one (v_X4_isSame (cr cb.toNatClampNeg) (cr ce.toNatClampNeg))).toInt64)) ((v_X4_one (v_X4_isAlike (cr cb.toNatClampNeg) (cr ce.toNatClampNeg))).toInt64)) (C11 + 0) (S11 + 0) H locs (by omega) (by omega) (fu_le c12 hn11) (inc_nn hzce c12) (LF_s hjce hzce c12 (rfl)) B ls (lv_sub hl [0, 2, 1, 3, 4] rfl)
              have hT11 : 4 + 1 ≤ 5 := (by decide)
              exact loop11 (4 + 1) 0 df (C3 + 0) (S3 + 0) H locs (by first | exact Nat.le_refl _ | exact Nat.le_of_ble_eq_true rfl | omega) (by first | exact Nat.le_refl _ | exact Nat.le_of_ble_eq_true rfl | omega) (by decide) (by decide) (LF_0 (by decide)) B ls hl
        have hT3 : 4 + 1 ≤ 5 := (by decide)
        exact loop3 (4 + 1) 0 dd 110 2550 H locs (by first | exact Nat.le_refl _ | exact Nat.le_of_ble_eq_true rfl | omega) (by first | exact Nat.le_refl _ | exact Nat.le_of_ble_eq_true rfl | omega) (by decide) (by decide) (LF_0 (by decide)) B ls hl
      · refine lv_iconst (v := 0) hx hb dX4_ofCards_11 (by decide) ?_
        refine lv_istore (lv' := [(6, .int 0), (5, .int ca), (3, .long dd), (0, .ref b0), (1, .long b1)]) hx hb dX4_ofCards_12 hl (by decide) rfl (fun ls hl => ?_)
        have loop23 : ∀ (n23 : Nat) (wa : Int32) (de : Int64) (C23 : Nat) (S23 : Nat) (H : Heap) (locs : List Loc), C23 + n23 * 0 ≤ (C1 + 0) → S23 + n23 * 0 ≤ (S1 + 0) → ((3 : Int32).toInt - wa.toInt).toNat < n23 → ¬ wa < 0 → LJ 3 (fo (sW cr ca.toNatClampNeg) dd) wa de → WB g (aw N ad sz) s.heap N ad (mg g ad y cr dr th kn rf pl pz mc) H locs → ∀ ls : Array Slot, lv_has ls 7 [(6, .int wa), (5, .int ca), (3, .long de), (0, .ref b0), (1, .long b1)] → W p l e (rm 8 164 4044) s m args below meth c H locs C23 S23 (MQ below (va_Ql (fun r (u : WS) => (fun r ad' f' => ad = ad' ∧ dC cr pl pz b1 = r ∧ mg g ad y cr dr th kn rf pl pz mc = f') r u.1 u.2) (fun u t => PO g N u.1 u.2 (aw N ad sz) t) (aw N ad sz)) args s (rm 8 164 4044).cells (rm 8 164 4044).slots (aw N ad sz)) (F0 m 14 ls []) := by
          intro n23
          induction n23 with
          | zero => intro wa de C23 S23 H locs _ _ hn; exact absurd hn (Nat.not_lt_zero _)
          | succ n23 ih23 =>
            intro wa de C23 S23 H locs hC23 hS23 hn23 hzwa hjwa B ls hl
            refine lv_iload hx hb dX4_ofCards_14 (lv_at hl 0 rfl) ?_
            refine lv_iconst (v := 3) hx hb dX4_ofCards_16 (by decide) ?_
            refine lv_icmp_ge (tgt := 42) hx hb dX4_ofCards_17 (by decide) (fun c24 => ?_) (fun c24 => ?_)
            · refine W.widen (show (C23 + 0) ≤ (C1 + 0) by omega) (show (S23 + 0) ≤ (S1 + 0) by omega) ?_
              refine lv_lload_n hx hb dX4_ofCards_42 rfl (lv_at hl 2 rfl) ?_
              refine lv_aload_n hx hb dX4_ofCards_43 rfl (lv_at hl 3 rfl) ?_
              refine b_get (q := 24) (k := 1) hb0 X hK B rfl in_X4 (by omega) mg_24 (by decide) lk_X4_11 rfl rfl dX4_ofCards_44 ?_
              refine lv_iload hx hb dX4_ofCards_47 (lv_at hl 1 rfl) ?_
              refine b_aald (q := 25) (t0 := 2) (v := ad (28 + ca.toNatClampNeg)) rfl X hK B (by omega) mg_25 rfl rfl (ix_in (n := 4) hzca c2 rfl) rfl dX4_ofCards_49 ?_
              have g25 : ca.toNatClampNeg < 4 := (ix_lt (n := 4) hzca c2 rfl)
              refine k_l (k := (C1 + 0)) (n := (S1 + 0)) hA B (u_S (rest := [.long de]) X (c_X4_total l g N ad (mg g ad y cr dr th kn rf pl pz mc) (28 + ca.toNatClampNeg) (ad (28 + ca.toNatClampNeg)) (cr ca.toNatClampNeg) (pl_cr hN g25) rfl (mg_cr g25) H.size) mw_X4_total md_X4_total rfl lk_X4_43 ⟨Nat.le_of_ble_eq_true rfl, Nat.le_of_ble_eq_true rfl⟩ hA hK hT B hl.1 rfl (Nat.le_of_ble_eq_true rfl) dX4_ofCards_50 (by dsimp only [rm]; omega)) (by dsimp only [rm]; omega) (by dsimp only [rm]; omega) (fun r26 ad26 f' H locs hw B => ?_)
              obtain ⟨rfl, rfl, rfl⟩ := hw
              refine k_l (k := (C1 + 0)) (n := (S1 + 0)) hA B (u_S (rest := []) X (c_X4_add l g N ad (mg g ad y cr dr th kn rf pl pz mc) de (v_X4_total (cr ca.toNatClampNeg)) H.size) mw_X4_add md_X4_add rfl lk_X4_266 ⟨Nat.le_of_ble_eq_true rfl, Nat.le_of_ble_eq_true rfl⟩ hA hK hT B hl.1 rfl (Nat.le_of_ble_eq_true rfl) dX4_ofCards_53 (by dsimp only [rm]; omega)) (by dsimp only [rm]; omega) (by dsimp only [rm]; omega) (fun r27 ad27 f' H locs hw B => ?_)
              obtain ⟨rfl, rfl, rfl⟩ := hw
              refine lv_aload_n hx hb dX4_ofCards_56 rfl (lv_at hl 3 rfl) ?_
              refine lv_iload hx hb dX4_ofCards_57 (lv_at hl 1 rfl) ?_
              refine k_i (k := (C1 + 1)) (n := (S1 + 3)) hA B (b_V (q := 24) (rest := [.long (v_X4_add de (v_X4_total (cr ca.toNatClampNeg)))]) hb0 X (c_X4_isZeroNow l g N ad y cr dr th kn rf pl pz mc (by omega) b0 hb0 ca (no_of hzca c2) H.size) mw_X4_isZeroNow md_X4_isZeroNow rfl lk_X4_156 ⟨Nat.le_of_ble_eq_true rfl, Nat.le_of_ble_eq_true rfl⟩ hA hK hT B (by omega) mg_24 rfl rfl hl.1 rfl (Nat.le_of_ble_eq_true rfl) dX4_ofCards_59 (by dsimp only [rm]; omega)) (by dsimp only [rm]; omega) (by dsimp only [rm]; omega) (fun r28 ad28 f' H locs hw B => ?_)
              obtain ⟨rfl, rfl, rfl⟩ := hw
              refine k_i (k := (C1 + 1)) (n := (S1 + 3)) hA B (u_S (rest := [.long (v_X4_add de (v_X4_total (cr ca.toNatClampNeg)))]) X (c_X4_one l g N ad (mg g ad y cr dr th kn rf pl pz mc) (v_X4_isZeroNow cr ca) H.size) mw_X4_one md_X4_one rfl lk_X4_91 ⟨Nat.le_of_ble_eq_true rfl, Nat.le_of_ble_eq_true rfl⟩ hA hK hT B hl.1 rfl (Nat.le_of_ble_eq_true rfl) dX4_ofCards_62 (by dsimp only [rm]; omega)) (by dsimp only [rm]; omega) (by dsimp only [rm]; omega) (fun r29 ad29 f' H locs hw B => ?_)
              obtain ⟨rfl, rfl, rfl⟩ := hw
              refine lv_i2l (v := (v_X4_one (v_X4_isZeroNow cr ca)).toInt64) hx hb dX4_ofCards_65 rfl ?_
              refine k_l (k := (C1 + 1)) (n := (S1 + 3)) hA B (u_S (rest := []) X (c_X4_add l g N ad (mg g ad y cr dr th kn rf pl pz mc) (v_X4_add de (v_X4_total (cr ca.toNatClampNeg))) ((v_X4_one (v_X4_isZeroNow cr ca)).toInt64) H.size) mw_X4_add md_X4_add rfl lk_X4_266 ⟨Nat.le_of_ble_eq_true rfl, Nat.le_of_ble_eq_true rfl⟩ hA hK hT B hl.1 rfl (Nat.le_of_ble_eq_true rfl) dX4_ofCards_66 (by dsimp only [rm]; omega)) (by dsimp only [rm]; omega) (by dsimp only [rm]; omega) (fun r30 ad30 f' H locs hw B => ?_)
              obtain ⟨rfl, rfl, rfl⟩ := hw
              refine lv_aload_n hx hb dX4_ofCards_69 rfl (lv_at hl 3 rfl) ?_
              refine lv_iload hx hb dX4_ofCards_70 (lv_at hl 1 rfl) ?_
              refine k_i (k := (C1 + 1)) (n := (S1 + 3)) hA B (b_V (q := 24) (rest := [.long (v_X4_add (v_X4_add de (v_X4_total (cr ca.toNatClampNeg))) ((v_X4_one (v_X4_isZeroNow cr ca)).toInt64))]) hb0 X (c_X4_isNegativeNow l g N ad y cr dr th kn rf pl pz mc (by omega) b0 hb0 ca (no_of hzca c2) H.size) mw_X4_isNegativeNow md_X4_isNegativeNow rfl lk_X4_159 ⟨Nat.le_of_ble_eq_true rfl, Nat.le_of_ble_eq_true rfl⟩ hA hK hT B (by omega) mg_24 rfl rfl hl.1 rfl (Nat.le_of_ble_eq_true rfl) dX4_ofCards_72 (by dsimp only [rm]; omega)) (by dsimp only [rm]; omega) (by dsimp only [rm]; omega) (fun r31 ad31 f' H locs hw B => ?_)
              obtain ⟨rfl, rfl, rfl⟩ := hw
              refine k_i (k := (C1 + 1)) (n := (S1 + 3)) hA B (u_S (rest := [.long (v_X4_add (v_X4_add de (v_X4_total (cr ca.toNatClampNeg))) ((v_X4_one (v_X4_isZeroNow cr ca)).toInt64))]) X (c_X4_one l g N ad (mg g ad y cr dr th kn rf pl pz mc) (v_X4_isNegativeNow cr ca) H.size) mw_X4_one md_X4_one rfl lk_X4_91 ⟨Nat.le_of_ble_eq_true rfl, Nat.le_of_ble_eq_true rfl⟩ hA hK hT B hl.1 rfl (Nat.le_of_ble_eq_true rfl) dX4_ofCards_75 (by dsimp only [rm]; omega)) (by dsimp only [rm]; omega) (by dsimp only [rm]; omega) (fun r32 ad32 f' H locs hw B => ?_)
              obtain ⟨rfl, rfl, rfl⟩ := hw
              refine lv_i2l (v := (v_X4_one (v_X4_isNegativeNow cr ca)).toInt64) hx hb dX4_ofCards_78 rfl ?_
              refine k_l (k := (C1 + 1)) (n := (S1 + 3)) hA B (u_S (rest := []) X (c_X4_add l g N ad (mg g ad y cr dr th kn rf pl pz mc) (v_X4_add (v_X4_add de (v_X4_total (cr ca.toNatClampNeg))) ((v_X4_one (v_X4_isZeroNow cr ca)).toInt64)) ((v_X4_one (v_X4_isNegativeNow cr ca)).toInt64) H.size) mw_X4_add md_X4_add rfl lk_X4_266 ⟨Nat.le_of_ble_eq_true rfl, Nat.le_of_ble_eq_true rfl⟩ hA hK hT B hl.1 rfl (Nat.le_of_ble_eq_true rfl) dX4_ofCards_79 (by dsimp only [rm]; omega)) (by dsimp only [rm]; omega) (by dsimp only [rm]; omega) (fun r33 ad33 f' H locs hw B => ?_)
              obtain ⟨rfl, rfl, rfl⟩ := hw
              refine lv_lstore_n (lv' := [(3, .long (v_X4_add (v_X4_add (v_X4_add de (v_X4_total (cr ca.toNatClampNeg))) ((v_X4_one (v_X4_isZeroNow cr ca)).toInt64)) ((v_X4_one (v_X4_isNegativeNow cr ca)).toInt64))), (6, .int wa), (5, .int ca), (0, .ref b0), (1, .long b1)]) hx hb dX4_ofCards_82 rfl hl (by decide) rfl (fun ls hl => ?_)
              refine lv_lload_n hx hb dX4_ofCards_83 rfl (lv_at hl 0 rfl) ?_
              refine lv_aload_n hx hb dX4_ofCards_84 rfl (lv_at hl 3 rfl) ?_
              refine b_get (q := 24) (k := 1) hb0 X hK B rfl in_X4 (by omega) mg_24 (by decide) lk_X4_11 rfl rfl dX4_ofCards_85 ?_
              refine lv_iload hx hb dX4_ofCards_88 (lv_at hl 2 rfl) ?_
              refine b_aald (q := 25) (t0 := 2) (v := ad (28 + ca.toNatClampNeg)) rfl X hK B (by omega) mg_25 rfl rfl (ix_in (n := 4) hzca c2 rfl) rfl dX4_ofCards_90 ?_
              have g34 : ca.toNatClampNeg < 4 := (ix_lt (n := 4) hzca c2 rfl)
              refine k_r (k := (C1 + 7)) (n := (S1 + 169)) hA B (u_S (rest := [.long (v_X4_add (v_X4_add (v_X4_add de (v_X4_total (cr ca.toNatClampNeg))) ((v_X4_one (v_X4_isZeroNow cr ca)).toInt64)) ((v_X4_one (v_X4_isNegativeNow cr ca)).toInt64))]) X (c_W_told l g N ad (mg g ad y cr dr th kn rf pl pz mc) (28 + ca.toNatClampNeg) (ad (28 + ca.toNatClampNeg)) (cr ca.toNatClampNeg) (pl_cr hN g34) rfl (mg_cr g34) H.size) mw_X4_told md_X4_told rfl lk_X4_145 ⟨Nat.le_of_ble_eq_true rfl, Nat.le_of_ble_eq_true rfl⟩ hA hK hT B hl.1 rfl (Nat.le_of_ble_eq_true rfl) dX4_ofCards_91 (by dsimp only [rm]; omega)) (by dsimp only [rm]; omega) (by dsimp only [rm]; omega) (fun r ad' f' H locs hw B => ?_)
              obtain ⟨a35, a35x, h35, hF35, rfl, rfl, rfl⟩ := hw
              have B : WB g (aw N ad sz) s.heap (N + 1 + 1) (va_up (va_up ad N a35) (N + 1) a35x) (mg g (va_up (va_up ad N a35) (N + 1) a35x) (va_up (va_up y N (c_st a35x)) (N + 1) (c_ba g (tlen (cr ca.toNatClampNeg)) h35)) cr dr th kn rf pl pz mc) H locs := WM_push2 (by omega) B
              refine k_i (k := (C1 + 7)) (n := (S1 + 169)) hA B (b_V (q := N) (rest := [.long (v_X4_add (v_X4_add (v_X4_add de (v_X4_total (cr ca.toNatClampNeg))) ((v_X4_one (v_X4_isZeroNow cr ca)).toInt64)) ((v_X4_one (v_X4_isNegativeNow cr ca)).toInt64))]) ((up_lt (by omega)).trans up_eq) X (c_W_len l g (N + 1 + 1) (va_up (va_up ad N a35) (N + 1) a35x) (mg g (va_up (va_up ad N a35) (N + 1) a35x) (va_up (va_up y N (c_st a35x)) (N + 1) (c_ba g (tlen (cr ca.toNatClampNeg)) h35)) cr dr th kn rf pl pz mc) N a35 (N + 1) a35x (tlen (cr ca.toNatClampNeg)) h35 (by omega) (by omega) ((up_lt (by omega)).trans up_eq) up_eq ((mg_hi (by omega)).trans ((up_lt (by omega)).trans up_eq)) ((mg_hi (by omega)).trans up_eq) H.size) mw_J0_length_8abf5 md_J0_length_8abf5 rfl lk_X4_269 ⟨Nat.le_of_ble_eq_true rfl, Nat.le_of_ble_eq_true rfl⟩ hA hK hT B (by omega) ((mg_hi (by omega)).trans ((up_lt (by omega)).trans up_eq)) rfl rfl hl.1 rfl (Nat.le_of_ble_eq_true rfl) dX4_ofCards_94 (by dsimp only [rm]; omega)) (by dsimp only [rm]; omega) (by dsimp only [rm]; omega) (fun r ad' f' H locs hw B => ?_)
              obtain ⟨rfl, rfl, rfl⟩ := hw
              have B : WB g (aw N ad sz) s.heap N ad (mg g ad y cr dr th kn rf pl pz mc) H locs := WM_drop B (by omega) (by omega) (fun _ hk => ((up_lt (Nat.lt_succ_of_lt hk)).trans (up_lt hk))) (fun _ hk => ((up_lt (Nat.lt_succ_of_lt hk)).trans (up_lt hk)))
              refine lv_i2l (v := (nI (tlen (cr ca.toNatClampNeg))).toInt64) hx hb dX4_ofCards_97 rfl ?_
              refine k_l (k := (C1 + 7)) (n := (S1 + 169)) hA B (u_S (rest := []) X (c_X4_add l g N ad (mg g ad y cr dr th kn rf pl pz mc) (v_X4_add (v_X4_add (v_X4_add de (v_X4_total (cr ca.toNatClampNeg))) ((v_X4_one (v_X4_isZeroNow cr ca)).toInt64)) ((v_X4_one (v_X4_isNegativeNow cr ca)).toInt64)) ((nI (tlen (cr ca.toNatClampNeg))).toInt64) H.size) mw_X4_add md_X4_add rfl lk_X4_266 ⟨Nat.le_of_ble_eq_true rfl, Nat.le_of_ble_eq_true rfl⟩ hA hK hT B hl.1 rfl (Nat.le_of_ble_eq_true rfl) dX4_ofCards_98 (by dsimp only [rm]; omega)) (by dsimp only [rm]; omega) (by dsimp only [rm]; omega) (fun r36 ad36 f' H locs hw B => ?_)
              obtain ⟨rfl, rfl, rfl⟩ := hw
              refine lv_aload_n hx hb dX4_ofCards_101 rfl (lv_at hl 3 rfl) ?_
              refine b_get (q := 24) (k := 1) hb0 X hK B rfl in_X4 (by omega) mg_24 (by decide) lk_X4_11 rfl rfl dX4_ofCards_102 ?_
              refine lv_iload hx hb dX4_ofCards_105 (lv_at hl 2 rfl) ?_
              refine b_aald (q := 25) (t0 := 2) (v := ad (28 + ca.toNatClampNeg)) rfl X hK B (by omega) mg_25 rfl rfl (ix_in (n := 4) hzca c2 rfl) rfl dX4_ofCards_107 ?_
              have g37 : ca.toNatClampNeg < 4 := (ix_lt (n := 4) hzca c2 rfl)
              refine k_r (k := (C1 + 8)) (n := (S1 + 172)) hA B (u_S (rest := [.long (v_X4_add (v_X4_add (v_X4_add (v_X4_add de (v_X4_total (cr ca.toNatClampNeg))) ((v_X4_one (v_X4_isZeroNow cr ca)).toInt64)) ((v_X4_one (v_X4_isNegativeNow cr ca)).toInt64)) ((nI (tlen (cr ca.toNatClampNeg))).toInt64))]) X (c_X4_tidied l g N ad (mg g ad y cr dr th kn rf pl pz mc) (28 + ca.toNatClampNeg) (ad (28 + ca.toNatClampNeg)) (cr ca.toNatClampNeg) (pl_cr hN g37) rfl (mg_cr g37) H.size) mw_X4_tidied md_X4_tidied rfl lk_X4_125 ⟨Nat.le_of_ble_eq_true rfl, Nat.le_of_ble_eq_true rfl⟩ hA hK hT B hl.1 rfl (Nat.le_of_ble_eq_true rfl) dX4_ofCards_108 (by dsimp only [rm]; omega)) (by dsimp only [rm]; omega) (by dsimp only [rm]; omega) (fun r38 ad38 f' H locs hw B => ?_)
              generalize o39 : (v_X4_tidied (cr ca.toNatClampNeg)) = v9 at hw B
              cases v9 with
              | none =>
                obtain ⟨rfl, rfl, rfl⟩ := pw_n hw
                refine k_r (k := (C1 + 8)) (n := (S1 + 172)) hA B (u_S (rest := [.long (v_X4_add (v_X4_add (v_X4_add (v_X4_add de (v_X4_total (cr ca.toNatClampNeg))) ((v_X4_one (v_X4_isZeroNow cr ca)).toInt64)) ((v_X4_one (v_X4_isNegativeNow cr ca)).toInt64)) ((nI (tlen (cr ca.toNatClampNeg))).toInt64))]) X (c_W_toldN l g N ad (mg g ad y cr dr th kn rf pl pz mc) H.size) mw_X4_told md_X4_told rfl lk_X4_145 ⟨Nat.le_of_ble_eq_true rfl, Nat.le_of_ble_eq_true rfl⟩ hA hK hT B hl.1 rfl (Nat.le_of_ble_eq_true rfl) dX4_ofCards_111 (by dsimp only [rm]; omega)) (by dsimp only [rm]; omega) (by dsimp only [rm]; omega) (fun r ad' f' H locs hw B => ?_)
                obtain ⟨rfl, rfl, rfl⟩ := hw
                refine k_i (k := (C1 + 8)) (n := (S1 + 172)) hA B (u_K (rest := [.long (v_X4_add (v_X4_add (v_X4_add (v_X4_add de (v_X4_total (cr ca.toNatClampNeg))) ((v_X4_one (v_X4_isZeroNow cr ca)).toInt64)) ((v_X4_one (v_X4_isNegativeNow cr ca)).toInt64)) ((nI (tlen (cr ca.toNatClampNeg))).toInt64))]) (by decide) X (c_K_len l g N ad (mg g ad y cr dr th kn rf pl pz mc) 10 (by decide) H.size) mw_J0_length_8abf5 rfl md_J0_length_8abf5 rfl lk_X4_269 ⟨Nat.le_of_ble_eq_true rfl, Nat.le_of_ble_eq_true rfl⟩ hA hK hT B hl.1 rfl (Nat.le_of_ble_eq_true rfl) dX4_ofCards_114 (by dsimp only [rm]; omega)) (by dsimp only [rm]; omega) (by dsimp only [rm]; omega) (fun r ad' f' H locs hw B => ?_)
                obtain ⟨rfl, rfl, rfl⟩ := hw
                refine lv_i2l (v := (nI (st_len.getD 10 0)).toInt64) hx hb dX4_ofCards_117 rfl ?_
                refine k_l (k := (C1 + 8)) (n := (S1 + 172)) hA B (u_S (rest := []) X (c_X4_add l g N ad (mg g ad y cr dr th kn rf pl pz mc) (v_X4_add (v_X4_add (v_X4_add (v_X4_add de (v_X4_total (cr ca.toNatClampNeg))) ((v_X4_one (v_X4_isZeroNow cr ca)).toInt64)) ((v_X4_one (v_X4_isNegativeNow cr ca)).toInt64)) ((nI (tlen (cr ca.toNatClampNeg))).toInt64)) ((nI (st_len.getD 10 0)).toInt64) H.size) mw_X4_add md_X4_add rfl lk_X4_266 ⟨Nat.le_of_ble_eq_true rfl, Nat.le_of_ble_eq_true rfl⟩ hA hK hT B hl.1 rfl (Nat.le_of_ble_eq_true rfl) dX4_ofCards_118 (by dsimp only [rm]; omega)) (by dsimp only [rm]; omega) (by dsimp only [rm]; omega) (fun r40 ad40 f' H locs hw B => ?_)
                obtain ⟨rfl, rfl, rfl⟩ := hw
                refine lv_aload_n hx hb dX4_ofCards_121 rfl (lv_at hl 3 rfl) ?_
                refine b_get (q := 24) (k := 1) hb0 X hK B rfl in_X4 (by omega) mg_24 (by decide) lk_X4_11 rfl rfl dX4_ofCards_122 ?_
                refine lv_iload hx hb dX4_ofCards_125 (lv_at hl 2 rfl) ?_
                refine b_aald (q := 25) (t0 := 2) (v := ad (28 + ca.toNatClampNeg)) rfl X hK B (by omega) mg_25 rfl rfl (ix_in (n := 4) hzca c2 rfl) rfl dX4_ofCards_127 ?_
                have g41 : ca.toNatClampNeg < 4 := (ix_lt (n := 4) hzca c2 rfl)
                refine k_r (k := (C1 + 10)) (n := (S1 + 178)) hA B (u_S (rest := [.long (v_X4_add (v_X4_add (v_X4_add (v_X4_add (v_X4_add de (v_X4_total (cr ca.toNatClampNeg))) ((v_X4_one (v_X4_isZeroNow cr ca)).toInt64)) ((v_X4_one (v_X4_isNegativeNow cr ca)).toInt64)) ((nI (tlen (cr ca.toNatClampNeg))).toInt64)) ((nI (st_len.getD 10 0)).toInt64))]) X (c_X4_opposed l g N ad (mg g ad y cr dr th kn rf pl pz mc) (28 + ca.toNatClampNeg) (ad (28 + ca.toNatClampNeg)) (cr ca.toNatClampNeg) (pl_cr hN g41) rfl (mg_cr g41) H.size) mw_X4_opposed md_X4_opposed rfl lk_X4_121 ⟨Nat.le_of_ble_eq_true rfl, Nat.le_of_ble_eq_true rfl⟩ hA hK hT B hl.1 rfl (Nat.le_of_ble_eq_true rfl) dX4_ofCards_128 (by dsimp only [rm]; omega)) (by dsimp only [rm]; omega) (by dsimp only [rm]; omega) (fun r42 ad42 f' H locs hw B => ?_)
                generalize o43 : (v_X4_opposed (cr ca.toNatClampNeg)) = v9 at hw B
                cases v9 with
                | none =>
                  obtain ⟨rfl, rfl, rfl⟩ := pw_n hw
                  refine k_r (k := (C1 + 10)) (n := (S1 + 178)) hA B (u_S (rest := [.long (v_X4_add (v_X4_add (v_X4_add (v_X4_add (v_X4_add de (v_X4_total (cr ca.toNatClampNeg))) ((v_X4_one (v_X4_isZeroNow cr ca)).toInt64)) ((v_X4_one (v_X4_isNegativeNow cr ca)).toInt64)) ((nI (tlen (cr ca.toNatClampNeg))).toInt64)) ((nI (st_len.getD 10 0)).toInt64))]) X (c_W_toldN l g N ad (mg g ad y cr dr th kn rf pl pz mc) H.size) mw_X4_told md_X4_told rfl lk_X4_145 ⟨Nat.le_of_ble_eq_true rfl, Nat.le_of_ble_eq_true rfl⟩ hA hK hT B hl.1 rfl (Nat.le_of_ble_eq_true rfl) dX4_ofCards_131 (by dsimp only [rm]; omega)) (by dsimp only [rm]; omega) (by dsimp only [rm]; omega) (fun r ad' f' H locs hw B => ?_)
                  obtain ⟨rfl, rfl, rfl⟩ := hw
                  refine k_i (k := (C1 + 10)) (n := (S1 + 178)) hA B (u_K (rest := [.long (v_X4_add (v_X4_add (v_X4_add (v_X4_add (v_X4_add de (v_X4_total (cr ca.toNatClampNeg))) ((v_X4_one (v_X4_isZeroNow cr ca)).toInt64)) ((v_X4_one (v_X4_isNegativeNow cr ca)).toInt64)) ((nI (tlen (cr ca.toNatClampNeg))).toInt64)) ((nI (st_len.getD 10 0)).toInt64))]) (by decide) X (c_K_len l g N ad (mg g ad y cr dr th kn rf pl pz mc) 10 (by decide) H.size) mw_J0_length_8abf5 rfl md_J0_length_8abf5 rfl lk_X4_269 ⟨Nat.le_of_ble_eq_true rfl, Nat.le_of_ble_eq_true rfl⟩ hA hK hT B hl.1 rfl (Nat.le_of_ble_eq_true rfl) dX4_ofCards_134 (by dsimp only [rm]; omega)) (by dsimp only [rm]; omega) (by dsimp only [rm]; omega) (fun r ad' f' H locs hw B => ?_)
                  obtain ⟨rfl, rfl, rfl⟩ := hw
                  refine lv_i2l (v := (nI (st_len.getD 10 0)).toInt64) hx hb dX4_ofCards_137 rfl ?_
                  refine k_l (k := (C1 + 10)) (n := (S1 + 178)) hA B (u_S (rest := []) X (c_X4_add l g N ad (mg g ad y cr dr th kn rf pl pz mc) (v_X4_add (v_X4_add (v_X4_add (v_X4_add (v_X4_add de (v_X4_total (cr ca.toNatClampNeg))) ((v_X4_one (v_X4_isZeroNow cr ca)).toInt64)) ((v_X4_one (v_X4_isNegativeNow cr ca)).toInt64)) ((nI (tlen (cr ca.toNatClampNeg))).toInt64)) ((nI (st_len.getD 10 0)).toInt64)) ((nI (st_len.getD 10 0)).toInt64) H.size) mw_X4_add md_X4_add rfl lk_X4_266 ⟨Nat.le_of_ble_eq_true rfl, Nat.le_of_ble_eq_true rfl⟩ hA hK hT B hl.1 rfl (Nat.le_of_ble_eq_true rfl) dX4_ofCards_138 (by dsimp only [rm]; omega)) (by dsimp only [rm]; omega) (by dsimp only [rm]; omega) (fun r44 ad44 f' H locs hw B => ?_)
                  obtain ⟨rfl, rfl, rfl⟩ := hw
                  refine lv_lstore_n (lv' := [(3, .long (v_X4_add (v_X4_add (v_X4_add (v_X4_add (v_X4_add (v_X4_add de (v_X4_total (cr ca.toNatClampNeg))) ((v_X4_one (v_X4_isZeroNow cr ca)).toInt64)) ((v_X4_one (v_X4_isNegativeNow cr ca)).toInt64)) ((nI (tlen (cr ca.toNatClampNeg))).toInt64)) ((nI (st_len.getD 10 0)).toInt64)) ((nI (st_len.getD 10 0)).toInt64))), (6, .int wa), (5, .int ca), (0, .ref b0), (1, .long b1)]) hx hb dX4_ofCards_141 rfl hl (by decide) rfl (fun ls hl => ?_)
                  refine lv_iinc (v := ca + 1) (lv' := [(5, .int (ca + 1)), (3, .long (v_X4_add (v_X4_add (v_X4_add (v_X4_add (v_X4_add (v_X4_add de (v_X4_total (cr ca.toNatClampNeg))) ((v_X4_one (v_X4_isZeroNow cr ca)).toInt64)) ((v_X4_one (v_X4_isNegativeNow cr ca)).toInt64)) ((nI (tlen (cr ca.toNatClampNeg))).toInt64)) ((nI (st_len.getD 10 0)).toInt64)) ((nI (st_len.getD 10 0)).toInt64))), (6, .int wa), (0, .ref b0), (1, .long b1)]) hx hb dX4_ofCards_142 hl (k := 2) rfl rfl (by decide) rfl (fun ls hl => ?_)
                  refine lv_goto (tgt := 5) hx hb dX4_ofCards_145 (by decide) ?_
                  exact ih1 (ca + 1) (v_X4_add (v_X4_add (v_X4_add (v_X4_add (v_X4_add (v_X4_add de (v_X4_total (cr ca.toNatClampNeg))) ((v_X4_one (v_X4_isZeroNow cr ca)).toInt64)) ((v_X4_one (v_X4_isNegativeNow cr ca)).toInt64)) ((nI (tlen (cr ca.toNatClampNeg))).toInt64)) ((nI (st_len.getD 10 0)).toInt64)) ((nI (st_len.getD 10 0)).toInt64)) (C1 + 10) (S1 + 178) H locs (by omega) (by omega) (fu_le c2 hn1) (inc_nn hzca c2) (LF_s hjca hzca c2 (by rw [(LJ_e 3 hjwa hzwa c24 rfl)]; unfold sA; rw [tl_n o39, tl_n o43]; try rfl)) B ls (lv_sub hl [0, 1, 3, 4] rfl)
                | some t43 =>
                  obtain ⟨z43, rfl, rfl, rfl⟩ := pw_s hw
                  have B : WB g (aw N ad sz) s.heap (N + 1) (va_up ad N z43) (mg g (va_up ad N z43) (va_up y N (c_row g t43)) cr dr th kn rf pl pz mc) H locs := WM_push (by omega) B
                  refine k_r (k := (C1 + 16)) (n := (S1 + 344)) hA B (u_S (rest := [.long (v_X4_add (v_X4_add (v_X4_add (v_X4_add (v_X4_add de (v_X4_total (cr ca.toNatClampNeg))) ((v_X4_one (v_X4_isZeroNow cr ca)).toInt64)) ((v_X4_one (v_X4_isNegativeNow cr ca)).toInt64)) ((nI (tlen (cr ca.toNatClampNeg))).toInt64)) ((nI (st_len.getD 10 0)).toInt64))]) X (c_W_told l g (N + 1) (va_up ad N z43) (mg g (va_up ad N z43) (va_up y N (c_row g t43)) cr dr th kn rf pl pz mc) N z43 t43 (Nat.lt_succ_self _) up_eq ((mg_hi (by omega)).trans up_eq) H.size) mw_X4_told md_X4_told rfl lk_X4_145 ⟨Nat.le_of_ble_eq_true rfl, Nat.le_of_ble_eq_true rfl⟩ hA hK hT B hl.1 rfl (Nat.le_of_ble_eq_true rfl) dX4_ofCards_131 (by dsimp only [rm]; omega)) (by dsimp only [rm]; omega) (by dsimp only [rm]; omega) (fun r ad' f' H locs hw B => ?_)
                  obtain ⟨a45, a45x, h45, hF45, rfl, rfl, rfl⟩ := hw
                  have B : WB g (aw N ad sz) s.heap (N + 1 + 1 + 1) (va_up (va_up (va_up ad N z43) (N + 1) a45) (N + 1 + 1) a45x) (mg g (va_up (va_up (va_up ad N z43) (N + 1) a45) (N + 1 + 1) a45x) (va_up (va_up (va_up y N (c_row g t43)) (N + 1) (c_st a45x)) (N + 1 + 1) (c_ba g (tlen t43) h45)) cr dr th kn rf pl pz mc) H locs := WM_push2 (by omega) B
                  refine k_i (k := (C1 + 16)) (n := (S1 + 344)) hA B (b_V (q := N + 1) (rest := [.long (v_X4_add (v_X4_add (v_X4_add (v_X4_add (v_X4_add de (v_X4_total (cr ca.toNatClampNeg))) ((v_X4_one (v_X4_isZeroNow cr ca)).toInt64)) ((v_X4_one (v_X4_isNegativeNow cr ca)).toInt64)) ((nI (tlen (cr ca.toNatClampNeg))).toInt64)) ((nI (st_len.getD 10 0)).toInt64))]) ((up_lt (by omega)).trans up_eq) X (c_W_len l g (N + 1 + 1 + 1) (va_up (va_up (va_up ad N z43) (N + 1) a45) (N + 1 + 1) a45x) (mg g (va_up (va_up (va_up ad N z43) (N + 1) a45) (N + 1 + 1) a45x) (va_up (va_up (va_up y N (c_row g t43)) (N + 1) (c_st a45x)) (N + 1 + 1) (c_ba g (tlen t43) h45)) cr dr th kn rf pl pz mc) (N + 1) a45 (N + 1 + 1) a45x (tlen t43) h45 (by omega) (by omega) ((up_lt (by omega)).trans up_eq) up_eq ((mg_hi (by omega)).trans ((up_lt (by omega)).trans up_eq)) ((mg_hi (by omega)).trans up_eq) H.size) mw_J0_length_8abf5 md_J0_length_8abf5 rfl lk_X4_269 ⟨Nat.le_of_ble_eq_true rfl, Nat.le_of_ble_eq_true rfl⟩ hA hK hT B (by omega) ((mg_hi (by omega)).trans ((up_lt (by omega)).trans up_eq)) rfl rfl hl.1 rfl (Nat.le_of_ble_eq_true rfl) dX4_ofCards_134 (by dsimp only [rm]; omega)) (by dsimp only [rm]; omega) (by dsimp only [rm]; omega) (fun r ad' f' H locs hw B => ?_)
                  obtain ⟨rfl, rfl, rfl⟩ := hw
                  have B : WB g (aw N ad sz) s.heap N ad (mg g ad y cr dr th kn rf pl pz mc) H locs := WM_drop B (by omega) (by omega) (fun _ hk => (((up_lt (Nat.lt_succ_of_lt (Nat.lt_succ_of_lt hk))).trans (up_lt (Nat.lt_succ_of_lt hk))).trans (up_lt hk))) (fun _ hk => (((up_lt (Nat.lt_succ_of_lt (Nat.lt_succ_of_lt hk))).trans (up_lt (Nat.lt_succ_of_lt hk))).trans (up_lt hk)))
                  refine lv_i2l (v := (nI (tlen t43)).toInt64) hx hb dX4_ofCards_137 rfl ?_
                  refine k_l (k := (C1 + 16)) (n := (S1 + 344)) hA B (u_S (rest := []) X (c_X4_add l g N ad (mg g ad y cr dr th kn rf pl pz mc) (v_X4_add (v_X4_add (v_X4_add (v_X4_add (v_X4_add de (v_X4_total (cr ca.toNatClampNeg))) ((v_X4_one (v_X4_isZeroNow cr ca)).toInt64)) ((v_X4_one (v_X4_isNegativeNow cr ca)).toInt64)) ((nI (tlen (cr ca.toNatClampNeg))).toInt64)) ((nI (st_len.getD 10 0)).toInt64)) ((nI (tlen t43)).toInt64) H.size) mw_X4_add md_X4_add rfl lk_X4_266 ⟨Nat.le_of_ble_eq_true rfl, Nat.le_of_ble_eq_true rfl⟩ hA hK hT B hl.1 rfl (Nat.le_of_ble_eq_true rfl) dX4_ofCards_138 (by dsimp only [rm]; omega)) (by dsimp only [rm]; omega) (by dsimp only [rm]; omega) (fun r46 ad46 f' H locs hw B => ?_)
                  obtain ⟨rfl, rfl, rfl⟩ := hw
                  refine lv_lstore_n (lv' := [(3, .long (v_X4_add (v_X4_add (v_X4_add (v_X4_add (v_X4_add (v_X4_add de (v_X4_total (cr ca.toNatClampNeg))) ((v_X4_one (v_X4_isZeroNow cr ca)).toInt64)) ((v_X4_one (v_X4_isNegativeNow cr ca)).toInt64)) ((nI (tlen (cr ca.toNatClampNeg))).toInt64)) ((nI (st_len.getD 10 0)).toInt64)) ((nI (tlen t43)).toInt64))), (6, .int wa), (5, .int ca), (0, .ref b0), (1, .long b1)]) hx hb dX4_ofCards_141 rfl hl (by decide) rfl (fun ls hl => ?_)
                  refine lv_iinc (v := ca + 1) (lv' := [(5, .int (ca + 1)), (3, .long (v_X4_add (v_X4_add (v_X4_add (v_X4_add (v_X4_add (v_X4_add de (v_X4_total (cr ca.toNatClampNeg))) ((v_X4_one (v_X4_isZeroNow cr ca)).toInt64)) ((v_X4_one (v_X4_isNegativeNow cr ca)).toInt64)) ((nI (tlen (cr ca.toNatClampNeg))).toInt64)) ((nI (st_len.getD 10 0)).toInt64)) ((nI (tlen t43)).toInt64))), (6, .int wa), (0, .ref b0), (1, .long b1)]) hx hb dX4_ofCards_142 hl (k := 2) rfl rfl (by decide) rfl (fun ls hl => ?_)
                  refine lv_goto (tgt := 5) hx hb dX4_ofCards_145 (by decide) ?_
                  exact ih1 (ca + 1) (v_X4_add (v_X4_add (v_X4_add (v_X4_add (v_X4_add (v_X4_add de (v_X4_total (cr ca.toNatClampNeg))) ((v_X4_one (v_X4_isZeroNow cr ca)).toInt64)) ((v_X4_one (v_X4_isNegativeNow cr ca)).toInt64)) ((nI (tlen (cr ca.toNatClampNeg))).toInt64)) ((nI (st_len.getD 10 0)).toInt64)) ((nI (tlen t43)).toInt64)) (C1 + 16) (S1 + 344) H locs (by omega) (by omega) (fu_le c2 hn1) (inc_nn hzca c2) (LF_s hjca hzca c2 (by rw [(LJ_e 3 hjwa hzwa c24 rfl)]; unfold sA; rw [tl_n o39, tl_s o43]; try rfl)) B ls (lv_sub hl [0, 1, 3, 4] rfl)
              | some t39 =>
                obtain ⟨z39, rfl, rfl, rfl⟩ := pw_s hw
                have B : WB g (aw N ad sz) s.heap (N + 1) (va_up ad N z39) (mg g (va_up ad N z39) (va_up y N (c_row g t39)) cr dr th kn rf pl pz mc) H locs := WM_push (by omega) B
                refine k_r (k := (C1 + 14)) (n := (S1 + 338)) hA B (u_S (rest := [.long (v_X4_add (v_X4_add (v_X4_add (v_X4_add de (v_X4_total (cr ca.toNatClampNeg))) ((v_X4_one (v_X4_isZeroNow cr ca)).toInt64)) ((v_X4_one (v_X4_isNegativeNow cr ca)).toInt64)) ((nI (tlen (cr ca.toNatClampNeg))).toInt64))]) X (c_W_told l g (N + 1) (va_up ad N z39) (mg g (va_up ad N z39) (va_up y N (c_row g t39)) cr dr th kn rf pl pz mc) N z39 t39 (Nat.lt_succ_self _) up_eq ((mg_hi (by omega)).trans up_eq) H.size) mw_X4_told md_X4_told rfl lk_X4_145 ⟨Nat.le_of_ble_eq_true rfl, Nat.le_of_ble_eq_true rfl⟩ hA hK hT B hl.1 rfl (Nat.le_of_ble_eq_true rfl) dX4_ofCards_111 (by dsimp only [rm]; omega)) (by dsimp only [rm]; omega) (by dsimp only [rm]; omega) (fun r ad' f' H locs hw B => ?_)
                obtain ⟨a47, a47x, h47, hF47, rfl, rfl, rfl⟩ := hw
                have B : WB g (aw N ad sz) s.heap (N + 1 + 1 + 1) (va_up (va_up (va_up ad N z39) (N + 1) a47) (N + 1 + 1) a47x) (mg g (va_up (va_up (va_up ad N z39) (N + 1) a47) (N + 1 + 1) a47x) (va_up (va_up (va_up y N (c_row g t39)) (N + 1) (c_st a47x)) (N + 1 + 1) (c_ba g (tlen t39) h47)) cr dr th kn rf pl pz mc) H locs := WM_push2 (by omega) B
                refine k_i (k := (C1 + 14)) (n := (S1 + 338)) hA B (b_V (q := N + 1) (rest := [.long (v_X4_add (v_X4_add (v_X4_add (v_X4_add de (v_X4_total (cr ca.toNatClampNeg))) ((v_X4_one (v_X4_isZeroNow cr ca)).toInt64)) ((v_X4_one (v_X4_isNegativeNow cr ca)).toInt64)) ((nI (tlen (cr ca.toNatClampNeg))).toInt64))]) ((up_lt (by omega)).trans up_eq) X (c_W_len l g (N + 1 + 1 + 1) (va_up (va_up (va_up ad N z39) (N + 1) a47) (N + 1 + 1) a47x) (mg g (va_up (va_up (va_up ad N z39) (N + 1) a47) (N + 1 + 1) a47x) (va_up (va_up (va_up y N (c_row g t39)) (N + 1) (c_st a47x)) (N + 1 + 1) (c_ba g (tlen t39) h47)) cr dr th kn rf pl pz mc) (N + 1) a47 (N + 1 + 1) a47x (tlen t39) h47 (by omega) (by omega) ((up_lt (by omega)).trans up_eq) up_eq ((mg_hi (by omega)).trans ((up_lt (by omega)).trans up_eq)) ((mg_hi (by omega)).trans up_eq) H.size) mw_J0_length_8abf5 md_J0_length_8abf5 rfl lk_X4_269 ⟨Nat.le_of_ble_eq_true rfl, Nat.le_of_ble_eq_true rfl⟩ hA hK hT B (by omega) ((mg_hi (by omega)).trans ((up_lt (by omega)).trans up_eq)) rfl rfl hl.1 rfl (Nat.le_of_ble_eq_true rfl) dX4_ofCards_114 (by dsimp only [rm]; omega)) (by dsimp only [rm]; omega) (by dsimp only [rm]; omega) (fun r ad' f' H locs hw B => ?_)
                obtain ⟨rfl, rfl, rfl⟩ := hw
                have B : WB g (aw N ad sz) s.heap N ad (mg g ad y cr dr th kn rf pl pz mc) H locs := WM_drop B (by omega) (by omega) (fun _ hk => (((up_lt (Nat.lt_succ_of_lt (Nat.lt_succ_of_lt hk))).trans (up_lt (Nat.lt_succ_of_lt hk))).trans (up_lt hk))) (fun _ hk => (((up_lt (Nat.lt_succ_of_lt (Nat.lt_succ_of_lt hk))).trans (up_lt (Nat.lt_succ_of_lt hk))).trans (up_lt hk)))
                refine lv_i2l (v := (nI (tlen t39)).toInt64) hx hb dX4_ofCards_117 rfl ?_
                refine k_l (k := (C1 + 14)) (n := (S1 + 338)) hA B (u_S (rest := []) X (c_X4_add l g N ad (mg g ad y cr dr th kn rf pl pz mc) (v_X4_add (v_X4_add (v_X4_add (v_X4_add de (v_X4_total (cr ca.toNatClampNeg))) ((v_X4_one (v_X4_isZeroNow cr ca)).toInt64)) ((v_X4_one (v_X4_isNegativeNow cr ca)).toInt64)) ((nI (tlen (cr ca.toNatClampNeg))).toInt64)) ((nI (tlen t39)).toInt64) H.size) mw_X4_add md_X4_add rfl lk_X4_266 ⟨Nat.le_of_ble_eq_true rfl, Nat.le_of_ble_eq_true rfl⟩ hA hK hT B hl.1 rfl (Nat.le_of_ble_eq_true rfl) dX4_ofCards_118 (by dsimp only [rm]; omega)) (by dsimp only [rm]; omega) (by dsimp only [rm]; omega) (fun r48 ad48 f' H locs hw B => ?_)
                obtain ⟨rfl, rfl, rfl⟩ := hw
                refine lv_aload_n hx hb dX4_ofCards_121 rfl (lv_at hl 3 rfl) ?_
                refine b_get (q := 24) (k := 1) hb0 X hK B rfl in_X4 (by omega) mg_24 (by decide) lk_X4_11 rfl rfl dX4_ofCards_122 ?_
                refine lv_iload hx hb dX4_ofCards_125 (lv_at hl 2 rfl) ?_
                refine b_aald (q := 25) (t0 := 2) (v := ad (28 + ca.toNatClampNeg)) rfl X hK B (by omega) mg_25 rfl rfl (ix_in (n := 4) hzca c2 rfl) rfl dX4_ofCards_127 ?_
                have g49 : ca.toNatClampNeg < 4 := (ix_lt (n := 4) hzca c2 rfl)
                refine k_r (k := (C1 + 16)) (n := (S1 + 344)) hA B (u_S (rest := [.long (v_X4_add (v_X4_add (v_X4_add (v_X4_add (v_X4_add de (v_X4_total (cr ca.toNatClampNeg))) ((v_X4_one (v_X4_isZeroNow cr ca)).toInt64)) ((v_X4_one (v_X4_isNegativeNow cr ca)).toInt64)) ((nI (tlen (cr ca.toNatClampNeg))).toInt64)) ((nI (tlen t39)).toInt64))]) X (c_X4_opposed l g N ad (mg g ad y cr dr th kn rf pl pz mc) (28 + ca.toNatClampNeg) (ad (28 + ca.toNatClampNeg)) (cr ca.toNatClampNeg) (pl_cr hN g49) rfl (mg_cr g49) H.size) mw_X4_opposed md_X4_opposed rfl lk_X4_121 ⟨Nat.le_of_ble_eq_true rfl, Nat.le_of_ble_eq_true rfl⟩ hA hK hT B hl.1 rfl (Nat.le_of_ble_eq_true rfl) dX4_ofCards_128 (by dsimp only [rm]; omega)) (by dsimp only [rm]; omega) (by dsimp only [rm]; omega) (fun r50 ad50 f' H locs hw B => ?_)
                generalize o51 : (v_X4_opposed (cr ca.toNatClampNeg)) = v9 at hw B
                cases v9 with
                | none =>
                  obtain ⟨rfl, rfl, rfl⟩ := pw_n hw
                  refine k_r (k := (C1 + 16)) (n := (S1 + 344)) hA B (u_S (rest := [.long (v_X4_add (v_X4_add (v_X4_add (v_X4_add (v_X4_add de (v_X4_total (cr ca.toNatClampNeg))) ((v_X4_one (v_X4_isZeroNow cr ca)).toInt64)) ((v_X4_one (v_X4_isNegativeNow cr ca)).toInt64)) ((nI (tlen (cr ca.toNatClampNeg))).toInt64)) ((nI (tlen t39)).toInt64))]) X (c_W_toldN l g N ad (mg g ad y cr dr th kn rf pl pz mc) H.size) mw_X4_told md_X4_told rfl lk_X4_145 ⟨Nat.le_of_ble_eq_true rfl, Nat.le_of_ble_eq_true rfl⟩ hA hK hT B hl.1 rfl (Nat.le_of_ble_eq_true rfl) dX4_ofCards_131 (by dsimp only [rm]; omega)) (by dsimp only [rm]; omega) (by dsimp only [rm]; omega) (fun r ad' f' H locs hw B => ?_)
                  obtain ⟨rfl, rfl, rfl⟩ := hw
                  refine k_i (k := (C1 + 16)) (n := (S1 + 344)) hA B (u_K (rest := [.long (v_X4_add (v_X4_add (v_X4_add (v_X4_add (v_X4_add de (v_X4_total (cr ca.toNatClampNeg))) ((v_X4_one (v_X4_isZeroNow cr ca)).toInt64)) ((v_X4_one (v_X4_isNegativeNow cr ca)).toInt64)) ((nI (tlen (cr ca.toNatClampNeg))).toInt64)) ((nI (tlen t39)).toInt64))]) (by decide) X (c_K_len l g N ad (mg g ad y cr dr th kn rf pl pz mc) 10 (by decide) H.size) mw_J0_length_8abf5 rfl md_J0_length_8abf5 rfl lk_X4_269 ⟨Nat.le_of_ble_eq_true rfl, Nat.le_of_ble_eq_true rfl⟩ hA hK hT B hl.1 rfl (Nat.le_of_ble_eq_true rfl) dX4_ofCards_134 (by dsimp only [rm]; omega)) (by dsimp only [rm]; omega) (by dsimp only [rm]; omega) (fun r ad' f' H locs hw B => ?_)
                  obtain ⟨rfl, rfl, rfl⟩ := hw
                  refine lv_i2l (v := (nI (st_len.getD 10 0)).toInt64) hx hb dX4_ofCards_137 rfl ?_
                  refine k_l (k := (C1 + 16)) (n := (S1 + 344)) hA B (u_S (rest := []) X (c_X4_add l g N ad (mg g ad y cr dr th kn rf pl pz mc) (v_X4_add (v_X4_add (v_X4_add (v_X4_add (v_X4_add de (v_X4_total (cr ca.toNatClampNeg))) ((v_X4_one (v_X4_isZeroNow cr ca)).toInt64)) ((v_X4_one (v_X4_isNegativeNow cr ca)).toInt64)) ((nI (tlen (cr ca.toNatClampNeg))).toInt64)) ((nI (tlen t39)).toInt64)) ((nI (st_len.getD 10 0)).toInt64) H.size) mw_X4_add md_X4_add rfl lk_X4_266 ⟨Nat.le_of_ble_eq_true rfl, Nat.le_of_ble_eq_true rfl⟩ hA hK hT B hl.1 rfl (Nat.le_of_ble_eq_true rfl) dX4_ofCards_138 (by dsimp only [rm]; omega)) (by dsimp only [rm]; omega) (by dsimp only [rm]; omega) (fun r52 ad52 f' H locs hw B => ?_)
                  obtain ⟨rfl, rfl, rfl⟩ := hw
                  refine lv_lstore_n (lv' := [(3, .long (v_X4_add (v_X4_add (v_X4_add (v_X4_add (v_X4_add (v_X4_add de (v_X4_total (cr ca.toNatClampNeg))) ((v_X4_one (v_X4_isZeroNow cr ca)).toInt64)) ((v_X4_one (v_X4_isNegativeNow cr ca)).toInt64)) ((nI (tlen (cr ca.toNatClampNeg))).toInt64)) ((nI (tlen t39)).toInt64)) ((nI (st_len.getD 10 0)).toInt64))), (6, .int wa), (5, .int ca), (0, .ref b0), (1, .long b1)]) hx hb dX4_ofCards_141 rfl hl (by decide) rfl (fun ls hl => ?_)
                  refine lv_iinc (v := ca + 1) (lv' := [(5, .int (ca + 1)), (3, .long (v_X4_add (v_X4_add (v_X4_add (v_X4_add (v_X4_add (v_X4_add de (v_X4_total (cr ca.toNatClampNeg))) ((v_X4_one (v_X4_isZeroNow cr ca)).toInt64)) ((v_X4_one (v_X4_isNegativeNow cr ca)).toInt64)) ((nI (tlen (cr ca.toNatClampNeg))).toInt64)) ((nI (tlen t39)).toInt64)) ((nI (st_len.getD 10 0)).toInt64))), (6, .int wa), (0, .ref b0), (1, .long b1)]) hx hb dX4_ofCards_142 hl (k := 2) rfl rfl (by decide) rfl (fun ls hl => ?_)
                  refine lv_goto (tgt := 5) hx hb dX4_ofCards_145 (by decide) ?_
                  exact ih1 (ca + 1) (v_X4_add (v_X4_add (v_X4_add (v_X4_add (v_X4_add (v_X4_add de (v_X4_total (cr ca.toNatClampNeg))) ((v_X4_one (v_X4_isZeroNow cr ca)).toInt64)) ((v_X4_one (v_X4_isNegativeNow cr ca)).toInt64)) ((nI (tlen (cr ca.toNatClampNeg))).toInt64)) ((nI (tlen t39)).toInt64)) ((nI (st_len.getD 10 0)).toInt64)) (C1 + 16) (S1 + 344) H locs (by omega) (by omega) (fu_le c2 hn1) (inc_nn hzca c2) (LF_s hjca hzca c2 (by rw [(LJ_e 3 hjwa hzwa c24 rfl)]; unfold sA; rw [tl_s o39, tl_n o51]; try rfl)) B ls (lv_sub hl [0, 1, 3, 4] rfl)
                | some t51 =>
                  obtain ⟨z51, rfl, rfl, rfl⟩ := pw_s hw
                  have B : WB g (aw N ad sz) s.heap (N + 1) (va_up ad N z51) (mg g (va_up ad N z51) (va_up y N (c_row g t51)) cr dr th kn rf pl pz mc) H locs := WM_push (by omega) B
                  refine k_r (k := (C1 + 22)) (n := (S1 + 510)) hA B (u_S (rest := [.long (v_X4_add (v_X4_add (v_X4_add (v_X4_add (v_X4_add de (v_X4_total (cr ca.toNatClampNeg))) ((v_X4_one (v_X4_isZeroNow cr ca)).toInt64)) ((v_X4_one (v_X4_isNegativeNow cr ca)).toInt64)) ((nI (tlen (cr ca.toNatClampNeg))).toInt64)) ((nI (tlen t39)).toInt64))]) X (c_W_told l g (N + 1) (va_up ad N z51) (mg g (va_up ad N z51) (va_up y N (c_row g t51)) cr dr th kn rf pl pz mc) N z51 t51 (Nat.lt_succ_self _) up_eq ((mg_hi (by omega)).trans up_eq) H.size) mw_X4_told md_X4_told rfl lk_X4_145 ⟨Nat.le_of_ble_eq_true rfl, Nat.le_of_ble_eq_true rfl⟩ hA hK hT B hl.1 rfl (Nat.le_of_ble_eq_true rfl) dX4_ofCards_131 (by dsimp only [rm]; omega)) (by dsimp only [rm]; omega) (by dsimp only [rm]; omega) (fun r ad' f' H locs hw B => ?_)
                  obtain ⟨a53, a53x, h53, hF53, rfl, rfl, rfl⟩ := hw
                  have B : WB g (aw N ad sz) s.heap (N + 1 + 1 + 1) (va_up (va_up (va_up ad N z51) (N + 1) a53) (N + 1 + 1) a53x) (mg g (va_up (va_up (va_up ad N z51) (N + 1) a53) (N + 1 + 1) a53x) (va_up (va_up (va_up y N (c_row g t51)) (N + 1) (c_st a53x)) (N + 1 + 1) (c_ba g (tlen t51) h53)) cr dr th kn rf pl pz mc) H locs := WM_push2 (by omega) B
                  refine k_i (k := (C1 + 22)) (n := (S1 + 510)) hA B (b_V (q := N + 1) (rest := [.long (v_X4_add (v_X4_add (v_X4_add (v_X4_add (v_X4_add de (v_X4_total (cr ca.toNatClampNeg))) ((v_X4_one (v_X4_isZeroNow cr ca)).toInt64)) ((v_X4_one (v_X4_isNegativeNow cr ca)).toInt64)) ((nI (tlen (cr ca.toNatClampNeg))).toInt64)) ((nI (tlen t39)).toInt64))]) ((up_lt (by omega)).trans up_eq) X (c_W_len l g (N + 1 + 1 + 1) (va_up (va_up (va_up ad N z51) (N + 1) a53) (N + 1 + 1) a53x) (mg g (va_up (va_up (va_up ad N z51) (N + 1) a53) (N + 1 + 1) a53x) (va_up (va_up (va_up y N (c_row g t51)) (N + 1) (c_st a53x)) (N + 1 + 1) (c_ba g (tlen t51) h53)) cr dr th kn rf pl pz mc) (N + 1) a53 (N + 1 + 1) a53x (tlen t51) h53 (by omega) (by omega) ((up_lt (by omega)).trans up_eq) up_eq ((mg_hi (by omega)).trans ((up_lt (by omega)).trans up_eq)) ((mg_hi (by omega)).trans up_eq) H.size) mw_J0_length_8abf5 md_J0_length_8abf5 rfl lk_X4_269 ⟨Nat.le_of_ble_eq_true rfl, Nat.le_of_ble_eq_true rfl⟩ hA hK hT B (by omega) ((mg_hi (by omega)).trans ((up_lt (by omega)).trans up_eq)) rfl rfl hl.1 rfl (Nat.le_of_ble_eq_true rfl) dX4_ofCards_134 (by dsimp only [rm]; omega)) (by dsimp only [rm]; omega) (by dsimp only [rm]; omega) (fun r ad' f' H locs hw B => ?_)
                  obtain ⟨rfl, rfl, rfl⟩ := hw
                  have B : WB g (aw N ad sz) s.heap N ad (mg g ad y cr dr th kn rf pl pz mc) H locs := WM_drop B (by omega) (by omega) (fun _ hk => (((up_lt (Nat.lt_succ_of_lt (Nat.lt_succ_of_lt hk))).trans (up_lt (Nat.lt_succ_of_lt hk))).trans (up_lt hk))) (fun _ hk => (((up_lt (Nat.lt_succ_of_lt (Nat.lt_succ_of_lt hk))).trans (up_lt (Nat.lt_succ_of_lt hk))).trans (up_lt hk)))
                  refine lv_i2l (v := (nI (tlen t51)).toInt64) hx hb dX4_ofCards_137 rfl ?_
                  refine k_l (k := (C1 + 22)) (n := (S1 + 510)) hA B (u_S (rest := []) X (c_X4_add l g N ad (mg g ad y cr dr th kn rf pl pz mc) (v_X4_add (v_X4_add (v_X4_add (v_X4_add (v_X4_add de (v_X4_total (cr ca.toNatClampNeg))) ((v_X4_one (v_X4_isZeroNow cr ca)).toInt64)) ((v_X4_one (v_X4_isNegativeNow cr ca)).toInt64)) ((nI (tlen (cr ca.toNatClampNeg))).toInt64)) ((nI (tlen t39)).toInt64)) ((nI (tlen t51)).toInt64) H.size) mw_X4_add md_X4_add rfl lk_X4_266 ⟨Nat.le_of_ble_eq_true rfl, Nat.le_of_ble_eq_true rfl⟩ hA hK hT B hl.1 rfl (Nat.le_of_ble_eq_true rfl) dX4_ofCards_138 (by dsimp only [rm]; omega)) (by dsimp only [rm]; omega) (by dsimp only [rm]; omega) (fun r54 ad54 f' H locs hw B => ?_)
                  obtain ⟨rfl, rfl, rfl⟩ := hw
                  refine lv_lstore_n (lv' := [(3, .long (v_X4_add (v_X4_add (v_X4_add (v_X4_add (v_X4_add (v_X4_add de (v_X4_total (cr ca.toNatClampNeg))) ((v_X4_one (v_X4_isZeroNow cr ca)).toInt64)) ((v_X4_one (v_X4_isNegativeNow cr ca)).toInt64)) ((nI (tlen (cr ca.toNatClampNeg))).toInt64)) ((nI (tlen t39)).toInt64)) ((nI (tlen t51)).toInt64))), (6, .int wa), (5, .int ca), (0, .ref b0), (1, .long b1)]) hx hb dX4_ofCards_141 rfl hl (by decide) rfl (fun ls hl => ?_)
                  refine lv_iinc (v := ca + 1) (lv' := [(5, .int (ca + 1)), (3, .long (v_X4_add (v_X4_add (v_X4_add (v_X4_add (v_X4_add (v_X4_add de (v_X4_total (cr ca.toNatClampNeg))) ((v_X4_one (v_X4_isZeroNow cr ca)).toInt64)) ((v_X4_one (v_X4_isNegativeNow cr ca)).toInt64)) ((nI (tlen (cr ca.toNatClampNeg))).toInt64)) ((nI (tlen t39)).toInt64)) ((nI (tlen t51)).toInt64))), (6, .int wa), (0, .ref b0), (1, .long b1)]) hx hb dX4_ofCards_142 hl (k := 2) rfl rfl (by decide) rfl (fun ls hl => ?_)
                  refine lv_goto (tgt := 5) hx hb dX4_ofCards_145 (by decide) ?_
                  exact ih1 (ca + 1) (v_X4_add (v_X4_add (v_X4_add (v_X4_add (v_X4_add (v_X4_add de (v_X4_total (cr ca.toNatClampNeg))) ((v_X4_one (v_X4_isZeroNow cr ca)).toInt64)) ((v_X4_one (v_X4_isNegativeNow cr ca)).toInt64)) ((nI (tlen (cr ca.toNatClampNeg))).toInt64)) ((nI (tlen t39)).toInt64)) ((nI (tlen t51)).toInt64)) (C1 + 22) (S1 + 510) H locs (by omega) (by omega) (fu_le c2 hn1) (inc_nn hzca c2) (LF_s hjca hzca c2 (by rw [(LJ_e 3 hjwa hzwa c24 rfl)]; unfold sA; rw [tl_s o39, tl_s o51]; try rfl)) B ls (lv_sub hl [0, 1, 3, 4] rfl)
            · refine lv_lload_n hx hb dX4_ofCards_20 rfl (lv_at hl 2 rfl) ?_
              refine lv_aload_n hx hb dX4_ofCards_21 rfl (lv_at hl 3 rfl) ?_
              refine b_get (q := 24) (k := 1) hb0 X hK B rfl in_X4 (by omega) mg_24 (by decide) lk_X4_11 rfl rfl dX4_ofCards_22 ?_
              refine lv_iload hx hb dX4_ofCards_25 (lv_at hl 1 rfl) ?_
              refine b_aald (q := 25) (t0 := 2) (v := ad (28 + ca.toNatClampNeg)) rfl X hK B (by omega) mg_25 rfl rfl (ix_in (n := 4) hzca c2 rfl) rfl dX4_ofCards_27 ?_
              have g55 : ca.toNatClampNeg < 4 := (ix_lt (n := 4) hzca c2 rfl)
              refine lv_iload hx hb dX4_ofCards_28 (lv_at hl 0 rfl) ?_
              refine h_ld X hK B (pl_cr hN g55) rfl (mg_cr g55) (ix_in (n := 3) hzwa c24 rfl) dX4_ofCards_30 ?_
              refine lv_i2l (v := (rw3 (cr ca.toNatClampNeg) wa.toNatClampNeg).toInt64) hx hb dX4_ofCards_31 rfl ?_
              refine k_l (k := (C23 + 0)) (n := (S23 + 0)) hA B (u_S (rest := []) X (c_X4_add l g N ad (mg g ad y cr dr th kn rf pl pz mc) de ((rw3 (cr ca.toNatClampNeg) wa.toNatClampNeg).toInt64) H.size) mw_X4_add md_X4_add rfl lk_X4_266 ⟨Nat.le_of_ble_eq_true rfl, Nat.le_of_ble_eq_true rfl⟩ hA hK hT B hl.1 rfl (Nat.le_of_ble_eq_true rfl) dX4_ofCards_32 (by dsimp only [rm]; omega)) (by dsimp only [rm]; omega) (by dsimp only [rm]; omega) (fun r56 ad56 f' H locs hw B => ?_)
              obtain ⟨rfl, rfl, rfl⟩ := hw
              refine lv_lstore_n (lv' := [(3, .long (v_X4_add de ((rw3 (cr ca.toNatClampNeg) wa.toNatClampNeg).toInt64))), (6, .int wa), (5, .int ca), (0, .ref b0), (1, .long b1)]) hx hb dX4_ofCards_35 rfl hl (by decide) rfl (fun ls hl => ?_)
              refine lv_iinc (v := wa + 1) (lv' := [(6, .int (wa + 1)), (3, .long (v_X4_add de ((rw3 (cr ca.toNatClampNeg) wa.toNatClampNeg).toInt64))), (5, .int ca), (0, .ref b0), (1, .long b1)]) hx hb dX4_ofCards_36 hl (k := 1) rfl rfl (by decide) rfl (fun ls hl => ?_)
              refine lv_goto (tgt := 14) hx hb dX4_ofCards_39 (by decide) ?_
              exact ih23 (wa + 1) (v_X4_add de ((rw3 (cr ca.toNatClampNeg) wa.toNatClampNeg).toInt64)) (C23 + 0) (S23 + 0) H locs (by omega) (by omega) (fu_le c24 hn23) (inc_nn hzwa c24) (LF_s hjwa hzwa c24 (rfl)) B ls (lv_sub hl [0, 2, 1, 3, 4] rfl)
        have hT23 : 3 + 1 ≤ 4 := (by decide)
        exact loop23 (3 + 1) 0 dd (C1 + 0) (S1 + 0) H locs (by first | exact Nat.le_refl _ | exact Nat.le_of_ble_eq_true rfl | omega) (by first | exact Nat.le_refl _ | exact Nat.le_of_ble_eq_true rfl | omega) (by decide) (by decide) (LF_0 (by decide)) B ls hl
  have hT1 : 4 + 1 ≤ 5 := (by decide)
  exact loop1 (4 + 1) 0 b1 0 0 H locs (by first | exact Nat.le_refl _ | exact Nat.le_of_ble_eq_true rfl | omega) (by first | exact Nat.le_refl _ | exact Nat.le_of_ble_eq_true rfl | omega) (by decide) (by decide) (LF_0 (by decide)) B ls hl

set_option maxHeartbeats 16000000 in
set_option maxRecDepth 100000 in
theorem c1_X4_ofDates (l : Launch) (g : GG) (N : Nat) (ad : Nat → Nat) (y : Nat → va_E) (cr dr : Nat → TR) (th kn rf : Int32) (pl : Nat → TR) (pz : Nat) (mc : Int32) (hN : 36 + pz ≤ N) (b0 : Nat) (hb0 : ad 24 = b0) (b1 : Int64) (hdr : ∀ i, i < 4 → okd (dr i)) : KL l yX4_ofDates cX4_ofDates 7 (rm 8 500 6300) g [.ref b0, .long b1] N ad (mg g ad y cr dr th kn rf pl pz mc) N (fun r ad' f' => ad = ad' ∧ dD cr dr b1 = r ∧ mg g ad y cr dr th kn rf pl pz mc = f') := by
  intro sz
  refine mt_start (by decide) (Nat.le_of_ble_eq_true rfl) ?_
  intro p e s m args below meth c hsz X hr hnam hA hK hT H locs B ls hl
  obtain ⟨hx, hb, hml, hown, hts, hlocks⟩ := id X
  have hl : lv_has ls 7 [(0, .ref b0), (1, .long b1)] := hl
  refine lv_lload_n hx hb dX4_ofDates_0 rfl (lv_at hl 1 rfl) ?_
  refine lv_lstore_n (lv' := [(3, .long b1), (0, .ref b0), (1, .long b1)]) hx hb dX4_ofDates_1 rfl hl (by decide) rfl (fun ls hl => ?_)
  refine lv_iconst (v := 0) hx hb dX4_ofDates_2 (by decide) ?_
  refine lv_istore (lv' := [(5, .int 0), (3, .long b1), (0, .ref b0), (1, .long b1)]) hx hb dX4_ofDates_3 hl (by decide) rfl (fun ls hl => ?_)
  have loop1 : ∀ (n1 : Nat) (da : Int32) (dd : Int64) (C1 : Nat) (S1 : Nat) (H : Heap) (locs : List Loc), C1 + n1 * 60 ≤ 300 → S1 + n1 * 400 ≤ 2000 → ((4 : Int32).toInt - da.toInt).toNat < n1 → ¬ da < 0 → LJ 4 (fo (sF cr dr) b1) da dd → WB g (aw N ad sz) s.heap N ad (mg g ad y cr dr th kn rf pl pz mc) H locs → ∀ ls : Array Slot, lv_has ls 7 [(5, .int da), (3, .long dd), (0, .ref b0), (1, .long b1)] → W p l e (rm 8 500 6300) s m args below meth c H locs C1 S1 (MQ below (va_Ql (fun r (u : WS) => (fun r ad' f' => ad = ad' ∧ dD cr dr b1 = r ∧ mg g ad y cr dr th kn rf pl pz mc = f') r u.1 u.2) (fun u t => PO g N u.1 u.2 (aw N ad sz) t) (aw N ad sz)) args s (rm 8 500 6300).cells (rm 8 500 6300).slots (aw N ad sz)) (F0 m 5 ls []) := by
    intro n1
    induction n1 with
    | zero => intro da dd C1 S1 H locs _ _ hn; exact absurd hn (Nat.not_lt_zero _)
    | succ n1 ih1 =>
      intro da dd C1 S1 H locs hC1 hS1 hn1 hzda hjda B ls hl
      refine lv_iload hx hb dX4_ofDates_5 (lv_at hl 0 rfl) ?_
      refine lv_iconst (v := 4) hx hb dX4_ofDates_7 (by decide) ?_
      refine lv_icmp_ge (tgt := 95) hx hb dX4_ofDates_8 (by decide) (fun c2 => ?_) (fun c2 => ?_)
      · refine W.widen (show (C1 + 0) ≤ 300 by omega) (show (S1 + 0) ≤ 2000 by omega) ?_
        refine lv_iconst (v := 0) hx hb dX4_ofDates_95 (by decide) ?_
        refine lv_istore (lv' := [(5, .int 0), (3, .long dd), (0, .ref b0), (1, .long b1)]) hx hb dX4_ofDates_96 hl (by decide) rfl (fun ls hl => ?_)
        have loop3 : ∀ (n3 : Nat) (dc : Int32) (dg : Int64) (C3 : Nat) (S3 : Nat) (H : Heap) (locs : List Loc), C3 + n3 * 40 ≤ 500 → S3 + n3 * 860 ≤ 6300 → ((4 : Int32).toInt - dc.toInt).toNat < n3 → ¬ dc < 0 → LJ 4 (fo (sQ dr) dd) dc dg → WB g (aw N ad sz) s.heap N ad (mg g ad y cr dr th kn rf pl pz mc) H locs → ∀ ls : Array Slot, lv_has ls 7 [(5, .int dc), (3, .long dg), (0, .ref b0), (1, .long b1)] → W p l e (rm 8 500 6300) s m args below meth c H locs C3 S3 (MQ below (va_Ql (fun r (u : WS) => (fun r ad' f' => ad = ad' ∧ dD cr dr b1 = r ∧ mg g ad y cr dr th kn rf pl pz mc = f') r u.1 u.2) (fun u t => PO g N u.1 u.2 (aw N ad sz) t) (aw N ad sz)) args s (rm 8 500 6300).cells (rm 8 500 6300).slots (aw N ad sz)) (F0 m 98 ls []) := by
          intro n3
          induction n3 with
          | zero => intro dc dg C3 S3 H locs _ _ hn; exact absurd hn (Nat.not_lt_zero _)
          | succ n3 ih3 =>
            intro dc dg C3 S3 H locs hC3 hS3 hn3 hzdc hjdc B ls hl
            refine lv_iload hx hb dX4_ofDates_98 (lv_at hl 0 rfl) ?_
            refine lv_iconst (v := 4) hx hb dX4_ofDates_100 (by decide) ?_
            refine lv_icmp_ge (tgt := 166) hx hb dX4_ofDates_101 (by decide) (fun c4 => ?_) (fun c4 => ?_)
            · refine W.widen (show (C3 + 0) ≤ 500 by omega) (show (S3 + 0) ≤ 6300 by omega) ?_
              refine lv_lload_n hx hb dX4_ofDates_166 rfl (lv_at hl 1 rfl) ?_
              exact rt_l X hr (ad, mg g ad y cr dr th kn rf pl pz mc) B (PO_of B) ⟨rfl, by unfold dD; rw [(LJ_e 4 hjdc hzdc c4 rfl), (LJ_e 4 hjda hzda c2 rfl)], rfl⟩ (Nat.le_of_ble_eq_true rfl) (Nat.le_of_ble_eq_true rfl) dX4_ofDates_167
            · refine lv_iconst (v := 0) hx hb dX4_ofDates_104 (by decide) ?_
              refine lv_istore (lv' := [(6, .int 0), (5, .int dc), (3, .long dg), (0, .ref b0), (1, .long b1)]) hx hb dX4_ofDates_105 hl (by decide) rfl (fun ls hl => ?_)
              have loop5 : ∀ (n5 : Nat) (dk : Int32) (dh : Int64) (C5 : Nat) (S5 : Nat) (H : Heap) (locs : List Loc), C5 + n5 * 8 ≤ (C3 + 40) → S5 + n5 * 172 ≤ (S3 + 860) → ((4 : Int32).toInt - dk.toInt).toNat < n5 → ¬ dk < 0 → LJ 4 (fo (sO dr dc.toNatClampNeg) dg) dk dh → WB g (aw N ad sz) s.heap N ad (mg g ad y cr dr th kn rf pl pz mc) H locs → ∀ ls : Array Slot, lv_has ls 7 [(6, .int dk), (5, .int dc), (3, .long dh), (0, .ref b0), (1, .long b1)] → W p l e (rm 8 500 6300) s m args below meth c H locs C5 S5 (MQ below (va_Ql (fun r (u : WS) => (fun r ad' f' => ad = ad' ∧ dD cr dr b1 = r ∧ mg g ad y cr dr th kn rf pl pz mc = f') r u.1 u.2) (fun u t => PO g N u.1 u.2 (aw N ad sz) t) (aw N ad sz)) args s (rm 8 500 6300).cells (rm 8 500 6300).slots (aw N ad sz)) (F0 m 107 ls []) := by
                intro n5
                induction n5 with
                | zero => intro dk dh C5 S5 H locs _ _ hn; exact absurd hn (Nat.not_lt_zero _)
                | succ n5 ih5 =>
                  intro dk dh C5 S5 H locs hC5 hS5 hn5 hzdk hjdk B ls hl
                  refine lv_iload hx hb dX4_ofDates_107 (lv_at hl 0 rfl) ?_
                  refine lv_iconst (v := 4) hx hb dX4_ofDates_109 (by decide) ?_
                  refine lv_icmp_ge (tgt := 160) hx hb dX4_ofDates_110 (by decide) (fun c6 => ?_) (fun c6 => ?_)
                  · refine W.widen (show (C5 + 0) ≤ (C3 + 40) by omega) (show (S5 + 0) ≤ (S3 + 860) by omega) ?_
                    refine lv_iinc (v := dc + 1) (lv' := [(5, .int (dc + 1)), (6, .int dk), (3, .long dh), (0, .ref b0), (1, .long b1)]) hx hb dX4_ofDates_160 hl (k := 1) rfl rfl (by decide) rfl (fun ls hl => ?_)
                    refine lv_goto (tgt := 98) hx hb dX4_ofDates_163 (by decide) ?_
                    exact ih3 (dc + 1) dh (C3 + 40) (S3 + 860) H locs (by omega) (by omega) (fu_le c4 hn3) (inc_nn hzdc c4) (LF_s hjdc hzdc c4 ((LJ_e 4 hjdk hzdk c6 rfl))) B ls (lv_sub hl [0, 2, 3, 4] rfl)
                  · refine lv_lload_n hx hb dX4_ofDates_113 rfl (lv_at hl 2 rfl) ?_
                    refine lv_aload_n hx hb dX4_ofDates_114 rfl (lv_at hl 3 rfl) ?_
                    refine lv_iload hx hb dX4_ofDates_115 (lv_at hl 1 rfl) ?_
                    refine lv_iload hx hb dX4_ofDates_117 (lv_at hl 0 rfl) ?_
                    refine k_i (k := (C5 + 0)) (n := (S5 + 0)) hA B (b_V (q := 24) (rest := [.long dh]) hb0 X (c_X4_orderNow l g N ad y cr dr th kn rf pl pz mc (by omega) b0 hb0 dc dk (no_of hzdc c4) (no_of hzdk c6) hdr H.size) mw_X4_orderNow md_X4_orderNow rfl lk_X4_243 ⟨Nat.le_of_ble_eq_true rfl, Nat.le_of_ble_eq_true rfl⟩ hA hK hT B (by omega) mg_24 rfl rfl hl.1 rfl (Nat.le_of_ble_eq_true rfl) dX4_ofDates_119 (by dsimp only [rm]; omega)) (by dsimp only [rm]; omega) (by dsimp only [rm]; omega) (fun r7 ad7 f' H locs hw B => ?_)
                    obtain ⟨rfl, rfl, rfl⟩ := hw
                    refine lv_i2l (v := (v_X4_orderNow dr dc dk).toInt64) hx hb dX4_ofDates_122 rfl ?_
                    refine k_l (k := (C5 + 0)) (n := (S5 + 0)) hA B (u_S (rest := []) X (c_X4_add l g N ad (mg g ad y cr dr th kn rf pl pz mc) dh ((v_X4_orderNow dr dc dk).toInt64) H.size) mw_X4_add md_X4_add rfl lk_X4_266 ⟨Nat.le_of_ble_eq_true rfl, Nat.le_of_ble_eq_true rfl⟩ hA hK hT B hl.1 rfl (Nat.le_of_ble_eq_true rfl) dX4_ofDates_123 (by dsimp only [rm]; omega)) (by dsimp only [rm]; omega) (by dsimp only [rm]; omega) (fun r8 ad8 f' H locs hw B => ?_)
                    obtain ⟨rfl, rfl, rfl⟩ := hw
                    refine lv_aload_n hx hb dX4_ofDates_126 rfl (lv_at hl 3 rfl) ?_
                    refine b_get (q := 24) (k := 3) hb0 X hK B rfl in_X4 (by omega) mg_24 (by decide) lk_X4_23 rfl rfl dX4_ofDates_127 ?_
                    refine lv_iload hx hb dX4_ofDates_130 (lv_at hl 1 rfl) ?_
                    refine b_aald (q := 26) (t0 := 2) (v := ad (32 + dc.toNatClampNeg)) rfl X hK B (by omega) mg_26 rfl rfl (ix_in (n := 4) hzdc c4 rfl) rfl dX4_ofDates_132 ?_
                    have g9 : dc.toNatClampNeg < 4 := (ix_lt (n := 4) hzdc c4 rfl)
                    refine lv_aload_n hx hb dX4_ofDates_133 rfl (lv_at hl 3 rfl) ?_
                    refine b_get (q := 24) (k := 3) hb0 X hK B rfl in_X4 (by omega) mg_24 (by decide) lk_X4_23 rfl rfl dX4_ofDates_134 ?_
                    refine lv_iload hx hb dX4_ofDates_137 (lv_at hl 0 rfl) ?_
                    refine b_aald (q := 26) (t0 := 2) (v := ad (32 + dk.toNatClampNeg)) rfl X hK B (by omega) mg_26 rfl rfl (ix_in (n := 4) hzdk c6 rfl) rfl dX4_ofDates_139 ?_
                    have g10 : dk.toNatClampNeg < 4 := (ix_lt (n := 4) hzdk c6 rfl)
                    refine k_r (k := (C5 + 2)) (n := (S5 + 6)) hA B (u_S (rest := [.long (v_X4_add dh ((v_X4_orderNow dr dc dk).toInt64))]) X (c_X4_apart l g N ad (mg g ad y cr dr th kn rf pl pz mc) (32 + dc.toNatClampNeg) (ad (32 + dc.toNatClampNeg)) (dr dc.toNatClampNeg) (pl_dr hN g9) rfl (mg_dr g9) (32 + dk.toNatClampNeg) (ad (32 + dk.toNatClampNeg)) (dr dk.toNatClampNeg) (pl_dr hN g10) rfl (mg_dr g10) (hdr _ g9) (hdr _ g10) H.size) mw_X4_apart md_X4_apart rfl lk_X4_219 ⟨Nat.le_of_ble_eq_true rfl, Nat.le_of_ble_eq_true rfl⟩ hA hK hT B hl.1 rfl (Nat.le_of_ble_eq_true rfl) dX4_ofDates_140 (by dsimp only [rm]; omega)) (by dsimp only [rm]; omega) (by dsimp only [rm]; omega) (fun r11 ad11 f' H locs hw B => ?_)
                    generalize o12 : (v_X4_apart (dr dc.toNatClampNeg) (dr dk.toNatClampNeg)) = v9 at hw B
                    cases v9 with
                    | none =>
                      obtain ⟨rfl, rfl, rfl⟩ := pw_n hw
                      refine k_r (k := (C5 + 2)) (n := (S5 + 6)) hA B (u_S (rest := [.long (v_X4_add dh ((v_X4_orderNow dr dc dk).toInt64))]) X (c_W_toldN l g N ad (mg g ad y cr dr th kn rf pl pz mc) H.size) mw_X4_told md_X4_told rfl lk_X4_145 ⟨Nat.le_of_ble_eq_true rfl, Nat.le_of_ble_eq_true rfl⟩ hA hK hT B hl.1 rfl (Nat.le_of_ble_eq_true rfl) dX4_ofDates_143 (by dsimp only [rm]; omega)) (by dsimp only [rm]; omega) (by dsimp only [rm]; omega) (fun r ad' f' H locs hw B => ?_)
                      obtain ⟨rfl, rfl, rfl⟩ := hw
                      refine k_i (k := (C5 + 2)) (n := (S5 + 6)) hA B (u_K (rest := [.long (v_X4_add dh ((v_X4_orderNow dr dc dk).toInt64))]) (by decide) X (c_K_len l g N ad (mg g ad y cr dr th kn rf pl pz mc) 10 (by decide) H.size) mw_J0_length_8abf5 rfl md_J0_length_8abf5 rfl lk_X4_269 ⟨Nat.le_of_ble_eq_true rfl, Nat.le_of_ble_eq_true rfl⟩ hA hK hT B hl.1 rfl (Nat.le_of_ble_eq_true rfl) dX4_ofDates_146 (by dsimp only [rm]; omega)) (by dsimp only [rm]; omega) (by dsimp only [rm]; omega) (fun r ad' f' H locs hw B => ?_)
                      obtain ⟨rfl, rfl, rfl⟩ := hw
                      refine lv_i2l (v := (nI (st_len.getD 10 0)).toInt64) hx hb dX4_ofDates_149 rfl ?_
                      refine k_l (k := (C5 + 2)) (n := (S5 + 6)) hA B (u_S (rest := []) X (c_X4_add l g N ad (mg g ad y cr dr th kn rf pl pz mc) (v_X4_add dh ((v_X4_orderNow dr dc dk).toInt64)) ((nI (st_len.getD 10 0)).toInt64) H.size) mw_X4_add md_X4_add rfl lk_X4_266 ⟨Nat.le_of_ble_eq_true rfl, Nat.le_of_ble_eq_true rfl⟩ hA hK hT B hl.1 rfl (Nat.le_of_ble_eq_true rfl) dX4_ofDates_150 (by dsimp only [rm]; omega)) (by dsimp only [rm]; omega) (by dsimp only [rm]; omega) (fun r13 ad13 f' H locs hw B => ?_)
                      obtain ⟨rfl, rfl, rfl⟩ := hw
                      refine lv_lstore_n (lv' := [(3, .long (v_X4_add (v_X4_add dh ((v_X4_orderNow dr dc dk).toInt64)) ((nI (st_len.getD 10 0)).toInt64))), (6, .int dk), (5, .int dc), (0, .ref b0), (1, .long b1)]) hx hb dX4_ofDates_153 rfl hl (by decide) rfl (fun ls hl => ?_)
                      refine lv_iinc (v := dk + 1) (lv' := [(6, .int (dk + 1)), (3, .long (v_X4_add (v_X4_add dh ((v_X4_orderNow dr dc dk).toInt64)) ((nI (st_len.getD 10 0)).toInt64))), (5, .int dc), (0, .ref b0), (1, .long b1)]) hx hb dX4_ofDates_154 hl (k := 1) rfl rfl (by decide) rfl (fun ls hl => ?_)
                      refine lv_goto (tgt := 107) hx hb dX4_ofDates_157 (by decide) ?_
                      exact ih5 (dk + 1) (v_X4_add (v_X4_add dh ((v_X4_orderNow dr dc dk).toInt64)) ((nI (st_len.getD 10 0)).toInt64)) (C5 + 2) (S5 + 6) H locs (by omega) (by omega) (fu_le c6 hn5) (inc_nn hzdk c6) (LF_s hjdk hzdk c6 (by unfold sO; rw [tl_n o12]; try rfl)) B ls (lv_sub hl [0, 2, 1, 3, 4] rfl)
                    | some t12 =>
                      obtain ⟨z12, rfl, rfl, rfl⟩ := pw_s hw
                      have B : WB g (aw N ad sz) s.heap (N + 1) (va_up ad N z12) (mg g (va_up ad N z12) (va_up y N (c_row g t12)) cr dr th kn rf pl pz mc) H locs := WM_push (by omega) B
                      refine k_r (k := (C5 + 8)) (n := (S5 + 172)) hA B (u_S (rest := [.long (v_X4_add dh ((v_X4_orderNow dr dc dk).toInt64))]) X (c_W_told l g (N + 1) (va_up ad N z12) (mg g (va_up ad N z12) (va_up y N (c_row g t12)) cr dr th kn rf pl pz mc) N z12 t12 (Nat.lt_succ_self _) up_eq ((mg_hi (by omega)).trans up_eq) H.size) mw_X4_told md_X4_told rfl lk_X4_145 ⟨Nat.le_of_ble_eq_true rfl, Nat.le_of_ble_eq_true rfl⟩ hA hK hT B hl.1 rfl (Nat.le_of_ble_eq_true rfl) dX4_ofDates_143 (by dsimp only [rm]; omega)) (by dsimp only [rm]; omega) (by dsimp only [rm]; omega) (fun r ad' f' H locs hw B => ?_)
                      obtain ⟨a14, a14x, h14, hF14, rfl, rfl, rfl⟩ := hw
                      have B : WB g (aw N ad sz) s.heap (N + 1 + 1 + 1) (va_up (va_up (va_up ad N z12) (N + 1) a14) (N + 1 + 1) a14x) (mg g (va_up (va_up (va_up ad N z12) (N + 1) a14) (N + 1 + 1) a14x) (va_up (va_up (va_up y N (c_row g t12)) (N + 1) (c_st a14x)) (N + 1 + 1) (c_ba g (tlen t12) h14)) cr dr th kn rf pl pz mc) H locs := WM_push2 (by omega) B
                      refine k_i (k := (C5 + 8)) (n := (S5 + 172)) hA B (b_V (q := N + 1) (rest := [.long (v_X4_add dh ((v_X4_orderNow dr dc dk).toInt64))]) ((up_lt (by omega)).trans up_eq) X (c_W_len l g (N + 1 + 1 + 1) (va_up (va_up (va_up ad N z12) (N + 1) a14) (N + 1 + 1) a14x) (mg g (va_up (va_up (va_up ad N z12) (N + 1) a14) (N + 1 + 1) a14x) (va_up (va_up (va_up y N (c_row g t12)) (N + 1) (c_st a14x)) (N + 1 + 1) (c_ba g (tlen t12) h14)) cr dr th kn rf pl pz mc) (N + 1) a14 (N + 1 + 1) a14x (tlen t12) h14 (by omega) (by omega) ((up_lt (by omega)).trans up_eq) up_eq ((mg_hi (by omega)).trans ((up_lt (by omega)).trans up_eq)) ((mg_hi (by omega)).trans up_eq) H.size) mw_J0_length_8abf5 md_J0_length_8abf5 rfl lk_X4_269 ⟨Nat.le_of_ble_eq_true rfl, Nat.le_of_ble_eq_true rfl⟩ hA hK hT B (by omega) ((mg_hi (by omega)).trans ((up_lt (by omega)).trans up_eq)) rfl rfl hl.1 rfl (Nat.le_of_ble_eq_true rfl) dX4_ofDates_146 (by dsimp only [rm]; omega)) (by dsimp only [rm]; omega) (by dsimp only [rm]; omega) (fun r ad' f' H locs hw B => ?_)
                      obtain ⟨rfl, rfl, rfl⟩ := hw
                      have B : WB g (aw N ad sz) s.heap N ad (mg g ad y cr dr th kn rf pl pz mc) H locs := WM_drop B (by omega) (by omega) (fun _ hk => (((up_lt (Nat.lt_succ_of_lt (Nat.lt_succ_of_lt hk))).trans (up_lt (Nat.lt_succ_of_lt hk))).trans (up_lt hk))) (fun _ hk => (((up_lt (Nat.lt_succ_of_lt (Nat.lt_succ_of_lt hk))).trans (up_lt (Nat.lt_succ_of_lt hk))).trans (up_lt hk)))
                      refine lv_i2l (v := (nI (tlen t12)).toInt64) hx hb dX4_ofDates_149 rfl ?_
                      refine k_l (k := (C5 + 8)) (n := (S5 + 172)) hA B (u_S (rest := []) X (c_X4_add l g N ad (mg g ad y cr dr th kn rf pl pz mc) (v_X4_add dh ((v_X4_orderNow dr dc dk).toInt64)) ((nI (tlen t12)).toInt64) H.size) mw_X4_add md_X4_add rfl lk_X4_266 ⟨Nat.le_of_ble_eq_true rfl, Nat.le_of_ble_eq_true rfl⟩ hA hK hT B hl.1 rfl (Nat.le_of_ble_eq_true rfl) dX4_ofDates_150 (by dsimp only [rm]; omega)) (by dsimp only [rm]; omega) (by dsimp only [rm]; omega) (fun r15 ad15 f' H locs hw B => ?_)
                      obtain ⟨rfl, rfl, rfl⟩ := hw
                      refine lv_lstore_n (lv' := [(3, .long (v_X4_add (v_X4_add dh ((v_X4_orderNow dr dc dk).toInt64)) ((nI (tlen t12)).toInt64))), (6, .int dk), (5, .int dc), (0, .ref b0), (1, .long b1)]) hx hb dX4_ofDates_153 rfl hl (by decide) rfl (fun ls hl => ?_)
                      refine lv_iinc (v := dk + 1) (lv' := [(6, .int (dk + 1)), (3, .long (v_X4_add (v_X4_add dh ((v_X4_orderNow dr dc dk).toInt64)) ((nI (tlen t12)).toInt64))), (5, .int dc), (0, .ref b0), (1, .long b1)]) hx hb dX4_ofDates_154 hl (k := 1) rfl rfl (by decide) rfl (fun ls hl => ?_)
                      refine lv_goto (tgt := 107) hx hb dX4_ofDates_157 (by decide) ?_
                      exact ih5 (dk + 1) (v_X4_add (v_X4_add dh ((v_X4_orderNow dr dc dk).toInt64)) ((nI (tlen t12)).toInt64)) (C5 + 8) (S5 + 172) H locs (by omega) (by omega) (fu_le c6 hn5) (inc_nn hzdk c6) (LF_s hjdk hzdk c6 (by unfold sO; rw [tl_s o12]; try rfl)) B ls (lv_sub hl [0, 2, 1, 3, 4] rfl)
              have hT5 : 4 + 1 ≤ 5 := (by decide)
              exact loop5 (4 + 1) 0 dg (C3 + 0) (S3 + 0) H locs (by first | exact Nat.le_refl _ | exact Nat.le_of_ble_eq_true rfl | omega) (by first | exact Nat.le_refl _ | exact Nat.le_of_ble_eq_true rfl | omega) (by decide) (by decide) (LF_0 (by decide)) B ls hl
        have hT3 : 4 + 1 ≤ 5 := (by decide)
        exact loop3 (4 + 1) 0 dd 300 2000 H locs (by first | exact Nat.le_refl _ | exact Nat.le_of_ble_eq_true rfl | omega) (by first | exact Nat.le_refl _ | exact Nat.le_of_ble_eq_true rfl | omega) (by decide) (by decide) (LF_0 (by decide)) B ls hl
      · refine lv_iconst (v := 0) hx hb dX4_ofDates_11 (by decide) ?_
        refine lv_istore (lv' := [(6, .int 0), (5, .int da), (3, .long dd), (0, .ref b0), (1, .long b1)]) hx hb dX4_ofDates_12 hl (by decide) rfl (fun ls hl => ?_)
        have loop16 : ∀ (n16 : Nat) (wa : Int32) (de : Int64) (C16 : Nat) (S16 : Nat) (H : Heap) (locs : List Loc), C16 + n16 * 0 ≤ (C1 + 0) → S16 + n16 * 0 ≤ (S1 + 0) → ((4 : Int32).toInt - wa.toInt).toNat < n16 → ¬ wa < 0 → LJ 4 (fo (sD dr da.toNatClampNeg) dd) wa de → WB g (aw N ad sz) s.heap N ad (mg g ad y cr dr th kn rf pl pz mc) H locs → ∀ ls : Array Slot, lv_has ls 7 [(6, .int wa), (5, .int da), (3, .long de), (0, .ref b0), (1, .long b1)] → W p l e (rm 8 500 6300) s m args below meth c H locs C16 S16 (MQ below (va_Ql (fun r (u : WS) => (fun r ad' f' => ad = ad' ∧ dD cr dr b1 = r ∧ mg g ad y cr dr th kn rf pl pz mc = f') r u.1 u.2) (fun u t => PO g N u.1 u.2 (aw N ad sz) t) (aw N ad sz)) args s (rm 8 500 6300).cells (rm 8 500 6300).slots (aw N ad sz)) (F0 m 14 ls []) := by
          intro n16
          induction n16 with
          | zero => intro wa de C16 S16 H locs _ _ hn; exact absurd hn (Nat.not_lt_zero _)
          | succ n16 ih16 =>
            intro wa de C16 S16 H locs hC16 hS16 hn16 hzwa hjwa B ls hl
            refine lv_iload hx hb dX4_ofDates_14 (lv_at hl 0 rfl) ?_
            refine lv_iconst (v := 4) hx hb dX4_ofDates_16 (by decide) ?_
            refine lv_icmp_ge (tgt := 40) hx hb dX4_ofDates_17 (by decide) (fun c17 => ?_) (fun c17 => ?_)
            · refine W.widen (show (C16 + 0) ≤ (C1 + 0) by omega) (show (S16 + 0) ≤ (S1 + 0) by omega) ?_
              refine lv_iconst (v := 0) hx hb dX4_ofDates_40 (by decide) ?_
              refine lv_istore (lv' := [(6, .int 0), (5, .int da), (3, .long de), (0, .ref b0), (1, .long b1)]) hx hb dX4_ofDates_41 hl (by decide) rfl (fun ls hl => ?_)
              have loop18 : ∀ (n18 : Nat) (cb : Int32) (df : Int64) (C18 : Nat) (S18 : Nat) (H : Heap) (locs : List Loc), C18 + n18 * 12 ≤ (C1 + 60) → S18 + n18 * 80 ≤ (S1 + 400) → ((4 : Int32).toInt - cb.toInt).toNat < n18 → ¬ cb < 0 → LJ 4 (fo (sE cr dr da.toNatClampNeg) de) cb df → WB g (aw N ad sz) s.heap N ad (mg g ad y cr dr th kn rf pl pz mc) H locs → ∀ ls : Array Slot, lv_has ls 7 [(6, .int cb), (5, .int da), (3, .long df), (0, .ref b0), (1, .long b1)] → W p l e (rm 8 500 6300) s m args below meth c H locs C18 S18 (MQ below (va_Ql (fun r (u : WS) => (fun r ad' f' => ad = ad' ∧ dD cr dr b1 = r ∧ mg g ad y cr dr th kn rf pl pz mc = f') r u.1 u.2) (fun u t => PO g N u.1 u.2 (aw N ad sz) t) (aw N ad sz)) args s (rm 8 500 6300).cells (rm 8 500 6300).slots (aw N ad sz)) (F0 m 43 ls []) := by
                intro n18
                induction n18 with
                | zero => intro cb df C18 S18 H locs _ _ hn; exact absurd hn (Nat.not_lt_zero _)
                | succ n18 ih18 =>
                  intro cb df C18 S18 H locs hC18 hS18 hn18 hzcb hjcb B ls hl
                  refine lv_iload hx hb dX4_ofDates_43 (lv_at hl 0 rfl) ?_
                  refine lv_iconst (v := 4) hx hb dX4_ofDates_45 (by decide) ?_
                  refine lv_icmp_ge (tgt := 89) hx hb dX4_ofDates_46 (by decide) (fun c19 => ?_) (fun c19 => ?_)
                  · refine W.widen (show (C18 + 0) ≤ (C1 + 60) by omega) (show (S18 + 0) ≤ (S1 + 400) by omega) ?_
                    refine lv_iinc (v := da + 1) (lv' := [(5, .int (da + 1)), (6, .int cb), (3, .long df), (0, .ref b0), (1, .long b1)]) hx hb dX4_ofDates_89 hl (k := 1) rfl rfl (by decide) rfl (fun ls hl => ?_)
                    refine lv_goto (tgt := 5) hx hb dX4_ofDates_92 (by decide) ?_
                    exact ih1 (da + 1) df (C1 + 60) (S1 + 400) H locs (by omega) (by omega) (fu_le c2 hn1) (inc_nn hzda c2) (LF_s hjda hzda c2 (by unfold sF; rw [(LJ_e 4 hjcb hzcb c19 rfl), (LJ_e 4 hjwa hzwa c17 rfl)])) B ls (lv_sub hl [0, 2, 3, 4] rfl)
                  · refine lv_lload_n hx hb dX4_ofDates_49 rfl (lv_at hl 2 rfl) ?_
                    refine lv_aload_n hx hb dX4_ofDates_50 rfl (lv_at hl 3 rfl) ?_
                    refine lv_iload hx hb dX4_ofDates_51 (lv_at hl 1 rfl) ?_
                    refine lv_iload hx hb dX4_ofDates_53 (lv_at hl 0 rfl) ?_
                    refine lv_iconst (v := 0) hx hb dX4_ofDates_55 (by decide) ?_
                    cases o20 : (v_X4_onBy (dr da.toNatClampNeg) (cr cb.toNatClampNeg) 1) with
                    | none =>
                      refine k_r (k := (C18 + 2)) (n := (S18 + 6)) hA B (b_V (q := 24) (rest := [.long df]) hb0 X (c_X4_movedNowN l g N ad y cr dr th kn rf pl pz mc (by omega) b0 hb0 da cb 0 (no_of hzda c2) (no_of hzcb c19) hdr (show v_X4_onBy (dr da.toNatClampNeg) (cr cb.toNatClampNeg) (msg 0) = none by rw [show msg 0 = 1 from rfl]; exact o20) H.size) mw_X4_movedNow md_X4_movedNow rfl lk_X4_235 ⟨Nat.le_of_ble_eq_true rfl, Nat.le_of_ble_eq_true rfl⟩ hA hK hT B (by omega) mg_24 rfl rfl hl.1 rfl (Nat.le_of_ble_eq_true rfl) dX4_ofDates_56 (by dsimp only [rm]; omega)) (by dsimp only [rm]; omega) (by dsimp only [rm]; omega) (fun r ad' f' H locs hw B => ?_)
                      obtain ⟨rfl, rfl, rfl⟩ := hw
                      refine k_i (k := (C18 + 2)) (n := (S18 + 6)) hA B (u_K (rest := [.long df]) (by decide) X (c_K_len l g N ad (mg g ad y cr dr th kn rf pl pz mc) 10 (by decide) H.size) mw_J0_length_8abf5 rfl md_J0_length_8abf5 rfl lk_X4_269 ⟨Nat.le_of_ble_eq_true rfl, Nat.le_of_ble_eq_true rfl⟩ hA hK hT B hl.1 rfl (Nat.le_of_ble_eq_true rfl) dX4_ofDates_59 (by dsimp only [rm]; omega)) (by dsimp only [rm]; omega) (by dsimp only [rm]; omega) (fun r ad' f' H locs hw B => ?_)
                      obtain ⟨rfl, rfl, rfl⟩ := hw
                      refine lv_i2l (v := (nI (st_len.getD 10 0)).toInt64) hx hb dX4_ofDates_62 rfl ?_
                      refine k_l (k := (C18 + 2)) (n := (S18 + 6)) hA B (u_S (rest := []) X (c_X4_add l g N ad (mg g ad y cr dr th kn rf pl pz mc) df ((nI (st_len.getD 10 0)).toInt64) H.size) mw_X4_add md_X4_add rfl lk_X4_266 ⟨Nat.le_of_ble_eq_true rfl, Nat.le_of_ble_eq_true rfl⟩ hA hK hT B hl.1 rfl (Nat.le_of_ble_eq_true rfl) dX4_ofDates_63 (by dsimp only [rm]; omega)) (by dsimp only [rm]; omega) (by dsimp only [rm]; omega) (fun r23 ad23 f' H locs hw B => ?_)
                      obtain ⟨rfl, rfl, rfl⟩ := hw
                      refine lv_aload_n hx hb dX4_ofDates_66 rfl (lv_at hl 3 rfl) ?_
                      refine lv_iload hx hb dX4_ofDates_67 (lv_at hl 1 rfl) ?_
                      refine lv_iload hx hb dX4_ofDates_69 (lv_at hl 0 rfl) ?_
                      refine lv_iconst (v := 1) hx hb dX4_ofDates_71 (by decide) ?_
                      cases o24 : (v_X4_onBy (dr da.toNatClampNeg) (cr cb.toNatClampNeg) (-1)) with
                      | none =>
                        refine k_r (k := (C18 + 4)) (n := (S18 + 12)) hA B (b_V (q := 24) (rest := [.long (v_X4_add df ((nI (st_len.getD 10 0)).toInt64))]) hb0 X (c_X4_movedNowN l g N ad y cr dr th kn rf pl pz mc (by omega) b0 hb0 da cb 1 (no_of hzda c2) (no_of hzcb c19) hdr (show v_X4_onBy (dr da.toNatClampNeg) (cr cb.toNatClampNeg) (msg 1) = none by rw [show msg 1 = (-1) from rfl]; exact o24) H.size) mw_X4_movedNow md_X4_movedNow rfl lk_X4_235 ⟨Nat.le_of_ble_eq_true rfl, Nat.le_of_ble_eq_true rfl⟩ hA hK hT B (by omega) mg_24 rfl rfl hl.1 rfl (Nat.le_of_ble_eq_true rfl) dX4_ofDates_72 (by dsimp only [rm]; omega)) (by dsimp only [rm]; omega) (by dsimp only [rm]; omega) (fun r ad' f' H locs hw B => ?_)
                        obtain ⟨rfl, rfl, rfl⟩ := hw
                        refine k_i (k := (C18 + 4)) (n := (S18 + 12)) hA B (u_K (rest := [.long (v_X4_add df ((nI (st_len.getD 10 0)).toInt64))]) (by decide) X (c_K_len l g N ad (mg g ad y cr dr th kn rf pl pz mc) 10 (by decide) H.size) mw_J0_length_8abf5 rfl md_J0_length_8abf5 rfl lk_X4_269 ⟨Nat.le_of_ble_eq_true rfl, Nat.le_of_ble_eq_true rfl⟩ hA hK hT B hl.1 rfl (Nat.le_of_ble_eq_true rfl) dX4_ofDates_75 (by dsimp only [rm]; omega)) (by dsimp only [rm]; omega) (by dsimp only [rm]; omega) (fun r ad' f' H locs hw B => ?_)
                        obtain ⟨rfl, rfl, rfl⟩ := hw
                        refine lv_i2l (v := (nI (st_len.getD 10 0)).toInt64) hx hb dX4_ofDates_78 rfl ?_
                        refine k_l (k := (C18 + 4)) (n := (S18 + 12)) hA B (u_S (rest := []) X (c_X4_add l g N ad (mg g ad y cr dr th kn rf pl pz mc) (v_X4_add df ((nI (st_len.getD 10 0)).toInt64)) ((nI (st_len.getD 10 0)).toInt64) H.size) mw_X4_add md_X4_add rfl lk_X4_266 ⟨Nat.le_of_ble_eq_true rfl, Nat.le_of_ble_eq_true rfl⟩ hA hK hT B hl.1 rfl (Nat.le_of_ble_eq_true rfl) dX4_ofDates_79 (by dsimp only [rm]; omega)) (by dsimp only [rm]; omega) (by dsimp only [rm]; omega) (fun r27 ad27 f' H locs hw B => ?_)
                        obtain ⟨rfl, rfl, rfl⟩ := hw
                        refine lv_lstore_n (lv' := [(3, .long (v_X4_add (v_X4_add df ((nI (st_len.getD 10 0)).toInt64)) ((nI (st_len.getD 10 0)).toInt64))), (6, .int cb), (5, .int da), (0, .ref b0), (1, .long b1)]) hx hb dX4_ofDates_82 rfl hl (by decide) rfl (fun ls hl => ?_)
                        refine lv_iinc (v := cb + 1) (lv' := [(6, .int (cb + 1)), (3, .long (v_X4_add (v_X4_add df ((nI (st_len.getD 10 0)).toInt64)) ((nI (st_len.getD 10 0)).toInt64))), (5, .int da), (0, .ref b0), (1, .long b1)]) hx hb dX4_ofDates_83 hl (k := 1) rfl rfl (by decide) rfl (fun ls hl => ?_)
                        refine lv_goto (tgt := 43) hx hb dX4_ofDates_86 (by decide) ?_
                        exact ih18 (cb + 1) (v_X4_add (v_X4_add df ((nI (st_len.getD 10 0)).toInt64)) ((nI (st_len.getD 10 0)).toInt64)) (C18 + 4) (S18 + 12) H locs (by omega) (by omega) (fu_le c19 hn18) (inc_nn hzcb c19) (LF_s hjcb hzcb c19 (by unfold sE; rw [dl_n o20, dl_n o24]; try rfl)) B ls (lv_sub hl [0, 2, 1, 3, 4] rfl)
                      | some t25 =>
                        refine k_r (k := (C18 + 8)) (n := (S18 + 46)) hA B (b_V (q := 24) (rest := [.long (v_X4_add df ((nI (st_len.getD 10 0)).toInt64))]) hb0 X (c_X4_movedNowY l g N ad y cr dr th kn rf pl pz mc (by omega) b0 hb0 da cb 1 (no_of hzda c2) (no_of hzcb c19) hdr t25 (show v_X4_onBy (dr da.toNatClampNeg) (cr cb.toNatClampNeg) (msg 1) = some t25 by rw [show msg 1 = (-1) from rfl]; exact o24) H.size) mw_X4_movedNow md_X4_movedNow rfl lk_X4_235 ⟨Nat.le_of_ble_eq_true rfl, Nat.le_of_ble_eq_true rfl⟩ hA hK hT B (by omega) mg_24 rfl rfl hl.1 rfl (Nat.le_of_ble_eq_true rfl) dX4_ofDates_72 (by dsimp only [rm]; omega)) (by dsimp only [rm]; omega) (by dsimp only [rm]; omega) (fun r ad' f' H locs hw B => ?_)
                        dsimp only at hw
                        obtain ⟨a26, a26x, h26, hF26, rfl, rfl, rfl⟩ := hw
                        have B : WB g (aw N ad sz) s.heap (N + 1 + 1) (va_up (va_up ad N a26) (N + 1) a26x) (mg g (va_up (va_up ad N a26) (N + 1) a26x) (va_up (va_up y N (c_st a26x)) (N + 1) (c_ba g (dlen t25) h26)) cr dr th kn rf pl pz mc) H locs := B
                        refine k_i (k := (C18 + 8)) (n := (S18 + 46)) hA B (b_V (q := N) (rest := [.long (v_X4_add df ((nI (st_len.getD 10 0)).toInt64))]) ((up_lt (by omega)).trans up_eq) X (c_W_len l g (N + 1 + 1) (va_up (va_up ad N a26) (N + 1) a26x) (mg g (va_up (va_up ad N a26) (N + 1) a26x) (va_up (va_up y N (c_st a26x)) (N + 1) (c_ba g (dlen t25) h26)) cr dr th kn rf pl pz mc) N a26 (N + 1) a26x (dlen t25) h26 (by omega) (by omega) ((up_lt (by omega)).trans up_eq) up_eq ((mg_hi (by omega)).trans ((up_lt (by omega)).trans up_eq)) ((mg_hi (by omega)).trans up_eq) H.size) mw_J0_length_8abf5 md_J0_length_8abf5 rfl lk_X4_269 ⟨Nat.le_of_ble_eq_true rfl, Nat.le_of_ble_eq_true rfl⟩ hA hK hT B (by omega) ((mg_hi (by omega)).trans ((up_lt (by omega)).trans up_eq)) rfl rfl hl.1 rfl (Nat.le_of_ble_eq_true rfl) dX4_ofDates_75 (by dsimp only [rm]; omega)) (by dsimp only [rm]; omega) (by dsimp only [rm]; omega) (fun r ad' f' H locs hw B => ?_)
                        obtain ⟨rfl, rfl, rfl⟩ := hw
                        have B : WB g (aw N ad sz) s.heap N ad (mg g ad y cr dr th kn rf pl pz mc) H locs := WM_drop B (by omega) (by omega) (fun _ hk => ((up_lt (Nat.lt_succ_of_lt hk)).trans (up_lt hk))) (fun _ hk => ((up_lt (Nat.lt_succ_of_lt hk)).trans (up_lt hk)))
                        refine lv_i2l (v := (nI (dlen t25)).toInt64) hx hb dX4_ofDates_78 rfl ?_
                        refine k_l (k := (C18 + 8)) (n := (S18 + 46)) hA B (u_S (rest := []) X (c_X4_add l g N ad (mg g ad y cr dr th kn rf pl pz mc) (v_X4_add df ((nI (st_len.getD 10 0)).toInt64)) ((nI (dlen t25)).toInt64) H.size) mw_X4_add md_X4_add rfl lk_X4_266 ⟨Nat.le_of_ble_eq_true rfl, Nat.le_of_ble_eq_true rfl⟩ hA hK hT B hl.1 rfl (Nat.le_of_ble_eq_true rfl) dX4_ofDates_79 (by dsimp only [rm]; omega)) (by dsimp only [rm]; omega) (by dsimp only [rm]; omega) (fun r28 ad28 f' H locs hw B => ?_)
                        obtain ⟨rfl, rfl, rfl⟩ := hw
                        refine lv_lstore_n (lv' := [(3, .long (v_X4_add (v_X4_add df ((nI (st_len.getD 10 0)).toInt64)) ((nI (dlen t25)).toInt64))), (6, .int cb), (5, .int da), (0, .ref b0), (1, .long b1)]) hx hb dX4_ofDates_82 rfl hl (by decide) rfl (fun ls hl => ?_)
                        refine lv_iinc (v := cb + 1) (lv' := [(6, .int (cb + 1)), (3, .long (v_X4_add (v_X4_add df ((nI (st_len.getD 10 0)).toInt64)) ((nI (dlen t25)).toInt64))), (5, .int da), (0, .ref b0), (1, .long b1)]) hx hb dX4_ofDates_83 hl (k := 1) rfl rfl (by decide) rfl (fun ls hl => ?_)
                        refine lv_goto (tgt := 43) hx hb dX4_ofDates_86 (by decide) ?_
                        exact ih18 (cb + 1) (v_X4_add (v_X4_add df ((nI (st_len.getD 10 0)).toInt64)) ((nI (dlen t25)).toInt64)) (C18 + 8) (S18 + 46) H locs (by omega) (by omega) (fu_le c19 hn18) (inc_nn hzcb c19) (LF_s hjcb hzcb c19 (by unfold sE; rw [dl_n o20, dl_s o24]; try rfl)) B ls (lv_sub hl [0, 2, 1, 3, 4] rfl)
                    | some t21 =>
                      refine k_r (k := (C18 + 6)) (n := (S18 + 40)) hA B (b_V (q := 24) (rest := [.long df]) hb0 X (c_X4_movedNowY l g N ad y cr dr th kn rf pl pz mc (by omega) b0 hb0 da cb 0 (no_of hzda c2) (no_of hzcb c19) hdr t21 (show v_X4_onBy (dr da.toNatClampNeg) (cr cb.toNatClampNeg) (msg 0) = some t21 by rw [show msg 0 = 1 from rfl]; exact o20) H.size) mw_X4_movedNow md_X4_movedNow rfl lk_X4_235 ⟨Nat.le_of_ble_eq_true rfl, Nat.le_of_ble_eq_true rfl⟩ hA hK hT B (by omega) mg_24 rfl rfl hl.1 rfl (Nat.le_of_ble_eq_true rfl) dX4_ofDates_56 (by dsimp only [rm]; omega)) (by dsimp only [rm]; omega) (by dsimp only [rm]; omega) (fun r ad' f' H locs hw B => ?_)
                      dsimp only at hw
                      obtain ⟨a22, a22x, h22, hF22, rfl, rfl, rfl⟩ := hw
                      have B : WB g (aw N ad sz) s.heap (N + 1 + 1) (va_up (va_up ad N a22) (N + 1) a22x) (mg g (va_up (va_up ad N a22) (N + 1) a22x) (va_up (va_up y N (c_st a22x)) (N + 1) (c_ba g (dlen t21) h22)) cr dr th kn rf pl pz mc) H locs := B
                      refine k_i (k := (C18 + 6)) (n := (S18 + 40)) hA B (b_V (q := N) (rest := [.long df]) ((up_lt (by omega)).trans up_eq) X (c_W_len l g (N + 1 + 1) (va_up (va_up ad N a22) (N + 1) a22x) (mg g (va_up (va_up ad N a22) (N + 1) a22x) (va_up (va_up y N (c_st a22x)) (N + 1) (c_ba g (dlen t21) h22)) cr dr th kn rf pl pz mc) N a22 (N + 1) a22x (dlen t21) h22 (by omega) (by omega) ((up_lt (by omega)).trans up_eq) up_eq ((mg_hi (by omega)).trans ((up_lt (by omega)).trans up_eq)) ((mg_hi (by omega)).trans up_eq) H.size) mw_J0_length_8abf5 md_J0_length_8abf5 rfl lk_X4_269 ⟨Nat.le_of_ble_eq_true rfl, Nat.le_of_ble_eq_true rfl⟩ hA hK hT B (by omega) ((mg_hi (by omega)).trans ((up_lt (by omega)).trans up_eq)) rfl rfl hl.1 rfl (Nat.le_of_ble_eq_true rfl) dX4_ofDates_59 (by dsimp only [rm]; omega)) (by dsimp only [rm]; omega) (by dsimp only [rm]; omega) (fun r ad' f' H locs hw B => ?_)
                      obtain ⟨rfl, rfl, rfl⟩ := hw
                      have B : WB g (aw N ad sz) s.heap N ad (mg g ad y cr dr th kn rf pl pz mc) H locs := WM_drop B (by omega) (by omega) (fun _ hk => ((up_lt (Nat.lt_succ_of_lt hk)).trans (up_lt hk))) (fun _ hk => ((up_lt (Nat.lt_succ_of_lt hk)).trans (up_lt hk)))
                      refine lv_i2l (v := (nI (dlen t21)).toInt64) hx hb dX4_ofDates_62 rfl ?_
                      refine k_l (k := (C18 + 6)) (n := (S18 + 40)) hA B (u_S (rest := []) X (c_X4_add l g N ad (mg g ad y cr dr th kn rf pl pz mc) df ((nI (dlen t21)).toInt64) H.size) mw_X4_add md_X4_add rfl lk_X4_266 ⟨Nat.le_of_ble_eq_true rfl, Nat.le_of_ble_eq_true rfl⟩ hA hK hT B hl.1 rfl (Nat.le_of_ble_eq_true rfl) dX4_ofDates_63 (by dsimp only [rm]; omega)) (by dsimp only [rm]; omega) (by dsimp only [rm]; omega) (fun r29 ad29 f' H locs hw B => ?_)
                      obtain ⟨rfl, rfl, rfl⟩ := hw
                      refine lv_aload_n hx hb dX4_ofDates_66 rfl (lv_at hl 3 rfl) ?_
                      refine lv_iload hx hb dX4_ofDates_67 (lv_at hl 1 rfl) ?_
                      refine lv_iload hx hb dX4_ofDates_69 (lv_at hl 0 rfl) ?_
                      refine lv_iconst (v := 1) hx hb dX4_ofDates_71 (by decide) ?_
                      cases o30 : (v_X4_onBy (dr da.toNatClampNeg) (cr cb.toNatClampNeg) (-1)) with
                      | none =>
                        refine k_r (k := (C18 + 8)) (n := (S18 + 46)) hA B (b_V (q := 24) (rest := [.long (v_X4_add df ((nI (dlen t21)).toInt64))]) hb0 X (c_X4_movedNowN l g N ad y cr dr th kn rf pl pz mc (by omega) b0 hb0 da cb 1 (no_of hzda c2) (no_of hzcb c19) hdr (show v_X4_onBy (dr da.toNatClampNeg) (cr cb.toNatClampNeg) (msg 1) = none by rw [show msg 1 = (-1) from rfl]; exact o30) H.size) mw_X4_movedNow md_X4_movedNow rfl lk_X4_235 ⟨Nat.le_of_ble_eq_true rfl, Nat.le_of_ble_eq_true rfl⟩ hA hK hT B (by omega) mg_24 rfl rfl hl.1 rfl (Nat.le_of_ble_eq_true rfl) dX4_ofDates_72 (by dsimp only [rm]; omega)) (by dsimp only [rm]; omega) (by dsimp only [rm]; omega) (fun r ad' f' H locs hw B => ?_)
                        obtain ⟨rfl, rfl, rfl⟩ := hw
                        refine k_i (k := (C18 + 8)) (n := (S18 + 46)) hA B (u_K (rest := [.long (v_X4_add df ((nI (dlen t21)).toInt64))]) (by decide) X (c_K_len l g N ad (mg g ad y cr dr th kn rf pl pz mc) 10 (by decide) H.size) mw_J0_length_8abf5 rfl md_J0_length_8abf5 rfl lk_X4_269 ⟨Nat.le_of_ble_eq_true rfl, Nat.le_of_ble_eq_true rfl⟩ hA hK hT B hl.1 rfl (Nat.le_of_ble_eq_true rfl) dX4_ofDates_75 (by dsimp only [rm]; omega)) (by dsimp only [rm]; omega) (by dsimp only [rm]; omega) (fun r ad' f' H locs hw B => ?_)
                        obtain ⟨rfl, rfl, rfl⟩ := hw
                        refine lv_i2l (v := (nI (st_len.getD 10 0)).toInt64) hx hb dX4_ofDates_78 rfl ?_
                        refine k_l (k := (C18 + 8)) (n := (S18 + 46)) hA B (u_S (rest := []) X (c_X4_add l g N ad (mg g ad y cr dr th kn rf pl pz mc) (v_X4_add df ((nI (dlen t21)).toInt64)) ((nI (st_len.getD 10 0)).toInt64) H.size) mw_X4_add md_X4_add rfl lk_X4_266 ⟨Nat.le_of_ble_eq_true rfl, Nat.le_of_ble_eq_true rfl⟩ hA hK hT B hl.1 rfl (Nat.le_of_ble_eq_true rfl) dX4_ofDates_79 (by dsimp only [rm]; omega)) (by dsimp only [rm]; omega) (by dsimp only [rm]; omega) (fun r33 ad33 f' H locs hw B => ?_)
                        obtain ⟨rfl, rfl, rfl⟩ := hw
                        refine lv_lstore_n (lv' := [(3, .long (v_X4_add (v_X4_add df ((nI (dlen t21)).toInt64)) ((nI (st_len.getD 10 0)).toInt64))), (6, .int cb), (5, .int da), (0, .ref b0), (1, .long b1)]) hx hb dX4_ofDates_82 rfl hl (by decide) rfl (fun ls hl => ?_)
                        refine lv_iinc (v := cb + 1) (lv' := [(6, .int (cb + 1)), (3, .long (v_X4_add (v_X4_add df ((nI (dlen t21)).toInt64)) ((nI (st_len.getD 10 0)).toInt64))), (5, .int da), (0, .ref b0), (1, .long b1)]) hx hb dX4_ofDates_83 hl (k := 1) rfl rfl (by decide) rfl (fun ls hl => ?_)
                        refine lv_goto (tgt := 43) hx hb dX4_ofDates_86 (by decide) ?_
                        exact ih18 (cb + 1) (v_X4_add (v_X4_add df ((nI (dlen t21)).toInt64)) ((nI (st_len.getD 10 0)).toInt64)) (C18 + 8) (S18 + 46) H locs (by omega) (by omega) (fu_le c19 hn18) (inc_nn hzcb c19) (LF_s hjcb hzcb c19 (by unfold sE; rw [dl_s o20, dl_n o30]; try rfl)) B ls (lv_sub hl [0, 2, 1, 3, 4] rfl)
                      | some t31 =>
                        refine k_r (k := (C18 + 12)) (n := (S18 + 80)) hA B (b_V (q := 24) (rest := [.long (v_X4_add df ((nI (dlen t21)).toInt64))]) hb0 X (c_X4_movedNowY l g N ad y cr dr th kn rf pl pz mc (by omega) b0 hb0 da cb 1 (no_of hzda c2) (no_of hzcb c19) hdr t31 (show v_X4_onBy (dr da.toNatClampNeg) (cr cb.toNatClampNeg) (msg 1) = some t31 by rw [show msg 1 = (-1) from rfl]; exact o30) H.size) mw_X4_movedNow md_X4_movedNow rfl lk_X4_235 ⟨Nat.le_of_ble_eq_true rfl, Nat.le_of_ble_eq_true rfl⟩ hA hK hT B (by omega) mg_24 rfl rfl hl.1 rfl (Nat.le_of_ble_eq_true rfl) dX4_ofDates_72 (by dsimp only [rm]; omega)) (by dsimp only [rm]; omega) (by dsimp only [rm]; omega) (fun r ad' f' H locs hw B => ?_)
                        dsimp only at hw
                        obtain ⟨a32, a32x, h32, hF32, rfl, rfl, rfl⟩ := hw
                        have B : WB g (aw N ad sz) s.heap (N + 1 + 1) (va_up (va_up ad N a32) (N + 1) a32x) (mg g (va_up (va_up ad N a32) (N + 1) a32x) (va_up (va_up y N (c_st a32x)) (N + 1) (c_ba g (dlen t31) h32)) cr dr th kn rf pl pz mc) H locs := B
                        refine k_i (k := (C18 + 12)) (n := (S18 + 80)) hA B (b_V (q := N) (rest := [.long (v_X4_add df ((nI (dlen t21)).toInt64))]) ((up_lt (by omega)).trans up_eq) X (c_W_len l g (N + 1 + 1) (va_up (va_up ad N a32) (N + 1) a32x) (mg g (va_up (va_up ad N a32) (N + 1) a32x) (va_up (va_up y N (c_st a32x)) (N + 1) (c_ba g (dlen t31) h32)) cr dr th kn rf pl pz mc) N a32 (N + 1) a32x (dlen t31) h32 (by omega) (by omega) ((up_lt (by omega)).trans up_eq) up_eq ((mg_hi (by omega)).trans ((up_lt (by omega)).trans up_eq)) ((mg_hi (by omega)).trans up_eq) H.size) mw_J0_length_8abf5 md_J0_length_8abf5 rfl lk_X4_269 ⟨Nat.le_of_ble_eq_true rfl, Nat.le_of_ble_eq_true rfl⟩ hA hK hT B (by omega) ((mg_hi (by omega)).trans ((up_lt (by omega)).trans up_eq)) rfl rfl hl.1 rfl (Nat.le_of_ble_eq_true rfl) dX4_ofDates_75 (by dsimp only [rm]; omega)) (by dsimp only [rm]; omega) (by dsimp only [rm]; omega) (fun r ad' f' H locs hw B => ?_)
                        obtain ⟨rfl, rfl, rfl⟩ := hw
                        have B : WB g (aw N ad sz) s.heap N ad (mg g ad y cr dr th kn rf pl pz mc) H locs := WM_drop B (by omega) (by omega) (fun _ hk => ((up_lt (Nat.lt_succ_of_lt hk)).trans (up_lt hk))) (fun _ hk => ((up_lt (Nat.lt_succ_of_lt hk)).trans (up_lt hk)))
                        refine lv_i2l (v := (nI (dlen t31)).toInt64) hx hb dX4_ofDates_78 rfl ?_
                        refine k_l (k := (C18 + 12)) (n := (S18 + 80)) hA B (u_S (rest := []) X (c_X4_add l g N ad (mg g ad y cr dr th kn rf pl pz mc) (v_X4_add df ((nI (dlen t21)).toInt64)) ((nI (dlen t31)).toInt64) H.size) mw_X4_add md_X4_add rfl lk_X4_266 ⟨Nat.le_of_ble_eq_true rfl, Nat.le_of_ble_eq_true rfl⟩ hA hK hT B hl.1 rfl (Nat.le_of_ble_eq_true rfl) dX4_ofDates_79 (by dsimp only [rm]; omega)) (by dsimp only [rm]; omega) (by dsimp only [rm]; omega) (fun r34 ad34 f' H locs hw B => ?_)
                        obtain ⟨rfl, rfl, rfl⟩ := hw
                        refine lv_lstore_n (lv' := [(3, .long (v_X4_add (v_X4_add df ((nI (dlen t21)).toInt64)) ((nI (dlen t31)).toInt64))), (6, .int cb), (5, .int da), (0, .ref b0), (1, .long b1)]) hx hb dX4_ofDates_82 rfl hl (by decide) rfl (fun ls hl => ?_)
                        refine lv_iinc (v := cb + 1) (lv' := [(6, .int (cb + 1)), (3, .long (v_X4_add (v_X4_add df ((nI (dlen t21)).toInt64)) ((nI (dlen t31)).toInt64))), (5, .int da), (0, .ref b0), (1, .long b1)]) hx hb dX4_ofDates_83 hl (k := 1) rfl rfl (by decide) rfl (fun ls hl => ?_)
                        refine lv_goto (tgt := 43) hx hb dX4_ofDates_86 (by decide) ?_
                        exact ih18 (cb + 1) (v_X4_add (v_X4_add df ((nI (dlen t21)).toInt64)) ((nI (dlen t31)).toInt64)) (C18 + 12) (S18 + 80) H locs (by omega) (by omega) (fu_le c19 hn18) (inc_nn hzcb c19) (LF_s hjcb hzcb c19 (by unfold sE; rw [dl_s o20, dl_s o30]; try rfl)) B ls (lv_sub hl [0, 2, 1, 3, 4] rfl)
              have hT18 : 4 + 1 ≤ 5 := (by decide)
              exact loop18 (4 + 1) 0 de (C1 + 0) (S1 + 0) H locs (by first | exact Nat.le_refl _ | exact Nat.le_of_ble_eq_true rfl | omega) (by first | exact Nat.le_refl _ | exact Nat.le_of_ble_eq_true rfl | omega) (by decide) (by decide) (LF_0 (by decide)) B ls hl
            · refine lv_lload_n hx hb dX4_ofDates_20 rfl (lv_at hl 2 rfl) ?_
              refine lv_aload_n hx hb dX4_ofDates_21 rfl (lv_at hl 3 rfl) ?_
              refine lv_iload hx hb dX4_ofDates_22 (lv_at hl 1 rfl) ?_
              refine lv_iload hx hb dX4_ofDates_24 (lv_at hl 0 rfl) ?_
              refine k_i (k := (C16 + 0)) (n := (S16 + 0)) hA B (b_V (q := 24) (rest := [.long de]) hb0 X (c_X4_ofDateNow l g N ad y cr dr th kn rf pl pz mc (by omega) b0 hb0 da wa (no_of hzda c2) (isin_of hzwa c17) hdr H.size) mw_X4_ofDateNow md_X4_ofDateNow rfl lk_X4_229 ⟨Nat.le_of_ble_eq_true rfl, Nat.le_of_ble_eq_true rfl⟩ hA hK hT B (by omega) mg_24 rfl rfl hl.1 rfl (Nat.le_of_ble_eq_true rfl) dX4_ofDates_26 (by dsimp only [rm]; omega)) (by dsimp only [rm]; omega) (by dsimp only [rm]; omega) (fun r35 ad35 f' H locs hw B => ?_)
              obtain ⟨rfl, rfl, rfl⟩ := hw
              refine lv_i2l (v := (v_X4_ofDateNow dr da wa).toInt64) hx hb dX4_ofDates_29 rfl ?_
              refine k_l (k := (C16 + 0)) (n := (S16 + 0)) hA B (u_S (rest := []) X (c_X4_add l g N ad (mg g ad y cr dr th kn rf pl pz mc) de ((v_X4_ofDateNow dr da wa).toInt64) H.size) mw_X4_add md_X4_add rfl lk_X4_266 ⟨Nat.le_of_ble_eq_true rfl, Nat.le_of_ble_eq_true rfl⟩ hA hK hT B hl.1 rfl (Nat.le_of_ble_eq_true rfl) dX4_ofDates_30 (by dsimp only [rm]; omega)) (by dsimp only [rm]; omega) (by dsimp only [rm]; omega) (fun r36 ad36 f' H locs hw B => ?_)
              obtain ⟨rfl, rfl, rfl⟩ := hw
              refine lv_lstore_n (lv' := [(3, .long (v_X4_add de ((v_X4_ofDateNow dr da wa).toInt64))), (6, .int wa), (5, .int da), (0, .ref b0), (1, .long b1)]) hx hb dX4_ofDates_33 rfl hl (by decide) rfl (fun ls hl => ?_)
              refine lv_iinc (v := wa + 1) (lv' := [(6, .int (wa + 1)), (3, .long (v_X4_add de ((v_X4_ofDateNow dr da wa).toInt64))), (5, .int da), (0, .ref b0), (1, .long b1)]) hx hb dX4_ofDates_34 hl (k := 1) rfl rfl (by decide) rfl (fun ls hl => ?_)
              refine lv_goto (tgt := 14) hx hb dX4_ofDates_37 (by decide) ?_
              exact ih16 (wa + 1) (v_X4_add de ((v_X4_ofDateNow dr da wa).toInt64)) (C16 + 0) (S16 + 0) H locs (by omega) (by omega) (fu_le c17 hn16) (inc_nn hzwa c17) (LF_s hjwa hzwa c17 (by unfold sD; rw [nI_tn hzwa]; try rfl)) B ls (lv_sub hl [0, 2, 1, 3, 4] rfl)
        have hT16 : 4 + 1 ≤ 5 := (by decide)
        exact loop16 (4 + 1) 0 dd (C1 + 0) (S1 + 0) H locs (by first | exact Nat.le_refl _ | exact Nat.le_of_ble_eq_true rfl | omega) (by first | exact Nat.le_refl _ | exact Nat.le_of_ble_eq_true rfl | omega) (by decide) (by decide) (LF_0 (by decide)) B ls hl
  have hT1 : 4 + 1 ≤ 5 := (by decide)
  exact loop1 (4 + 1) 0 b1 0 0 H locs (by first | exact Nat.le_refl _ | exact Nat.le_of_ble_eq_true rfl | omega) (by first | exact Nat.le_refl _ | exact Nat.le_of_ble_eq_true rfl | omega) (by decide) (by decide) (LF_0 (by decide)) B ls hl

set_option maxHeartbeats 16000000 in
set_option maxRecDepth 100000 in
theorem c1_X4_digest (l : Launch) (g : GG) (N : Nat) (ad : Nat → Nat) (y : Nat → va_E) (cr dr : Nat → TR) (th kn rf : Int32) (pl : Nat → TR) (pz : Nat) (mc : Int32) (hN : 36 + pz ≤ N) (b0 : Nat) (hb0 : ad 24 = b0) (hz : pz ≤ 9) (hdr : ∀ i, i < 4 → okd (dr i)) (hov : ∀ i, i < 4 → okv (dr i)) : KL l yX4_digest cX4_digest 4 (rm 9 1165 11859) g [.ref b0] N ad (mg g ad y cr dr th kn rf pl pz mc) N (fun r ad' f' => ad = ad' ∧ dG cr dr kn rf pl pz = r ∧ mg g ad y cr dr 0 kn rf pl pz mc = f') := by
  intro sz
  refine mt_start (by decide) (Nat.le_of_ble_eq_true rfl) ?_
  intro p e s m args below meth c hsz X hr hnam hA hK hT H locs B ls hl
  obtain ⟨hx, hb, hml, hown, hts, hlocks⟩ := id X
  have hl : lv_has ls 4 [(0, .ref b0)] := hl
  refine lv_aload_n hx hb dX4_digest_0 rfl (lv_at hl 0 rfl) ?_
  refine lv_iconst (v := 0) hx hb dX4_digest_1 (by decide) ?_
  refine b_put (q := 24) (k := 0) hb0 X hK B rfl in_X4 tyX4_ok nmX4 (by omega) mg_24 (by decide) lk_X4_26 rfl rfl rfl rfl rfl (Nat.le_of_ble_eq_true rfl) dX4_digest_2 (fun H locs B => ?_)
  have B : WB g (aw N ad sz) s.heap N ad (mg g ad y cr dr 0 kn rf pl pz mc) H locs := by rw [← mg_up_md]; exact B
  refine lv_aload_n hx hb dX4_digest_5 rfl (lv_at hl 0 rfl) ?_
  refine lv_aload_n hx hb dX4_digest_6 rfl (lv_at hl 0 rfl) ?_
  refine lv_ldc2 hx hb hown (hts _ (List.mem_cons_of_mem _ lk_X4_273)) dX4_digest_7 ?_
  refine k_l (k := 164) (n := 4044) hA B (b_V (q := 24) (rest := [.ref b0]) hb0 X (c1_X4_ofCards l g N ad y cr dr 0 kn rf pl pz mc (by omega) b0 hb0 6217 hz H.size) mw_X4_ofCards md_X4_ofCards rfl lk_X4_275 ⟨Nat.le_of_ble_eq_true rfl, Nat.le_of_ble_eq_true rfl⟩ hA hK hT B (by omega) mg_24 rfl rfl hl.1 rfl (Nat.le_of_ble_eq_true rfl) dX4_digest_10 ⟨Nat.le_of_ble_eq_true rfl, Nat.le_of_ble_eq_true rfl⟩) (Nat.le_of_ble_eq_true rfl) (Nat.le_of_ble_eq_true rfl) (fun r1 ad1 f' H locs hw B => ?_)
  obtain ⟨rfl, hr1, rfl⟩ := hw
  refine k_l (k := 664) (n := 10344) hA B (b_V (q := 24) (rest := []) hb0 X (c1_X4_ofDates l g N ad y cr dr 0 kn rf pl pz mc (by omega) b0 hb0 r1 hdr H.size) mw_X4_ofDates md_X4_ofDates rfl lk_X4_279 ⟨Nat.le_of_ble_eq_true rfl, Nat.le_of_ble_eq_true rfl⟩ hA hK hT B (by omega) mg_24 rfl rfl hl.1 rfl (Nat.le_of_ble_eq_true rfl) dX4_digest_13 ⟨Nat.le_of_ble_eq_true rfl, Nat.le_of_ble_eq_true rfl⟩) (Nat.le_of_ble_eq_true rfl) (Nat.le_of_ble_eq_true rfl) (fun r2 ad2 f' H locs hw B => ?_)
  obtain ⟨rfl, hr2, rfl⟩ := hw
  refine lv_lstore_n (lv' := [(1, .long r2), (0, .ref b0)]) hx hb dX4_digest_16 rfl hl (by decide) rfl (fun ls hl => ?_)
  refine lv_iconst (v := 0) hx hb dX4_digest_17 (by decide) ?_
  refine lv_istore_n (lv' := [(3, .int 0), (1, .long r2), (0, .ref b0)]) hx hb dX4_digest_18 rfl hl (by decide) rfl (fun ls hl => ?_)
  have loop3 : ∀ (n3 : Nat) (wh : Int32) (dd : Int64) (C3 : Nat) (S3 : Nat) (H : Heap) (locs : List Loc), C3 + n3 * 6 ≤ 700 → S3 + n3 * 20 ≤ 10464 → ((5 : Int32).toInt - wh.toInt).toNat < n3 → ¬ wh < 0 → LJ 5 (fo (sH cr kn rf pz) r2) wh dd → WB g (aw N ad sz) s.heap N ad (mg g ad y cr dr 0 kn rf pl pz mc) H locs → ∀ ls : Array Slot, lv_has ls 4 [(3, .int wh), (1, .long dd), (0, .ref b0)] → W p l e (rm 9 1165 11859) s m args below meth c H locs C3 S3 (MQ below (va_Ql (fun r (u : WS) => (fun r ad' f' => ad = ad' ∧ dG cr dr kn rf pl pz = r ∧ mg g ad y cr dr 0 kn rf pl pz mc = f') r u.1 u.2) (fun u t => PO g N u.1 u.2 (aw N ad sz) t) (aw N ad sz)) args s (rm 9 1165 11859).cells (rm 9 1165 11859).slots (aw N ad sz)) (F0 m 19 ls []) := by
    intro n3
    induction n3 with
    | zero => intro wh dd C3 S3 H locs _ _ hn; exact absurd hn (Nat.not_lt_zero _)
    | succ n3 ih3 =>
      intro wh dd C3 S3 H locs hC3 hS3 hn3 hzwh hjwh B ls hl
      refine lv_iload_n hx hb dX4_digest_19 rfl (lv_at hl 0 rfl) ?_
      refine lv_iconst (v := 5) hx hb dX4_digest_20 (by decide) ?_
      refine lv_icmp_ge (tgt := 41) hx hb dX4_digest_21 (by decide) (fun c4 => ?_) (fun c4 => ?_)
      · refine W.widen (show (C3 + 0) ≤ 700 by omega) (show (S3 + 0) ≤ 10464 by omega) ?_
        refine lv_lload_n hx hb dX4_digest_41 rfl (lv_at hl 1 rfl) ?_
        refine lv_aload_n hx hb dX4_digest_42 rfl (lv_at hl 2 rfl) ?_
        refine k_i (k := 1165) (n := 11859) hA B (b_V (q := 24) (rest := [.long dd]) hb0 X (c1_X4_isSoundNow l g N ad y cr dr 0 kn rf pl pz mc (by omega) b0 hb0 hdr hov H.size) mw_X4_isSoundNow md_X4_isSoundNow rfl lk_X4_261 ⟨Nat.le_of_ble_eq_true rfl, Nat.le_of_ble_eq_true rfl⟩ hA hK hT B (by omega) mg_24 rfl rfl hl.1 rfl (Nat.le_of_ble_eq_true rfl) dX4_digest_43 ⟨Nat.le_of_ble_eq_true rfl, Nat.le_of_ble_eq_true rfl⟩) (Nat.le_of_ble_eq_true rfl) (Nat.le_of_ble_eq_true rfl) (fun r5 ad5 f' H locs hw B => ?_)
        obtain ⟨rfl, rfl, rfl⟩ := hw
        refine k_i (k := 1165) (n := 11859) hA B (u_S (rest := [.long dd]) X (c_X4_one l g N ad (mg g ad y cr dr 0 kn rf pl pz mc) 1 H.size) mw_X4_one md_X4_one rfl lk_X4_91 ⟨Nat.le_of_ble_eq_true rfl, Nat.le_of_ble_eq_true rfl⟩ hA hK hT B hl.1 rfl (Nat.le_of_ble_eq_true rfl) dX4_digest_46 ⟨Nat.le_of_ble_eq_true rfl, Nat.le_of_ble_eq_true rfl⟩) (Nat.le_of_ble_eq_true rfl) (Nat.le_of_ble_eq_true rfl) (fun r6 ad6 f' H locs hw B => ?_)
        obtain ⟨rfl, rfl, rfl⟩ := hw
        refine lv_i2l (v := (v_X4_one 1).toInt64) hx hb dX4_digest_49 rfl ?_
        refine k_l (k := 1165) (n := 11859) hA B (u_S (rest := []) X (c_X4_add l g N ad (mg g ad y cr dr 0 kn rf pl pz mc) dd ((v_X4_one 1).toInt64) H.size) mw_X4_add md_X4_add rfl lk_X4_266 ⟨Nat.le_of_ble_eq_true rfl, Nat.le_of_ble_eq_true rfl⟩ hA hK hT B hl.1 rfl (Nat.le_of_ble_eq_true rfl) dX4_digest_50 ⟨Nat.le_of_ble_eq_true rfl, Nat.le_of_ble_eq_true rfl⟩) (Nat.le_of_ble_eq_true rfl) (Nat.le_of_ble_eq_true rfl) (fun r7 ad7 f' H locs hw B => ?_)
        obtain ⟨rfl, rfl, rfl⟩ := hw
        exact rt_l X hr (ad, mg g ad y cr dr 0 kn rf pl pz mc) B (PO_of B) ⟨rfl, by unfold dG; rw [(LJ_e 5 hjwh hzwh c4 rfl), ← hr2, ← hr1], rfl⟩ (Nat.le_of_ble_eq_true rfl) (Nat.le_of_ble_eq_true rfl) dX4_digest_53
      · refine lv_lload_n hx hb dX4_digest_24 rfl (lv_at hl 1 rfl) ?_
        refine lv_aload_n hx hb dX4_digest_25 rfl (lv_at hl 2 rfl) ?_
        refine lv_iload_n hx hb dX4_digest_26 rfl (lv_at hl 0 rfl) ?_
        refine k_i (k := (C3 + 6)) (n := (S3 + 20)) hA B (b_V (q := 24) (rest := [.long dd]) hb0 X (c_X4_houseNow l g N ad y cr dr 0 kn rf pl pz mc (by omega) b0 hb0 wh (isin_of5 hzwh c4) H.size) mw_X4_houseNow md_X4_houseNow rfl lk_X4_251 ⟨Nat.le_of_ble_eq_true rfl, Nat.le_of_ble_eq_true rfl⟩ hA hK hT B (by omega) mg_24 rfl rfl hl.1 rfl (Nat.le_of_ble_eq_true rfl) dX4_digest_27 (by dsimp only [rm]; omega)) (by dsimp only [rm]; omega) (by dsimp only [rm]; omega) (fun r8 ad8 f' H locs hw B => ?_)
        obtain ⟨rfl, rfl, rfl⟩ := hw
        refine lv_i2l (v := (v_X4_houseNow cr kn rf pz wh).toInt64) hx hb dX4_digest_30 rfl ?_
        refine k_l (k := (C3 + 6)) (n := (S3 + 20)) hA B (u_S (rest := []) X (c_X4_add l g N ad (mg g ad y cr dr 0 kn rf pl pz mc) dd ((v_X4_houseNow cr kn rf pz wh).toInt64) H.size) mw_X4_add md_X4_add rfl lk_X4_266 ⟨Nat.le_of_ble_eq_true rfl, Nat.le_of_ble_eq_true rfl⟩ hA hK hT B hl.1 rfl (Nat.le_of_ble_eq_true rfl) dX4_digest_31 (by dsimp only [rm]; omega)) (by dsimp only [rm]; omega) (by dsimp only [rm]; omega) (fun r9 ad9 f' H locs hw B => ?_)
        obtain ⟨rfl, rfl, rfl⟩ := hw
        refine lv_lstore_n (lv' := [(1, .long (v_X4_add dd ((v_X4_houseNow cr kn rf pz wh).toInt64))), (3, .int wh), (0, .ref b0)]) hx hb dX4_digest_34 rfl hl (by decide) rfl (fun ls hl => ?_)
        refine lv_iinc (v := wh + 1) (lv' := [(3, .int (wh + 1)), (1, .long (v_X4_add dd ((v_X4_houseNow cr kn rf pz wh).toInt64))), (0, .ref b0)]) hx hb dX4_digest_35 hl (k := 1) rfl rfl (by decide) rfl (fun ls hl => ?_)
        refine lv_goto (tgt := 19) hx hb dX4_digest_38 (by decide) ?_
        exact ih3 (wh + 1) (v_X4_add dd ((v_X4_houseNow cr kn rf pz wh).toInt64)) (C3 + 6) (S3 + 20) H locs (by omega) (by omega) (fu_le c4 hn3) (inc_nn hzwh c4) (LF_s hjwh hzwh c4 (by unfold sH; rw [nI_tn hzwh])) B ls (lv_sub hl [0, 1, 2] rfl)
  have hT3 : 5 + 1 ≤ 6 := (by decide)
  exact loop3 (5 + 1) 0 r2 664 10344 H locs (by first | exact Nat.le_refl _ | exact Nat.le_of_ble_eq_true rfl | omega) (by first | exact Nat.le_refl _ | exact Nat.le_of_ble_eq_true rfl | omega) (by decide) (by decide) (LF_0 (by decide)) B ls hl
end
