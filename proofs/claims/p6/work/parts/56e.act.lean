/-! between, order, acts: the class's side as the reference's -/
theorem pe {α β : Type} (p : α × β) : (p.1, p.2) = p := rfl
theorem put_eq (sp : Nat → TR) (i : Nat) (b1 b2 b3 : Int64) : v_X1_put sp i b1 b2 b3 = om (v_X4_span b1 b2 b3) (0, sp) (fun t => (1, va_up sp i t)) := by
  have e : ∀ b : Int64, v_X2_canBeTold b = v_X4_isIn b (-2147483648) 2147483647 := fun _ => rfl
  unfold v_X1_put v_X4_span
  rw [e, e, e]
  by_cases h1 : v_X4_isIn b1 (-2147483648) 2147483647 = 0
  · rw [if_pos h1, if_pos h1]; rfl
  · rw [if_neg h1, if_neg h1]
    by_cases h2 : v_X4_isIn b2 (-2147483648) 2147483647 = 0
    · rw [if_pos h2, if_pos h2]; rfl
    · rw [if_neg h2, if_neg h2]
      by_cases h3 : v_X4_isIn b3 (-2147483648) 2147483647 = 0
      · rw [if_pos h3, if_pos h3]; rfl
      · rw [if_neg h3, if_neg h3]; rfl
theorem span_32 (a b c : Int32) : v_X4_span a.toInt64 b.toInt64 c.toInt64 = some (a, b, c) :=
  span_some.mpr ⟨⟨inr_of _, inr_of _, inr_of _⟩, by rw [i32_64, i32_64, i32_64]⟩
theorem psum_eq (sp : Nat → TR) (i0 i1 i2 : Nat) : v_X1_putSum sp i0 i1 i2 = om (v_X4_sum (sp i1) 1 (sp i2)) (0, sp) (fun t => (1, va_up sp i0 t)) := by
  unfold v_X1_putSum v_X4_sum
  rw [pe, put_eq, om_id, Int64.one_mul, Int64.one_mul, Int64.one_mul]
theorem sub_mi (x y : Int64) : x - y = x + -1 * y := by grind
theorem pdif_eq (sp : Nat → TR) (i0 i1 i2 : Nat) : v_X1_putDifference sp i0 i1 i2 = om (v_X4_sum (sp i1) (-1) (sp i2)) (0, sp) (fun t => (1, va_up sp i0 t)) := by
  unfold v_X1_putDifference v_X4_sum
  rw [pe, put_eq, om_id, sub_mi, sub_mi, sub_mi]
theorem ptim_eq (sp : Nat → TR) (i0 i1 : Nat) (n : Int64) : v_X1_putTimes sp i0 i1 n = om (v_X4_sum v_X4_nothing n (sp i1)) (0, sp) (fun t => (1, va_up sp i0 t)) := by
  unfold v_X1_putTimes v_X4_sum v_X4_nothing
  have z : (0 : Int32).toInt64 = 0 := rfl
  rw [pe, put_eq, om_id]
  show _ = om (v_X4_span ((0 : Int32).toInt64 + _) ((0 : Int32).toInt64 + _) ((0 : Int32).toInt64 + _)) _ _
  rw [z, Int64.zero_add, Int64.zero_add, Int64.zero_add]
theorem popp_eq (sp : Nat → TR) (i0 i1 : Nat) : v_X1_putOpposite sp i0 i1 = om (v_X4_opposed (sp i1)) (0, sp) (fun t => (1, va_up sp i0 t)) := by
  unfold v_X1_putOpposite v_X4_opposed
  rw [pe, ptim_eq, om_id]
theorem ptid_eq (sp : Nat → TR) (i0 i1 : Nat) : v_X1_putTidy sp i0 i1 = om (v_X4_tidied (sp i1)) (0, sp) (fun t => (1, va_up sp i0 t)) := by
  unfold v_X1_putTidy v_X4_tidied
  rw [pe, put_eq, om_id, all_tot]
theorem ord_eq {dy : Nat → TR} {i j : Nat} (hi : okd (dy i)) (hj : okd (dy j)) : v_X0_orderTo dy i j = if v_X4_number (dy j) ≤ v_X4_number (dy i) then (if v_X4_number (dy i) ≤ v_X4_number (dy j) then 0 else 1) else (-1) := by
  unfold v_X0_orderTo v_X0_dayNumber
  rw [num_t hi, num_t hj]
theorem ord_0 {dy : Nat → TR} {i j : Nat} (hi : okd (dy i)) (hj : okd (dy j)) : v_X0_orderTo dy i j = 0 ↔ v_X4_number (dy i) = v_X4_number (dy j) := by
  rw [ord_eq hi hj]
  by_cases h1 : v_X4_number (dy j) ≤ v_X4_number (dy i)
  · rw [if_pos h1]
    by_cases h2 : v_X4_number (dy i) ≤ v_X4_number (dy j)
    · rw [if_pos h2]
      rw [Int32.le_iff_toInt_le] at h1 h2
      exact ⟨fun _ => Int32.toInt_inj.mp (by omega), fun _ => rfl⟩
    · rw [if_neg h2]
      exact ⟨fun h => absurd h (by decide), fun h => absurd (by rw [h]; exact Int32.le_refl _) h2⟩
  · rw [if_neg h1]
    exact ⟨fun h => absurd h (by decide), fun h => absurd (by rw [h]; exact Int32.le_refl _) h1⟩
theorem ord_n {dy : Nat → TR} {i j : Nat} (hi : okd (dy i)) (hj : okd (dy j)) : v_X0_orderTo dy i j < 0 ↔ ¬ v_X4_number (dy j) ≤ v_X4_number (dy i) := by
  rw [ord_eq hi hj]
  by_cases h1 : v_X4_number (dy j) ≤ v_X4_number (dy i)
  · rw [if_pos h1]
    by_cases h2 : v_X4_number (dy i) ≤ v_X4_number (dy j)
    · rw [if_pos h2]; exact ⟨fun h => absurd h (by decide), fun h => absurd h1 h⟩
    · rw [if_neg h2]; exact ⟨fun h => absurd h (by decide), fun h => absurd h1 h⟩
  · rw [if_neg h1]
    exact ⟨fun _ => h1, fun _ => by decide⟩
theorem mpl_w (a1 a2 b1 b2 : Int32) : (b1 * 12 + b2 - 1) - (a1 * 12 + a2 - 1) = 12 * (b1 - a1) + b2 - a2 := by grind
theorem btw_k {sp dy : Nat → TR} {i0 j1 j2 : Nat} {w : Int32} (h1 : okd (dy j1)) (h2 : okd (dy j2)) (hn : v_X4_onByMonths (dy j1) w.toInt64 ≠ none) :
    v_X1_put sp i0 (w / 12).toInt64 (w - w / 12 * 12).toInt64 (v_X0_dayNumber dy j2 - v_X0_dayNumberMonthsOn dy j1 w).toInt64 = om (om (v_X4_onByMonths (dy j1) w.toInt64) none (fun t => some (w / 12, w - w / 12 * 12, v_X4_number (dy j2) - v_X4_number t))) (0, sp) (fun t => (1, va_up sp i0 t)) := by
  cases e : v_X4_onByMonths (dy j1) w.toInt64 with
  | none => exact absurd e hn
  | some t1 =>
    have b := d64_bd w
    have q := (mo_some (j := j1) rfl h1 b.1 b.2 e).2
    rw [i32_64] at q
    have e2 : v_X0_dayNumber dy j2 = v_X4_number (dy j2) := num_t h2
    rw [put_eq, q, e2, span_32]
    rfl
theorem btw_eq {sp dy : Nat → TR} {i0 j1 j2 : Nat} (h1 : okd (dy j1)) (h2 : okd (dy j2)) : v_X1_putBetween sp dy i0 j1 j2 = om (v_X4_apart (dy j1) (dy j2)) (0, sp) (fun t => (1, va_up sp i0 t)) := by
  have eW : v_X0_monthPlace dy j2 - v_X0_monthPlace dy j1 = 12 * ((dy j2).1 - (dy j1).1) + (dy j2).2.1 - (dy j1).2.1 := mpl_w _ _ _ _
  have a0 := ap_0 h1 h2
  have ap := ap_p h1 h2
  have am := ap_m h1 h2
  have o := ord_n h2 h1
  unfold v_X1_putBetween v_X4_apart
  rw [eW]
  generalize 12 * ((dy j2).1 - (dy j1).1) + (dy j2).2.1 - (dy j1).2.1 = w at a0 ap am ⊢
  have z1 : w + 0 = w := Int32.add_zero w
  have z2 : w - 0 = w := Int32.sub_zero w
  have z3 : w - 1 = w + -1 := by grind
  rw [z1, z2, z3]
  by_cases c : v_X4_number (dy j1) ≤ v_X4_number (dy j2)
  · rw [if_neg (fun q => o.mp q c), if_pos c]
    by_cases d : (dy j1).2.2 ≤ (dy j2).2.2
    · rw [if_pos d, if_pos d]
      rw [pe]
      exact btw_k h1 h2 a0
    · rw [if_neg d, if_neg d]
      rw [pe]
      exact btw_k h1 h2 (am c d)
  · rw [if_pos (o.mpr c), if_neg c]
    by_cases e : (dy j1).2.2 ≤ 28
    · rw [if_pos e, if_pos e]
      by_cases d : (dy j2).2.2 ≤ (dy j1).2.2
      · rw [if_pos d, if_pos d]
        rw [pe]
        exact btw_k h1 h2 a0
      · rw [if_neg d, if_neg d]
        by_cases f : 0 ≤ w
        · rw [if_pos f, if_pos f]
          rw [pe]
          exact btw_k h1 h2 a0
        · rw [if_neg f, if_neg f]
          rw [pe]
          exact btw_k h1 h2 (ap f)
    · rw [if_neg e, if_neg e]
      rfl
theorem lds_eq {sp dy : Nat → TR} {j1 i2 j3 : Nat} (h1 : okd (dy j1)) (h3 : okd (dy j3)) (hj : j3 ≠ 4) : v_X2_leads sp dy j1 i2 j3 = om (v_X4_onBy (dy j1) (sp i2) 1) (0, dy) (fun t => (if v_X4_number t = v_X4_number (dy j3) then 1 else 0, va_up dy 4 t)) := by
  have b1 := tot_bd (sp i2)
  have b2 := d64_bd (sp i2).2.2
  unfold v_X2_leads
  rw [all_tot, pm_eq h1 b1.1 b1.2.1 b2.1 b2.2, ← onBy_1]
  cases e : v_X4_onBy (dy j1) (sp i2) 1 with
  | none => rfl
  | some t =>
    have ho := onBy_okv e h1 (Or.inl rfl)
    show (if (1 : Int32) = 0 then _ else if v_X0_orderTo (va_up dy 4 t) 4 j3 = 0 then (1, va_up dy 4 t) else (0, va_up dy 4 t)) = _
    rw [if_neg (by decide)]
    have e4 : va_up dy 4 t 4 = t := va_up_self _ _ _
    have e3 : va_up dy 4 t j3 = dy j3 := va_up_ne _ _ hj
    have o := ord_0 (dy := va_up dy 4 t) (i := 4) (j := j3) (by rw [e4]; exact ho.1) (by rw [e3]; exact h3)
    rw [e4, e3] at o
    by_cases c : v_X4_number t = v_X4_number (dy j3)
    · rw [if_pos (o.mpr c)]
      show _ = (if v_X4_number t = v_X4_number (dy j3) then (1 : Int32) else 0, va_up dy 4 t)
      rw [if_pos c]
    · rw [if_neg (fun q => c (o.mp q))]
      show _ = (if v_X4_number t = v_X4_number (dy j3) then (1 : Int32) else 0, va_up dy 4 t)
      rw [if_neg c]
/-! acts -/
/-- as far as the first four -/
def E4 (a b : Nat → TR) : Prop := ∀ j, j < 4 → a j = b j
theorem E4_up {a b : Nat → TR} {i : Nat} {t : TR} (h : E4 a b) : E4 (va_up a i t) (va_up b i t) := by
  intro j hj
  by_cases e : j = i
  · rw [e, va_up_self, va_up_self]
  · rw [va_up_ne _ _ e, va_up_ne _ _ e]; exact h j hj
theorem E4_far {a b : Nat → TR} {i : Nat} {t : TR} (h : E4 a b) (hi : 4 ≤ i) : E4 (va_up a i t) b := by
  intro j hj
  rw [va_up_ne _ _ (by omega)]; exact h j hj
theorem psp_eq {sp : Nat → TR} {i k : Nat} (h : k ≠ i) : v_X1_putSpan sp i k = va_up sp i (sp k) := by
  unfold v_X1_putSpan
  rw [va_up_ne _ _ h, va_up_ne _ _ h]
theorem psp_self {sp : Nat → TR} {i : Nat} : v_X1_putSpan sp i i = va_up sp i (sp i) := by
  unfold v_X1_putSpan
  rw [va_up_self, va_up_self]
theorem psp_all {sp : Nat → TR} {i k : Nat} : v_X1_putSpan sp i k = va_up sp i (sp k) := by
  by_cases h : k = i
  · rw [h]; exact psp_self
  · exact psp_eq h
theorem same_iff {sp : Nat → TR} {i k : Nat} : v_X1_isSameAs sp i k = 0 ↔ sp i ≠ sp k := by
  unfold v_X1_isSameAs
  generalize sp i = a
  generalize sp k = b
  obtain ⟨a1, a2, a3⟩ := a
  obtain ⟨b1, b2, b3⟩ := b
  show (if a1 = b1 then (if a2 = b2 then (if a3 = b3 then (1 : Int32) else 0) else 0) else 0) = 0 ↔ _
  by_cases h1 : a1 = b1
  · rw [if_pos h1]
    by_cases h2 : a2 = b2
    · rw [if_pos h2]
      by_cases h3 : a3 = b3
      · rw [if_pos h3]; subst h1 h2 h3; exact ⟨fun h => absurd h (by decide), fun h => absurd rfl h⟩
      · rw [if_neg h3]; exact ⟨fun _ q => h3 (by cases q; rfl), fun _ => rfl⟩
    · rw [if_neg h2]; exact ⟨fun _ q => h2 (by cases q; rfl), fun _ => rfl⟩
  · rw [if_neg h1]; exact ⟨fun _ q => h1 (by cases q; rfl), fun _ => rfl⟩
theorem same_eq (a b : TR) : v_X4_isSame a b = if a = b then 1 else 0 := by
  unfold v_X4_isSame
  obtain ⟨a1, a2, a3⟩ := a
  obtain ⟨b1, b2, b3⟩ := b
  show (if a1 = b1 then (if a2 = b2 then (if a3 = b3 then (1 : Int32) else 0) else 0) else 0) = _
  by_cases h1 : a1 = b1
  · rw [if_pos h1]
    by_cases h2 : a2 = b2
    · rw [if_pos h2]
      by_cases h3 : a3 = b3
      · rw [if_pos h3]; subst h1 h2 h3; rw [if_pos rfl]
      · rw [if_neg h3, if_neg (fun q => h3 (by cases q; rfl))]
    · rw [if_neg h2, if_neg (fun q => h2 (by cases q; rfl))]
  · rw [if_neg h1, if_neg (fun q => h1 (by cases q; rfl))]
/-- a card's act, of the class: what was reckoned is in v -/
def cA (sp : Nat → TR) (re : Int32) (i : Nat) (v : Option TR) : Int32 × (Nat → TR) × Int32 := om v (-9, sp, re + 1) (fun t => (if sp i = t then 0 else 1, if sp i = t then va_up sp 12 t else va_up (va_up sp 12 t) i t, re))
/-- of the reference -/
def mA (cr : Nat → TR) (rf : Int32) (i : Nat) (v : Option TR) : Int32 × (Nat → TR) × Int32 := om v (-9, cr, rf + 1) (fun t => (if cr i = t then 0 else 1, va_up cr i t, rf))
theorem act_c {sp : Nat → TR} {re : Int32} {i : Nat} {v : Option TR} (hi : i ≠ 12) : v_X2_actOnCard (om v ((0 : Int32), sp) (fun t => (1, va_up sp 12 t))).2 re i (om v ((0 : Int32), sp) (fun t => (1, va_up sp 12 t))).1 = cA sp re i v := by
  cases v with
  | none => rfl
  | some t =>
    show v_X2_actOnCard (va_up sp 12 t) re i 1 = (if sp i = t then 0 else 1, if sp i = t then va_up sp 12 t else va_up (va_up sp 12 t) i t, re)
    unfold v_X2_actOnCard
    rw [if_neg (by decide)]
    have e1 : va_up sp 12 t i = sp i := va_up_ne _ _ hi
    have e2 : va_up sp 12 t 12 = t := va_up_self _ _ _
    have s := same_iff (sp := va_up sp 12 t) (i := i) (k := 12)
    rw [e1, e2] at s
    by_cases c : sp i = t
    · rw [if_neg (fun q => s.mp q c), if_pos c, if_pos c]
    · rw [if_pos (s.mpr c), if_neg c, if_neg c, psp_all, e2]
theorem get_m {cr : Nat → TR} {a : Int32} {t : TR} : v_X4_get cr a t = (if cr a.toNatClampNeg = t then 0 else 1, va_up cr a.toNatClampNeg t) := by
  unfold v_X4_get
  rw [same_eq]
  by_cases c : cr a.toNatClampNeg = t
  · rw [if_pos c, if_neg (by decide), if_pos c]; rfl
  · rw [if_neg c, if_pos rfl, if_neg c]; rfl
theorem act_rel {sp cr : Nat → TR} {re : Int32} {i : Nat} {v : Option TR} (hi : i < 4) (h : E4 sp cr) : (cA sp re i v).1 = (mA cr re i v).1 ∧ E4 (cA sp re i v).2.1 (mA cr re i v).2.1 ∧ (cA sp re i v).2.2 = (mA cr re i v).2.2 ∧ ∀ k, k < 8 → (cA sp re i v).2.1 (4 + k) = sp (4 + k) := by
  unfold cA mA
  cases v with
  | none => exact ⟨rfl, h, rfl, fun _ _ => rfl⟩
  | some t =>
    rw [om_some rfl, om_some rfl, h i hi]
    refine ⟨rfl, ?_, rfl, fun k hk => ?_⟩
    · by_cases c : cr i = t
      · show E4 (if cr i = t then va_up sp 12 t else va_up (va_up sp 12 t) i t) (va_up cr i t)
        rw [if_pos c]
        intro j hj
        rw [va_up_ne _ _ (by omega)]
        by_cases e : j = i
        · rw [e, va_up_self, h i hi]; exact c
        · rw [va_up_ne _ _ e]; exact h j hj
      · show E4 (if cr i = t then va_up sp 12 t else va_up (va_up sp 12 t) i t) (va_up cr i t)
        rw [if_neg c]
        exact E4_up (E4_far h (by omega))
    · by_cases c : cr i = t
      · show (if cr i = t then va_up sp 12 t else va_up (va_up sp 12 t) i t) (4 + k) = _
        rw [if_pos c, va_up_ne _ _ (by omega)]
      · show (if cr i = t then va_up sp 12 t else va_up (va_up sp 12 t) i t) (4 + k) = _
        rw [if_neg c, va_up_ne _ _ (by omega), va_up_ne _ _ (by omega)]
/-- a date's act -/
def cD (dy : Nat → TR) (re : Int32) (j : Nat) (v : Option TR) : Int32 × (Nat → TR) × Int32 := om v (-9, dy, re + 1) (fun t => (if dy j = t then 0 else 1, if dy j = t then va_up dy 4 t else va_up (va_up dy 4 t) j t, re))
def mD (dr : Nat → TR) (rf : Int32) (j : Nat) (v : Option TR) : Int32 × (Nat → TR) × Int32 := om v (-9, dr, rf + 1) (fun t => (if dr j = t then 0 else 1, va_up dr j t, rf))
theorem act_d {dy : Nat → TR} {re : Int32} {j : Nat} {v : Option TR} (hj : j ≠ 4) (h1 : okv (dy j)) (h2 : ∀ t, v = some t → okv t) : v_X2_actOnDate (om v ((0 : Int32), dy) (fun t => (1, va_up dy 4 t))).2 re j (om v ((0 : Int32), dy) (fun t => (1, va_up dy 4 t))).1 = cD dy re j v := by
  cases v with
  | none => rfl
  | some t =>
    have ht := h2 t rfl
    show v_X2_actOnDate (va_up dy 4 t) re j 1 = (if dy j = t then 0 else 1, if dy j = t then va_up dy 4 t else va_up (va_up dy 4 t) j t, re)
    unfold v_X2_actOnDate
    rw [if_neg (by decide)]
    have e1 : va_up dy 4 t j = dy j := va_up_ne _ _ hj
    have e2 : va_up dy 4 t 4 = t := va_up_self _ _ _
    have s := ord_0 (dy := va_up dy 4 t) (i := j) (j := 4) (by rw [e1]; exact h1.1) (by rw [e2]; exact ht.1)
    rw [e1, e2] at s
    by_cases c : dy j = t
    · rw [if_pos (s.mpr (by rw [c])), if_pos c, if_pos c]
    · rw [if_neg (fun q => c (num_inj h1 ht (s.mp q))), if_neg c, if_neg c]
      unfold v_X0_putDay v_X0_put
      rw [e2]
theorem bec_m {dr : Nat → TR} {a : Int32} {t : TR} (h1 : okv (dr a.toNatClampNeg)) (h2 : okv t) : v_X4_become dr a t = (if dr a.toNatClampNeg = t then 0 else 1, va_up dr a.toNatClampNeg t) := by
  unfold v_X4_become
  by_cases c : dr a.toNatClampNeg = t
  · rw [if_pos (by rw [c]), if_pos c]; rfl
  · rw [if_neg (fun q => c (num_inj h1 h2 q)), if_neg c]; rfl
theorem actd_rel {dy dr : Nat → TR} {re : Int32} {j : Nat} {v : Option TR} (hj : j < 4) (h : E4 dy dr) (hv : ∀ i, i < 4 → okv (dr i)) (h2 : ∀ t, v = some t → okv t) : (cD dy re j v).1 = (mD dr re j v).1 ∧ E4 (cD dy re j v).2.1 (mD dr re j v).2.1 ∧ (cD dy re j v).2.2 = (mD dr re j v).2.2 ∧ ∀ i, i < 4 → okv ((mD dr re j v).2.1 i) := by
  unfold cD mD
  cases v with
  | none => exact ⟨rfl, h, rfl, hv⟩
  | some t =>
    rw [om_some rfl, om_some rfl, h j hj]
    refine ⟨rfl, ?_, rfl, fun i hi => ?_⟩
    · by_cases c : dr j = t
      · show E4 (if dr j = t then va_up dy 4 t else va_up (va_up dy 4 t) j t) (va_up dr j t)
        rw [if_pos c]
        intro i hi
        rw [va_up_ne _ _ (by omega)]
        by_cases e : i = j
        · rw [e, va_up_self, h j hj]; exact c
        · rw [va_up_ne _ _ e]; exact h i hi
      · show E4 (if dr j = t then va_up dy 4 t else va_up (va_up dy 4 t) j t) (va_up dr j t)
        rw [if_neg c]
        exact E4_up (E4_far h (by omega))
    · show okv (va_up dr j t i)
      by_cases e : i = j
      · rw [e, va_up_self]; exact h2 t rfl
      · rw [va_up_ne _ _ e]; exact hv i hi
