/-! the relation of both states, kept call by call -/
def Rq (sp dy : Nat → TR) (la re : Int32) (cr dr : Nat → TR) (rf : Int32) (pl : Nat → TR) (pz : Nat) : Prop :=
  E4 sp cr ∧ E4 dy dr ∧ la = Int32.ofNat (pz - 1) ∧ (∀ k, k + 1 < pz → sp (4 + k) = pl k) ∧ re = rf ∧ pz ≤ 9 ∧ ∀ i, i < 4 → okv (dr i)
/-- what a wrapper tells of a throw -/
def xcd (E : String) : Int32 := if E = iobN then 1 else 2
/-- a call of both: thrown alike, or answered alike; what holds then -/
def RO (x : Option String) (th r r' : Int32) (K K0 : Prop) : Prop := (x = none → th = 0 ∧ r = r' ∧ K) ∧ ∀ E, x = some E → th = xcd E ∧ K0
theorem RO_ok {x : Option String} {th r r' : Int32} {K K0 : Prop} (hx : x = none) (h1 : th = 0) (h2 : r = r') (h3 : K) : RO x th r r' K K0 := ⟨fun _ => ⟨h1, h2, h3⟩, fun E h => absurd (hx.symm.trans h) (fun q => nomatch q)⟩
theorem RO_no {x : Option String} {E : String} {th r r' : Int32} {K K0 : Prop} (hx : x = some E) (h1 : th = xcd E) (h3 : K0) : RO x th r r' K K0 := ⟨fun h => absurd (hx.symm.trans h) (fun q => nomatch q), fun E' h => by
  have e : E = E' := Option.some.inj (hx.symm.trans h)
  subst e
  exact ⟨h1, h3⟩⟩
theorem xcd_b : xcd iobN = 1 := if_pos rfl
theorem xcd_a : xcd iaeN = 2 := by decide
theorem ca_cs (a : Int32) : (v_X4_isNone a = 0 ∧ x_X2_cardAt a = none ∧ a.toNatClampNeg < 4) ∨ (¬ v_X4_isNone a = 0 ∧ x_X2_cardAt a = some iobN) := by
  by_cases h : v_X4_isNone a = 0
  · refine Or.inl ⟨h, ?_, no_lt h⟩
    unfold v_X4_isNone at h
    unfold x_X2_cardAt
    by_cases h1 : a < 0
    · rw [if_pos h1] at h; exact absurd h (by decide)
    · rw [if_neg h1] at h ⊢
      by_cases h2 : a < 4
      · rw [if_pos h2]
      · rw [if_neg h2] at h; exact absurd h (by decide)
  · refine Or.inr ⟨h, ?_⟩
    unfold v_X4_isNone at h
    unfold x_X2_cardAt
    by_cases h1 : a < 0
    · rw [if_pos h1]
    · rw [if_neg h1] at h ⊢
      by_cases h2 : a < 4
      · rw [if_pos h2] at h; exact absurd rfl h
      · rw [if_neg h2]
theorem da_cs (a : Int32) : (v_X4_isNone a = 0 ∧ x_X2_dateAt a = none ∧ a.toNatClampNeg < 4) ∨ (¬ v_X4_isNone a = 0 ∧ x_X2_dateAt a = some iobN) := ca_cs a
theorem wh_cs (a b : Int32) (n : Nat) (hb : b = nI (n + 1)) (hn : n < 100) : (¬ v_X4_isIn a.toInt64 0 (lN n) = 0 ∧ x_X2_checkWhat a b = none ∧ ∃ k : Nat, k ≤ n ∧ a = nI k) ∨ (v_X4_isIn a.toInt64 0 (lN n) = 0 ∧ x_X2_checkWhat a b = some iaeN) := by
  have e0 : (0 : Int32).toInt = 0 := rfl
  have f0 : (0 : Int64).toInt = 0 := rfl
  have eb : b.toInt = n + 1 := by rw [hb, nI_toInt (by omega)]; omega
  have en : (lN n).toInt = n := pk_lT (by omega)
  have hi := in_iff (x := a.toInt64) (a := 0) (b := lN n)
  rw [Int64.le_iff_toInt_le, Int64.le_iff_toInt_le, Int32.toInt_toInt64, f0, en] at hi
  unfold x_X2_checkWhat
  by_cases h1 : a < 0
  · rw [if_pos h1]
    rw [Int32.lt_iff_toInt_lt] at h1
    refine Or.inr ⟨Classical.byContradiction fun q => ?_, rfl⟩
    have := hi.mp q
    omega
  · rw [if_neg h1]
    rw [Int32.lt_iff_toInt_lt] at h1
    by_cases h2 : a < b
    · rw [if_pos h2]
      rw [Int32.lt_iff_toInt_lt] at h2
      refine Or.inl ⟨hi.mpr (by omega), rfl, a.toInt.toNat, by omega, Int32.toInt_inj.mp (by rw [nI_toInt (by omega)]; omega)⟩
    · rw [if_neg h2]
      rw [Int32.lt_iff_toInt_lt] at h2
      refine Or.inr ⟨Classical.byContradiction fun q => ?_, rfl⟩
      have := hi.mp q
      omega
/-- the reference's act, as it stands in its methods -/
def m4 (q : Int32 × (Nat → TR) × Int32) : Int32 × (Nat → TR) × Int32 × Int32 := (q.1, q.2.1, 0, q.2.2)
theorem om_get {cr : Nat → TR} {rf a : Int32} {v : Option TR} : om v ((v_X4_getN rf).1, cr, (0 : Int32), (v_X4_getN rf).2) (fun t => ((v_X4_get cr a t).1, (v_X4_get cr a t).2, 0, rf)) = m4 (mA cr rf a.toNatClampNeg v) := by
  cases v with
  | none => rfl
  | some t =>
    show ((v_X4_get cr a t).1, (v_X4_get cr a t).2, 0, rf) = _
    rw [get_m]; rfl
theorem om_bec {dr : Nat → TR} {rf a : Int32} {v : Option TR} (h1 : okv (dr a.toNatClampNeg)) (h2 : ∀ t, v = some t → okv t) : om v ((v_X4_becomeN rf).1, dr, (0 : Int32), (v_X4_becomeN rf).2) (fun t => ((v_X4_become dr a t).1, (v_X4_become dr a t).2, 0, rf)) = m4 (mD dr rf a.toNatClampNeg v) := by
  cases v with
  | none => rfl
  | some t =>
    show ((v_X4_become dr a t).1, (v_X4_become dr a t).2, 0, rf) = _
    rw [bec_m h1 (h2 t rfl)]; rfl
theorem pe3 {α β γ : Type} (p : α × β × γ) : (p.1, p.2.1, p.2.2) = p := rfl
theorem pe4 {α β γ δ : Type} (p : α × β × γ × δ) : (p.1, p.2.1, p.2.2.1, p.2.2.2) = p := rfl
theorem xo_n (b : Option String) : xo none b = b := rfl
section REL
variable {sp dy cr dr pl : Nat → TR} {la re rf : Int32} {pz : Nat}
theorem RL_far {sp' dy' : Nat → TR} (h : Rq sp dy la re cr dr rf pl pz) (h1 : ∀ j, j < 12 → sp' j = sp j) (h2 : ∀ j, j < 4 → dy' j = dy j) : Rq sp' dy' la re cr dr rf pl pz := by
  obtain ⟨a, b, c, d, e, f, g⟩ := h
  exact ⟨fun j hj => (h1 j (by omega)).trans (a j hj), fun j hj => (h2 j hj).trans (b j hj), c, fun k hk => (h1 _ (by omega)).trans (d k hk), e, f, g⟩
theorem RL_12 {v : Option TR} (h : Rq sp dy la re cr dr rf pl pz) : Rq (om v ((0 : Int32), sp) (fun t => (1, va_up sp 12 t))).2 dy la re cr dr rf pl pz := by
  cases v with
  | none => exact h
  | some t => exact RL_far h (fun j hj => va_up_ne _ _ (by omega)) (fun _ _ => rfl)
theorem RL_4 {v : Option TR} (h : Rq sp dy la re cr dr rf pl pz) : Rq sp (om v ((0 : Int32), dy) (fun t => (1, va_up dy 4 t))).2 la re cr dr rf pl pz := by
  cases v with
  | none => exact h
  | some t => exact RL_far h (fun _ _ => rfl) (fun j hj => va_up_ne _ _ (by omega))
theorem RL_d {i : Nat} (h : Rq sp dy la re cr dr rf pl pz) (hi : i < 4) : okv (dy i) ∧ okv (dr i) ∧ dy i = dr i := by
  obtain ⟨a, b, c, d, e, f, g⟩ := h
  exact ⟨by rw [b i hi]; exact g i hi, g i hi, b i hi⟩
/-- behind a card's act -/
theorem pa_c {x : Option String} {i : Nat} {v : Option TR} {p : Int32 × (Nat → TR) × Int32} {q : Int32 × (Nat → TR) × Int32 × Int32} {K0 : Prop} (hR : Rq sp dy la re cr dr rf pl pz) (hi : i < 4) (hx : x = none) (hp : p = cA sp re i v) (hq : q = m4 (mA cr rf i v)) : RO x q.2.2.1 p.1 q.1 (Rq p.2.1 dy la p.2.2 q.2.1 dr q.2.2.2 pl pz) K0 := by
  obtain ⟨a, b, c, d, e, f, g⟩ := hR
  subst e
  obtain ⟨k1, k2, k3, k4⟩ := act_rel (re := re) (v := v) hi a
  subst hp hq
  refine RO_ok hx rfl k1 ⟨k2, b, c, fun k hk => ?_, k3, f, g⟩
  rw [k4 k (by omega)]
  exact d k hk
/-- the same, of an act that is never refused -/
theorem pa_c3 {x : Option String} {i : Nat} {t : TR} {p : Int32 × (Nat → TR) × Int32} {q : Int32 × (Nat → TR) × Int32} {K0 : Prop} (hR : Rq sp dy la re cr dr rf pl pz) (hi : i < 4) (hx : x = none) (hp : p = cA sp re i (some t)) (hq : q = ((mA cr rf i (some t)).1, (mA cr rf i (some t)).2.1, 0)) : RO x q.2.2 p.1 q.1 (Rq p.2.1 dy la p.2.2 q.2.1 dr rf pl pz) K0 := by
  have h := pa_c (q := m4 (mA cr rf i (some t))) (K0 := K0) hR hi hx hp rfl
  subst hq
  exact h
/-- behind a date's act -/
theorem pa_d {x : Option String} {j : Nat} {v : Option TR} {p : Int32 × (Nat → TR) × Int32} {q : Int32 × (Nat → TR) × Int32 × Int32} {K0 : Prop} (hR : Rq sp dy la re cr dr rf pl pz) (hj : j < 4) (hv : ∀ t, v = some t → okv t) (hx : x = none) (hp : p = cD dy re j v) (hq : q = m4 (mD dr rf j v)) : RO x q.2.2.1 p.1 q.1 (Rq sp p.2.1 la p.2.2 cr q.2.1 q.2.2.2 pl pz) K0 := by
  obtain ⟨a, b, c, d, e, f, g⟩ := hR
  subst e
  obtain ⟨k1, k2, k3, k4⟩ := actd_rel (re := re) (v := v) hj b g hv
  subst hp hq
  exact RO_ok hx rfl k1 ⟨a, k2, c, d, k3, f, k4⟩
theorem pa_d3 {x : Option String} {j : Nat} {t : TR} {p : Int32 × (Nat → TR) × Int32} {q : Int32 × (Nat → TR) × Int32} {K0 : Prop} (hR : Rq sp dy la re cr dr rf pl pz) (hj : j < 4) (hv : okv t) (hx : x = none) (hp : p = cD dy re j (some t)) (hq : q = ((mD dr rf j (some t)).1, (mD dr rf j (some t)).2.1, 0)) : RO x q.2.2 p.1 q.1 (Rq sp p.2.1 la p.2.2 cr q.2.1 rf pl pz) K0 := by
  have h := pa_d (q := m4 (mD dr rf j (some t))) (K0 := K0) hR hj (fun u hu => by rw [← Option.some.inj hu]; exact hv) hx hp rfl
  subst hq
  exact h
end REL
