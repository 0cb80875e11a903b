section
/-! what the constructors made, in the class's order -/
def pm : Nat → Nat := fun k => [0, 1, 2, 3, 7, 8, 9, 10, 11, 12, 13, 14, 15, 16, 17, 18, 4, 5, 19, 20, 21, 22, 6].getD k 0
theorem pm_lt : ∀ k, k < 23 → pm k < 23 := by decide
theorem pm_inj : ∀ i, i < 23 → ∀ j, j < 23 → pm i = pm j → i = j := by decide +kernel
theorem cl_cf {g : GG} {A : Nat → Prop} {H0 H : Heap} {ad : Nat → Nat} {f x : Nat → va_E} {z : Nat → Nat} {locs : List Loc} (B : WB g A H0 23 (ap 1 ad [z 0, z 1, z 2, z 3, z 4, z 5, z 6, z 7, z 8, z 9, z 10, z 11, z 12, z 13, z 14, z 15, z 16, z 17, z 18, z 19, z 20, z 21]) (ap 1 (va_up f 0 (c_mz z)) (cl_new g z)) H locs) :
    ∃ ad' : Nat → Nat, ad' 0 = ad 0 ∧ WB g A H0 23 ad' (cf g ad' x (fun _ => (0, 0, 0)) (fun _ => (2000, 1, 1)) 0 0 0) H locs := by
  refine ⟨fun k => ap 1 ad [z 0, z 1, z 2, z 3, z 4, z 5, z 6, z 7, z 8, z 9, z 10, z 11, z 12, z 13, z 14, z 15, z 16, z 17, z 18, z 19, z 20, z 21] (pm k), rfl, ?_⟩
  refine WB_map pm B pm_lt (fun i j hi hj e => pm_inj i hi j hj e) (fun k hk => rfl) (fun k hk => ?_)
  have hc : k = 0 ∨ k = 1 ∨ k = 2 ∨ k = 3 ∨ k = 4 ∨ k = 5 ∨ k = 6 ∨ k = 7 ∨ k = 8 ∨ k = 9 ∨ k = 10 ∨ k = 11 ∨ k = 12 ∨ k = 13 ∨ k = 14 ∨ k = 15 ∨ k = 16 ∨ k = 17 ∨ k = 18 ∨ k = 19 ∨ k = 20 ∨ k = 21 ∨ k = 22 := by omega
  rcases hc with rfl | rfl | rfl | rfl | rfl | rfl | rfl | rfl | rfl | rfl | rfl | rfl | rfl | rfl | rfl | rfl | rfl | rfl | rfl | rfl | rfl | rfl | rfl
  · exact Or.inl rfl
  · refine Or.inr ⟨_, _, _, _, rfl, rfl, fun j hj => ?_⟩
    have : j = 0 ∨ j = 1 ∨ j = 2 ∨ j = 3 := by omega
    rcases this with rfl | rfl | rfl | rfl <;> rfl
  · refine Or.inr ⟨_, _, _, _, rfl, rfl, fun j hj => ?_⟩
    have : j = 0 ∨ j = 1 ∨ j = 2 ∨ j = 3 ∨ j = 4 ∨ j = 5 ∨ j = 6 ∨ j = 7 := by omega
    rcases this with rfl | rfl | rfl | rfl | rfl | rfl | rfl | rfl <;> rfl
  · refine Or.inr ⟨_, _, _, _, rfl, rfl, fun j hj => ?_⟩
    have : j = 0 ∨ j = 1 ∨ j = 2 ∨ j = 3 := by omega
    rcases this with rfl | rfl | rfl | rfl <;> rfl
  all_goals exact Or.inl rfl
/-- the reference's places: creation has the object at 23, then its arrays and rows, then Out at 35 -/
def qm : Nat → Nat := fun k => if k < 23 then k else [35, 23, 24, 30, 29, 25, 26, 27, 28, 31, 32, 33, 34].getD (k - 23) 0
theorem qm_lt : ∀ k, k < 36 → qm k < 36 := by decide
theorem qm_inj : ∀ i, i < 36 → ∀ j, j < 36 → qm i = qm j → i = j := by decide +kernel
theorem md_lw {g : GG} {A : Nat → Prop} {H0 H : Heap} {ad : Nat → Nat} {x : Nat → va_E} {z : Nat → Nat} {h : Nat → Option Nat} {o : Nat} {sp dy : Nat → TR} {la kn re : Int32} {locs : List Loc} (hh : ∀ i, i < 4 → h i = some (z (1 + i)))
    (B : WB g A H0 36 (va_up (ap 24 ad [z 0, z 1, z 2, z 3, z 4, z 5, z 6, z 7, z 8, z 9, z 10]) 35 o) (va_up (ap 24 (va_up (va_up (cf g ad x sp dy la kn re) 23 (.inr (7, [.int 0, .null, .null, .null, .int 0, .int 0]))) 23 (.inr (7, [.int 0, .ref (z 0), .ref (z 5), .ref (z 6), .int 0, .int 0]))) (md_new g z h)) 35 (c_ot 0 none)) H locs) :
    ∃ ad' : Nat → Nat, ad' 0 = ad 0 ∧ ad' 24 = ad 23 ∧ ad' 23 = o ∧ WB g A H0 36 ad' (LW g ad' 0 none sp dy la kn re (fun _ => (0, 0, 0)) (fun _ => (2000, 1, 1)) 0 0 0 (fun _ => (0, 0, 0)) 0 0) H locs := by
  obtain ⟨ad', had⟩ : ∃ ad' : Nat → Nat, ad' = fun k => va_up (ap 24 ad [z 0, z 1, z 2, z 3, z 4, z 5, z 6, z 7, z 8, z 9, z 10]) 35 o (qm k) := ⟨_, rfl⟩
  have hlo : ∀ k, k < 23 → ad' k = ad k := fun k hk => by
    rw [had]
    show va_up _ 35 o (qm k) = _
    have e : qm k = k := if_pos hk
    rw [e, va_up_ne _ _ (by omega), ap_lt (by omega)]
  have e23 : ad' 23 = o := by rw [had]; rfl
  have e24 : ad' 24 = ad 23 := by rw [had]; rfl
  have e25 : ad' 25 = z 0 := by rw [had]; rfl
  have e26 : ad' 26 = z 6 := by rw [had]; rfl
  have e27 : ad' 27 = z 5 := by rw [had]; rfl
  have e28 : ad' 28 = z 1 ∧ ad' 29 = z 2 ∧ ad' 30 = z 3 ∧ ad' 31 = z 4 := by rw [had]; exact ⟨rfl, rfl, rfl, rfl⟩
  have e32 : ad' 32 = z 7 ∧ ad' 33 = z 8 ∧ ad' 34 = z 9 ∧ ad' 35 = z 10 := by rw [had]; exact ⟨rfl, rfl, rfl, rfl⟩
  refine ⟨ad', hlo 0 (by omega), e24, e23, ?_⟩
  refine WB_map qm B qm_lt (fun i j hi hj e => qm_inj i hi j hj e) (fun k hk => by rw [had]) (fun k hk => ?_)
  by_cases h23 : k < 23
  · have e : qm k = k := if_pos h23
    rw [e, va_up_ne _ _ (by omega), ap_lt (by omega), va_up_ne _ _ (by omega), va_up_ne _ _ (by omega)]
    show va_eq (mg g ad' (yc g ad' 0 none sp dy la kn re) _ _ _ _ _ _ _ _ k) _
    rw [mg_lo (by omega)]
    unfold yc
    rcases cf_cases k with rfl | rfl | rfl | rfl | ⟨j, hj, rfl⟩ | ⟨j, hj, rfl⟩ | hk
    · rw [cf_0, cf_0]; unfold c_mn; rw [hlo 1 (by omega), hlo 2 (by omega), hlo 3 (by omega), hlo 16 (by omega), hlo 17 (by omega), hlo 22 (by omega)]; exact Or.inl rfl
    · rw [cf_1, cf_1]; exact Or.inr ⟨_, _, _, _, rfl, rfl, fun j hj => by rw [hlo _ (by omega)]⟩
    · rw [cf_2, cf_2]; exact Or.inr ⟨_, _, _, _, rfl, rfl, fun j hj => by rw [hlo _ (by omega)]⟩
    · rw [cf_3, cf_3]; exact Or.inr ⟨_, _, _, _, rfl, rfl, fun j hj => by rw [hlo _ (by omega)]⟩
    · rw [cf_sp hj, cf_sp hj]; exact Or.inl rfl
    · rw [cf_dy hj, cf_dy hj]; exact Or.inl rfl
    · omega
  · have hc : k = 23 ∨ k = 24 ∨ k = 25 ∨ k = 26 ∨ k = 27 ∨ k = 28 ∨ k = 29 ∨ k = 30 ∨ k = 31 ∨ k = 32 ∨ k = 33 ∨ k = 34 ∨ k = 35 := by omega
    rcases hc with rfl | rfl | rfl | rfl | rfl | rfl | rfl | rfl | rfl | rfl | rfl | rfl | rfl
    · rw [LW_23]; exact Or.inl rfl
    · show va_eq (c_md ad' 0 0 0) _
      unfold c_md
      rw [e25, e26, e27]; exact Or.inl rfl
    · refine Or.inr ⟨_, _, _, _, rfl, rfl, fun j hj => ?_⟩
      rw [hh j hj]
      have : j = 0 ∨ j = 1 ∨ j = 2 ∨ j = 3 := by omega
      rcases this with rfl | rfl | rfl | rfl
      · rw [show 28 + 0 = 28 from rfl, e28.1]
      · rw [show 28 + 1 = 29 from rfl, e28.2.1]
      · rw [show 28 + 2 = 30 from rfl, e28.2.2.1]
      · rw [show 28 + 3 = 31 from rfl, e28.2.2.2]
    · refine Or.inr ⟨_, _, _, _, rfl, rfl, fun j hj => ?_⟩
      have : j = 0 ∨ j = 1 ∨ j = 2 ∨ j = 3 := by omega
      rcases this with rfl | rfl | rfl | rfl
      · rw [show 32 + 0 = 32 from rfl, e32.1]; rfl
      · rw [show 32 + 1 = 33 from rfl, e32.2.1]; rfl
      · rw [show 32 + 2 = 34 from rfl, e32.2.2.1]; rfl
      · rw [show 32 + 3 = 35 from rfl, e32.2.2.2]; rfl
    all_goals exact Or.inl rfl
end
section
/-! THE CLAIM OUT OF ONE WALK OF THE LAW'S BODY. Your part is whole_start (and what it stands on); all else here is the same for every law, but numbers. -/
def R_law : String := "PeriodcardLaw"
def lw_P (b : Addr) (xs : List Int32) (args : Array Value) (s : State) : Prop := args = #[.ref b] ∧ s.IntsAt b xs ∧ xs.length ≤ 2560 ∧ (Jvm.Cond.and given_1 narrow_1).before args s = true
def lw_Q (_ : Array Value) (s : State) (o : Outcome) (t : State) : Prop := o = .returned (some (.int 1)) ∧ Framed s o t [] 757246 6824365
def lw_Z (below : List Frame) (a : Array Value) (s : State) : State → Prop := fun t => ∃ o, t.status = .running ∧ Ended t below o ∧ lw_Q a s o t
/-- the law's own end, with 1 on the stack, nothing written that was there before, its room as the claim has it -/
theorem lw_ret {p : Program} {l : Launch} {e : Env} {s : State} {m : MethodId} {below : List Frame} {meth : Method} {c : Code} {b : Nat} (hx : p.tables.exec = Jvm.exec) (hb : c.code = code) (hr : meth.sig.returnType = ret) (hlocks : meth.locks = false) {pc : Nat} {H : Heap} {ls : Array Slot} (hdg : decode code pc = .ok (.ireturn, 1)) : W p l e room_1 s m #[Value.ref b] below meth c H [] 757246 6824365 (lw_Z below #[Value.ref b] s) (F0 m pc ls [.int 1]) := by
  intro T hT X
  obtain ⟨fs, hret, hrun, hended, hW, hframe⟩ := X.leave (v := some (.int 1)) (hlocks := hlocks) (fun h => by rw [hr] at h; cases h)
  have hmeth' : T.vm.method? m = some meth := X.method'
  refine ⟨T.setFrames fs, ?_, .returned (some (.int 1)), hrun, hended, rfl, ⟨_, rfl⟩, hW, hframe⟩
  jvm_step X.here [X.here.top, hx, hb, hdg, hmeth', hr, ret, narrow_b1]
  (try refine ⟨rfl, ?_⟩); (try refine ⟨rfl, ?_⟩)
  first | (intro acts; rw [hret _ acts rfl rfl rfl]) | rw [hret _ _ rfl rfl rfl]
  exact Steps.refl _
/-- what holds at the law's entry: the machine, the code, the tables' words (any of lw_tbl by 'hts w (by decide +kernel)'), the script of L ints xs at the cell b, what the Statement gives of the start (any of its parts by flat_of_before) -/
def lw_At (p : Program) (s : State) (m : MethodId) (meth : Method) (c : Code) (b L : Nat) (xs : Nat → Int32) : Prop :=
  p.tables.exec = Jvm.exec ∧ c.code = code ∧ meth.sig.returnType = ret ∧ c.maxLocals = 7 ∧ s.vm.findClass R_law = some m.cls ∧ (∀ w ∈ lw_tbl, w.before #[Value.ref b] s = true) ∧ va_X b L xs s s.heap ∧ b < s.heap.size ∧ meth.locks = false ∧ (Jvm.Cond.and given_1 narrow_1).before #[Value.ref b] s = true
/-- as md_lw, from what stands behind the three constructors -/
theorem md_lwS {g : GG} {A : Nat → Prop} {H0 H : Heap} {ad : Nat → Nat} {a2 o : Nat} {z : Nat → Nat} {h : Nat → Option Nat} {locs : List Loc} (hh : ∀ i, i < 4 → h i = some (z (1 + i)))
    (B : WB g A H0 36 (va_up (ap 24 (va_up ad 23 a2) [z 0, z 1, z 2, z 3, z 4, z 5, z 6, z 7, z 8, z 9, z 10]) 35 o) (va_up (ap 24 (va_up (va_up (cf g ad (fun _ => c_ot 0 none) (fun _ => (0, 0, 0)) (fun _ => (2000, 1, 1)) 0 0 0) 23 (.inr (7, [.int 0, .null, .null, .null, .int 0, .int 0]))) 23 (.inr (7, [.int 0, .ref (z 0), .ref (z 5), .ref (z 6), .int 0, .int 0]))) (md_new g z h)) 35 (c_ot 0 none)) H locs) :
    ∃ ad' : Nat → Nat, ad' 0 = va_up ad 23 a2 0 ∧ ad' 24 = va_up ad 23 a2 23 ∧ ad' 23 = o ∧ WB g A H0 36 ad' (LW g ad' 0 none (fun _ => (0, 0, 0)) (fun _ => (2000, 1, 1)) 0 0 0 (fun _ => (0, 0, 0)) (fun _ => (2000, 1, 1)) 0 0 0 (fun _ => (0, 0, 0)) 0 0) H locs := by
  refine md_lw (x := fun _ => c_ot 0 none) hh (WB_same B (Nat.le_refl _) (fun _ _ => rfl) (fun k hk => ?_))
  by_cases h35 : k = 35
  · rw [h35, va_up_self, va_up_self]; exact Or.inl rfl
  · rw [va_up_ne _ _ h35, va_up_ne _ _ h35]
    by_cases h24 : k < 24
    · rw [ap_lt h24, ap_lt h24]
      by_cases h23 : k = 23
      · rw [h23, va_up_self, va_up_self]; exact Or.inl rfl
      · rw [va_up_ne _ _ h23, va_up_ne _ _ h23, va_up_ne _ _ h23, va_up_ne _ _ h23]
        have hu : ∀ j, j < 23 → va_up ad 23 a2 j = ad j := fun j hj => va_up_ne _ _ (by omega)
        rcases cf_cases k with rfl | rfl | rfl | rfl | ⟨j, hj, rfl⟩ | ⟨j, hj, rfl⟩ | hk
        · rw [cf_0, cf_0]; unfold c_mn; rw [hu 1 (by omega), hu 2 (by omega), hu 3 (by omega), hu 16 (by omega), hu 17 (by omega), hu 22 (by omega)]; exact Or.inl rfl
        · rw [cf_1, cf_1]; exact Or.inr ⟨_, _, _, _, rfl, rfl, fun j hj => by rw [hu _ (by omega)]⟩
        · rw [cf_2, cf_2]; exact Or.inr ⟨_, _, _, _, rfl, rfl, fun j hj => by rw [hu _ (by omega)]⟩
        · rw [cf_3, cf_3]; exact Or.inr ⟨_, _, _, _, rfl, rfl, fun j hj => by rw [hu _ (by omega)]⟩
        · rw [cf_sp hj, cf_sp hj]; exact Or.inl rfl
        · rw [cf_dy hj, cf_dy hj]; exact Or.inl rfl
        · omega
    · refine Or.inl ?_
      unfold ap
      rw [if_neg h24, if_neg h24]
      have : k - 24 < (md_new g z h).length := by show k - 24 < 11; omega
      rw [List.getElem?_eq_getElem this]
      rfl

theorem okv_0 : okv ((2000 : Int32), (1 : Int32), (1 : Int32)) := ⟨⟨by decide, by decide, by decide, by decide, by decide, by decide⟩, by decide⟩
theorem Rq_0 : Rq (fun _ => (0, 0, 0)) (fun _ => (2000, 1, 1)) 0 0 (fun _ => (0, 0, 0)) (fun _ => (2000, 1, 1)) 0 (fun _ => (0, 0, 0)) 0 := ⟨fun _ _ => rfl, fun _ _ => rfl, rfl, fun _ _ => rfl, rfl, by decide, fun _ _ => okv_0⟩
theorem whole_start {p : Program} {e : Env} {s : State} {m : MethodId} {below : List Frame} {meth : Method} {c : Code} (l : Launch) (hflags : l.flags = flags0) {b L : Nat} {xs : Nat → Int32} (hL : L ≤ 2560) (C0 : lw_At p s m meth c b L xs) : W p l e room_1 s m #[Value.ref b] below meth c s.heap [] 0 0 (lw_Z below #[Value.ref b] s) (entryFrame m ([Value.ref b] : List Value).toArray 7) := by
  obtain ⟨hx, hb, hr, hml, hown, hts, hX, hbl, hlocks, hgv⟩ := id C0
  have hfl : l.stackTraces = false := by
    unfold Launch.stackTraces
    rw [hflags]
    decide +kernel
  obtain ⟨A, hAd⟩ : ∃ A : Nat → Prop, A = fun q => s.heap.size ≤ q := ⟨_, rfl⟩
  have hA : ∀ q, s.heap.size ≤ q → A q := fun q h => by rw [hAd]; exact h
  have hA2 : ∀ q, A q → s.heap.size ≤ q := fun q h => by rw [hAd] at h; exact h
  have hA0 : ∀ a : Nat, a < s.heap.size → ¬ A a := fun a h q => Nat.not_le.mpr h (hA2 a q)
  have hbA : ¬ A b := hA0 b hbl
  obtain ⟨D, hD⟩ := st_K hts
  obtain ⟨ti, hti⟩ := st_ti hts
  obtain ⟨zz, hTz⟩ := st_ST hts hgv hA0
  obtain ⟨g, hg⟩ : ∃ g : GG, g = (D, ti, zz) := ⟨_, rfl⟩
  have hK : KK g s := by rw [hg]; exact ⟨hD, hti⟩
  have hT : ST g.2.2 A s s.heap := by rw [hg]; exact hTz
  have hnc : va_Nc iaeN iobN s := st_nc hgv
  have X : CX p s m #[Value.ref b] meth c code 7 RL (Cond.initialized RL) := ⟨hx, hb, hml, hown, fun w hw => by
    rcases List.mem_cons.mp hw with e1 | h
    · rw [e1]; exact st_tb hts _ ii_L
    · exact st_tb hts w h, hlocks⟩
  have hl := lv_entry ([.ref b]) (n := 7) (Nat.le_of_ble_eq_true rfl)
  rw [lg_entry_eq]
  generalize (lg_sl ([.ref b]) ++ List.replicate (7 - (lg_sl ([.ref b])).length) Slot.unset).toArray = ls at hl ⊢
  have hl : lv_has ls 7 [(0, .ref b)] := hl
  have B : WB g A s.heap 0 (fun _ => 0) (fun _ => c_ot 0 none) s.heap [] := ⟨wd_P.mpr (fun k hk => absurd hk (Nat.not_lt_zero _)), wd_D.mpr ⟨fun i j hi _ _ => absurd hi (Nat.not_lt_zero _), fun k hk => absurd hk (Nat.not_lt_zero _)⟩, va_S.rf⟩
  refine g_new (ci := 5) (fs := [.null, .null, .null, .int 0, .int 0, .int 0, .null, .null, .null]) (k1 := 1) (k2 := 9) X hA hK B rfl in_X2 tyX2_ok lk_L_8 ia_X2 ii_X2 (by decide +kernel) (Nat.le_of_ble_eq_true rfl) (Nat.le_of_ble_eq_true rfl) (Nat.le_of_ble_eq_true rfl) (Nat.le_of_ble_eq_true rfl) dL_law_0 (fun a H B => ?_)
  refine lv_dup hx hb dL_law_3 rfl ?_
  refine k_v (k := 23) (n := 82) hA B (b_I (rest := [.ref a]) X (c_X2_init l g 1 (va_up (fun _ => 0) 0 a) (va_up (fun _ => c_ot 0 none) 0 (.inr (5, [.null, .null, .null, .int 0, .int 0, .int 0, .null, .null, .null]))) 0 a (by decide) (va_up_self _ _ _) (va_up_self _ _ _) H.size) mw_X2_init rfl md_X2_init rfl lk_L_177 ⟨Nat.le_of_ble_eq_true rfl, Nat.le_of_ble_eq_true rfl⟩ hA hK hT B hl.1 rfl (Nat.le_of_ble_eq_true rfl) dL_law_4 ⟨Nat.le_of_ble_eq_true rfl, Nat.le_of_ble_eq_true rfl⟩) (Nat.le_of_ble_eq_true rfl) (Nat.le_of_ble_eq_true rfl) (fun ad' f' H locs hw B => ?_)
  obtain ⟨z, rfl, rfl⟩ := hw
  obtain ⟨ad, had0, B⟩ := cl_cf (x := fun _ => c_ot 0 none) B
  have had0 : ad 0 = a := had0.trans (va_up_self _ _ _)
  refine lv_astore_n (lv' := [(1, .ref a), (0, .ref b)]) hx hb dL_law_7 rfl hl (by decide) rfl (fun ls hl => ?_)
  refine g_new (ci := 7) (fs := [.int 0, .null, .null, .null, .int 0, .int 0]) (k1 := 24) (k2 := 88) X hA hK B rfl in_X4 tyX4_ok lk_L_178 ia_X4 ii_X4 (by decide +kernel) (Nat.le_of_ble_eq_true rfl) (Nat.le_of_ble_eq_true rfl) (Nat.le_of_ble_eq_true rfl) (Nat.le_of_ble_eq_true rfl) dL_law_8 (fun a2 H B => ?_)
  refine lv_dup hx hb dL_law_11 rfl ?_
  refine k_v (k := 35) (n := 123) hA B (b_I (rest := [.ref a2]) X (c_X4_init l g 24 (va_up ad 23 a2) (va_up (cf g ad (fun _ => c_ot 0 none) (fun _ => (0, 0, 0)) (fun _ => (2000, 1, 1)) 0 0 0) 23 (.inr (7, [.int 0, .null, .null, .null, .int 0, .int 0]))) 23 a2 (by decide) (va_up_self _ _ _) (va_up_self _ _ _) H.size) mw_X4_init rfl md_X4_init rfl lk_L_180 ⟨Nat.le_of_ble_eq_true rfl, Nat.le_of_ble_eq_true rfl⟩ hA hK hT B hl.1 rfl (Nat.le_of_ble_eq_true rfl) dL_law_12 ⟨Nat.le_of_ble_eq_true rfl, Nat.le_of_ble_eq_true rfl⟩) (Nat.le_of_ble_eq_true rfl) (Nat.le_of_ble_eq_true rfl) (fun ad' f' H locs hw B => ?_)
  obtain ⟨z2, hz, hh, rfl, rfl⟩ := hw
  refine lv_astore_n (lv' := [(2, .ref a2), (1, .ref a), (0, .ref b)]) hx hb dL_law_15 rfl hl (by decide) rfl (fun ls hl => ?_)
  refine g_new (ci := 6) (fs := [.long 0, .null]) (k1 := 36) (k2 := 125) X hA hK B rfl in_X3 tyX3_ok lk_L_14 ia_X3 ii_X3 (by decide +kernel) (Nat.le_of_ble_eq_true rfl) (Nat.le_of_ble_eq_true rfl) (Nat.le_of_ble_eq_true rfl) (Nat.le_of_ble_eq_true rfl) dL_law_16 (fun a3 H B => ?_)
  refine lv_dup hx hb dL_law_19 rfl ?_
  obtain ⟨ad3, had3⟩ : ∃ ad3 : Nat → Nat, ad3 = va_up (ap 24 (va_up ad 23 a2) [z2 0, z2 1, z2 2, z2 3, z2 4, z2 5, z2 6, z2 7, z2 8, z2 9, z2 10]) 35 a3 := ⟨_, rfl⟩
  have e35 : ad3 35 = a3 := by rw [had3]; exact va_up_self _ _ _
  have e23 : ad3 23 = a2 := by rw [had3]; rfl
  refine k_v (k := 36) (n := 125) hA B (u_IN (rest := [.ref a3]) X (c_X3_init l g 36 _ _ 35 a3 (by decide) (va_up_self _ _ _) H.size) mw_X3_init rfl md_X3_init rfl lk_L_181 ⟨Nat.le_of_ble_eq_true rfl, Nat.le_of_ble_eq_true rfl⟩ hA hK hT B hl.1 rfl (Nat.le_of_ble_eq_true rfl) dL_law_20 ⟨Nat.le_of_ble_eq_true rfl, Nat.le_of_ble_eq_true rfl⟩) (Nat.le_of_ble_eq_true rfl) (Nat.le_of_ble_eq_true rfl) (fun ad' f' H locs hw B => ?_)
  obtain ⟨rfl, rfl⟩ := hw
  obtain ⟨ad4, q0, q24, q23, B⟩ := md_lwS hh B
  refine lv_astore_n (lv' := [(3, .ref a3), (2, .ref a2), (1, .ref a), (0, .ref b)]) hx hb dL_law_23 rfl hl (by decide) rfl (fun ls hl => ?_)
  refine lv_iconst (v := 0) hx hb dL_law_24 (by decide) ?_
  refine lv_istore (lv' := [(4, .int 0), (3, .ref a3), (2, .ref a2), (1, .ref a), (0, .ref b)]) hx hb dL_law_25 hl (by decide) rfl (fun ls hl => ?_)
  have hY : LwC p l s m meth c (Cond.initialized RL) g A b L xs := ⟨X, hfl, hK, hT, hnc, hX, hbl, hbA, hA⟩
  refine W.widen (show 36 ≤ 40 + 1200 * 0 by omega) (show 125 ≤ 200 + 12000 * 0 by omega) ?_
  refine law_loop hY hL (fun H locs ls C S hB hC hS => ?_) 512 0 rfl 0 H locs ls rfl ⟨ad4, 0, none, _, _, 0, 0, 0, _, _, 0, 0, _, 0, 0, Rq_0, B, ?_⟩
  · obtain ⟨N, ad, f, B⟩ := hB
    refine lv_iconst (v := 1) hx hb dL_law_2447 (by decide) ?_
    refine W.widen hC hS ?_
    refine va_forget (fun q hq => hA2 _ (B.2.2.2.2 q hq)) ?_
    exact lw_ret hx hb hr hlocks dL_law_2448
  · rw [q0, q24, q23]
    have e1 : va_up ad 23 a2 0 = a := (va_up_ne _ _ (by decide)).trans had0
    have e2 : va_up ad 23 a2 23 = a2 := va_up_self _ _ _
    rw [e1, e2]
    exact lv_sub hl [0, 4, 3, 2, 1] rfl
end
