/-! what the constructors made, in the class's order -/
def pm : Nat → Nat := fun k => [0, 1, 2, 3, 7, 8, 9, 10, 11, 12, 13, 14, 15, 16, 17, 18, 4, 5, 19, 20, 21, 22, 6].getD k 0
theorem pm_lt : ∀ k, k < 23 → pm k < 23 := by decide
theorem pm_inj : ∀ i, i < 23 → ∀ j, j < 23 → pm i = pm j → i = j := by decide +kernel
theorem cl_cf {g : GG} {A : Nat → Prop} {H0 H : Heap} {ad : Nat → Nat} {f x : Nat → va_E} {z : Nat → Nat} {locs : List Loc} (B : WB g A H0 23 (ap 1 ad [z 0, z 1, z 2, z 3, z 4, z 5, z 6, z 7, z 8, z 9, z 10, z 11, z 12, z 13, z 14, z 15, z 16, z 17, z 18, z 19, z 20, z 21]) (ap 1 (va_up f 0 (c_mz z)) (cl_new g z)) H locs) :
    ∃ ad' : Nat → Nat, ad' 0 = ad 0 ∧ WB g A H0 23 ad' (cf g ad' x (fun _ => (0, 0, 0)) (fun _ => (2000, 1, 1)) 0 0 0) H locs := by
  refine ⟨fun k => ap 1 ad [z 0, z 1, z 2, z 3, z 4, z 5, z 6, z 7, z 8, z 9, z 10, z 11, z 12, z 13, z 14, z 15, z 16, z 17, z 18, z 19, z 20, z 21] (pm k), rfl, ?_⟩
  refine WB_map pm B pm_lt (fun i j hi hj e => pm_inj i hi j hj e) (fun k hk => rfl) (fun k hk => ?_)
  have hc : k = 0 ∨ k = 1 ∨ k = 2 ∨ k = 3 ∨ k = 4 ∨ k = 5 ∨ k = 6 ∨ k = 7 ∨ k = 8 ∨ k = 9 ∨ k = 10 ∨ k = 11 ∨ k = 12 ∨ k = 13 ∨ k = 14 ∨ k = 15 ∨ k = 16 ∨ k = 17 ∨ k = 18 ∨ k = 19 ∨ k = 20 ∨ k = 21 ∨ k = 22 := by omega
  rcases hc with rfl | rfl | rfl | rfl | rfl | rfl | rfl | rfl | rfl | rfl | rfl | rfl | rfl | rfl | rfl | rfl | rfl | rfl | rfl | rfl | rfl | rfl | rfl
  · exact Or.inl rfl
  · refine Or.inr ⟨_, _, _, _, rfl, rfl, fun j hj => ?_⟩
    have : j = 0 ∨ j = 1 ∨ j = 2 ∨ j = 3 := by omega
    rcases this with rfl | rfl | rfl | rfl <;> rfl
  · refine Or.inr ⟨_, _, _, _, rfl, rfl, fun j hj => ?_⟩
    have : j = 0 ∨ j = 1 ∨ j = 2 ∨ j = 3 ∨ j = 4 ∨ j = 5 ∨ j = 6 ∨ j = 7 := by omega
    rcases this with rfl | rfl | rfl | rfl | rfl | rfl | rfl | rfl <;> rfl
  · refine Or.inr ⟨_, _, _, _, rfl, rfl, fun j hj => ?_⟩
    have : j = 0 ∨ j = 1 ∨ j = 2 ∨ j = 3 := by omega
    rcases this with rfl | rfl | rfl | rfl <;> rfl
  all_goals exact Or.inl rfl
/-- the reference's places: creation has the object at 23, then its arrays and rows, then Out at 35 -/
def qm : Nat → Nat := fun k => if k < 23 then k else [35, 23, 24, 30, 29, 25, 26, 27, 28, 31, 32, 33, 34].getD (k - 23) 0
theorem qm_lt : ∀ k, k < 36 → qm k < 36 := by decide
theorem qm_inj : ∀ i, i < 36 → ∀ j, j < 36 → qm i = qm j → i = j := by decide +kernel
theorem md_lw {g : GG} {A : Nat → Prop} {H0 H : Heap} {ad : Nat → Nat} {x : Nat → va_E} {z : Nat → Nat} {h : Nat → Option Nat} {o : Nat} {sp dy : Nat → TR} {la kn re : Int32} {locs : List Loc} (hh : ∀ i, i < 4 → h i = some (z (1 + i)))
    (B : WB g A H0 36 (va_up (ap 24 ad [z 0, z 1, z 2, z 3, z 4, z 5, z 6, z 7, z 8, z 9, z 10]) 35 o) (va_up (ap 24 (va_up (va_up (cf g ad x sp dy la kn re) 23 (.inr (7, [.int 0, .null, .null, .null, .int 0, .int 0]))) 23 (.inr (7, [.int 0, .ref (z 0), .ref (z 5), .ref (z 6), .int 0, .int 0]))) (md_new g z h)) 35 (c_ot 0 none)) H locs) :
    ∃ ad' : Nat → Nat, ad' 0 = ad 0 ∧ ad' 24 = ad 23 ∧ ad' 23 = o ∧ WB g A H0 36 ad' (LW g ad' 0 none sp dy la kn re (fun _ => (0, 0, 0)) (fun _ => (2000, 1, 1)) 0 0 0 (fun _ => (0, 0, 0)) 0 0) H locs := by
  obtain ⟨ad', had⟩ : ∃ ad' : Nat → Nat, ad' = fun k => va_up (ap 24 ad [z 0, z 1, z 2, z 3, z 4, z 5, z 6, z 7, z 8, z 9, z 10]) 35 o (qm k) := ⟨_, rfl⟩
  have hlo : ∀ k, k < 23 → ad' k = ad k := fun k hk => by
    rw [had]
    show va_up _ 35 o (qm k) = _
    have e : qm k = k := if_pos hk
    rw [e, va_up_ne _ _ (by omega), ap_lt (by omega)]
  have e23 : ad' 23 = o := by rw [had]; rfl
  have e24 : ad' 24 = ad 23 := by rw [had]; rfl
  have e25 : ad' 25 = z 0 := by rw [had]; rfl
  have e26 : ad' 26 = z 6 := by rw [had]; rfl
  have e27 : ad' 27 = z 5 := by rw [had]; rfl
  have e28 : ad' 28 = z 1 ∧ ad' 29 = z 2 ∧ ad' 30 = z 3 ∧ ad' 31 = z 4 := by rw [had]; exact ⟨rfl, rfl, rfl, rfl⟩
  have e32 : ad' 32 = z 7 ∧ ad' 33 = z 8 ∧ ad' 34 = z 9 ∧ ad' 35 = z 10 := by rw [had]; exact ⟨rfl, rfl, rfl, rfl⟩
  refine ⟨ad', hlo 0 (by omega), e24, e23, ?_⟩
  refine WB_map qm B qm_lt (fun i j hi hj e => qm_inj i hi j hj e) (fun k hk => by rw [had]) (fun k hk => ?_)
  by_cases h23 : k < 23
  · have e : qm k = k := if_pos h23
    rw [e, va_up_ne _ _ (by omega), ap_lt (by omega), va_up_ne _ _ (by omega), va_up_ne _ _ (by omega)]
    show va_eq (mg g ad' (yc g ad' 0 none sp dy la kn re) _ _ _ _ _ _ _ _ k) _
    rw [mg_lo (by omega)]
    unfold yc
    rcases cf_cases k with rfl | rfl | rfl | rfl | ⟨j, hj, rfl⟩ | ⟨j, hj, rfl⟩ | hk
    · rw [cf_0, cf_0]; unfold c_mn; rw [hlo 1 (by omega), hlo 2 (by omega), hlo 3 (by omega), hlo 16 (by omega), hlo 17 (by omega), hlo 22 (by omega)]; exact Or.inl rfl
    · rw [cf_1, cf_1]; exact Or.inr ⟨_, _, _, _, rfl, rfl, fun j hj => by rw [hlo _ (by omega)]⟩
    · rw [cf_2, cf_2]; exact Or.inr ⟨_, _, _, _, rfl, rfl, fun j hj => by rw [hlo _ (by omega)]⟩
    · rw [cf_3, cf_3]; exact Or.inr ⟨_, _, _, _, rfl, rfl, fun j hj => by rw [hlo _ (by omega)]⟩
    · rw [cf_sp hj, cf_sp hj]; exact Or.inl rfl
    · rw [cf_dy hj, cf_dy hj]; exact Or.inl rfl
    · omega
  · have hc : k = 23 ∨ k = 24 ∨ k = 25 ∨ k = 26 ∨ k = 27 ∨ k = 28 ∨ k = 29 ∨ k = 30 ∨ k = 31 ∨ k = 32 ∨ k = 33 ∨ k = 34 ∨ k = 35 := by omega
    rcases hc with rfl | rfl | rfl | rfl | rfl | rfl | rfl | rfl | rfl | rfl | rfl | rfl | rfl
    · rw [LW_23]; exact Or.inl rfl
    · show va_eq (c_md ad' 0 0 0) _
      unfold c_md
      rw [e25, e26, e27]; exact Or.inl rfl
    · refine Or.inr ⟨_, _, _, _, rfl, rfl, fun j hj => ?_⟩
      rw [hh j hj]
      have : j = 0 ∨ j = 1 ∨ j = 2 ∨ j = 3 := by omega
      rcases this with rfl | rfl | rfl | rfl
      · rw [show 28 + 0 = 28 from rfl, e28.1]
      · rw [show 28 + 1 = 29 from rfl, e28.2.1]
      · rw [show 28 + 2 = 30 from rfl, e28.2.2.1]
      · rw [show 28 + 3 = 31 from rfl, e28.2.2.2]
    · refine Or.inr ⟨_, _, _, _, rfl, rfl, fun j hj => ?_⟩
      have : j = 0 ∨ j = 1 ∨ j = 2 ∨ j = 3 := by omega
      rcases this with rfl | rfl | rfl | rfl
      · rw [show 32 + 0 = 32 from rfl, e32.1]; rfl
      · rw [show 32 + 1 = 33 from rfl, e32.2.1]; rfl
      · rw [show 32 + 2 = 34 from rfl, e32.2.2.1]; rfl
      · rw [show 32 + 3 = 35 from rfl, e32.2.2.2]; rfl
    all_goals exact Or.inl rfl
