/-! the reference's rows: an int[3] at a place -/
def rw3 (t : TR) : Nat → Int32 := fun k => if k = 0 then t.1 else if k = 1 then t.2.1 else if k = 2 then t.2.2 else 0
abbrev c_row (g : GG) (t : TR) : va_E := .inl (g.2.1 0, 3, .inl (rw3 t))
theorem rw3_0 : (fun _ => 0 : Nat → Int32) = rw3 (0, 0, 0) := by
  funext k
  simp [rw3]
theorem rw3_s0 (t : TR) (x : Int32) : upd (rw3 t) 0 x = rw3 (x, t.2.1, t.2.2) := by
  funext k
  by_cases h : k = 0
  · subst h; simp [upd, rw3]
  · simp [upd, rw3, h]
theorem rw3_s1 (t : TR) (x : Int32) : upd (rw3 t) 1 x = rw3 (t.1, x, t.2.2) := by
  funext k
  by_cases h : k = 1
  · subst h; simp [upd, rw3]
  · simp [upd, rw3, h]
theorem rw3_s2 (t : TR) (x : Int32) : upd (rw3 t) 2 x = rw3 (t.1, t.2.1, x) := by
  funext k
  by_cases h : k = 2
  · subst h; simp [upd, rw3]
  · simp [upd, rw3, h]
theorem up_lt {α : Type} {f : Nat → α} {n k : Nat} {e : α} (h : k < n) : va_up f n e k = f k := va_up_ne _ _ (Nat.ne_of_lt h)
theorem up_eq {α : Type} {f : Nat → α} {n : Nat} {e : α} : va_up f n e n = e := va_up_self _ _ _
/-- one more place, if there is a row -/
def nz (v : Option TR) : Nat := match v with | none => 0 | some _ => 1
def om {α : Type} (v : Option TR) (a : α) (k : TR → α) : α := match v with | none => a | some t => k t
theorem om_none {α : Type} {v : Option TR} {a : α} {k : TR → α} (h : v = none) : om v a k = a := by rw [h]; rfl
theorem om_some {α : Type} {v : Option TR} {a : α} {k : TR → α} {t : TR} (h : v = some t) : om v a k = k t := by rw [h]; rfl
/-- what comes back: nothing, or a new row in the next place -/
def pw (g : GG) (v : Option TR) (N : Nat) (ad : Nat → Nat) (f : Nat → va_E) (r : Option Nat) (ad' : Nat → Nat) (f' : Nat → va_E) : Prop :=
  (v = none ∧ none = r ∧ ad = ad' ∧ f = f') ∨ ∃ (t : TR) (a : Nat), v = some t ∧ some a = r ∧ va_up ad N a = ad' ∧ va_up f N (c_row g t) = f'
theorem pw_n {g : GG} {N : Nat} {ad : Nat → Nat} {f : Nat → va_E} {r : Option Nat} {ad' : Nat → Nat} {f' : Nat → va_E} (h : pw g none N ad f r ad' f') : none = r ∧ ad = ad' ∧ f = f' := by
  rcases h with h | ⟨t, a, h, -⟩
  · exact h.2
  · exact (nomatch h)
theorem pw_s {g : GG} {t : TR} {N : Nat} {ad : Nat → Nat} {f : Nat → va_E} {r : Option Nat} {ad' : Nat → Nat} {f' : Nat → va_E} (h : pw g (some t) N ad f r ad' f') : ∃ a : Nat, some a = r ∧ va_up ad N a = ad' ∧ va_up f N (c_row g t) = f' := by
  rcases h with h | ⟨t2, a, h, h2⟩
  · exact (nomatch h.1)
  · cases h
    exact ⟨a, h2⟩
theorem pw_in {g : GG} {N : Nat} {ad : Nat → Nat} {f : Nat → va_E} : pw g none N ad f none ad f := Or.inl ⟨rfl, rfl, rfl, rfl⟩
theorem pw_is {g : GG} {t : TR} {N a : Nat} {ad : Nat → Nat} {f : Nat → va_E} : pw g (some t) N ad f (some a) (va_up ad N a) (va_up f N (c_row g t)) := Or.inr ⟨t, a, rfl, rfl, rfl, rfl⟩
theorem WB_pick {g : GG} {A : Nat → Prop} {H0 H : Heap} {N M q b : Nat} {ad ad' : Nat → Nat} {f f' : Nat → va_E} {e : va_E} {locs : List Loc} (B : WB g A H0 M ad' f' H locs) (hNq : N ≤ q) (hq : q < M) (h1 : ∀ k, k < N → ad' k = ad k) (h2 : ∀ k, k < N → f' k = f k) (hb : ad' q = b) (hf : f' q = e) : WB g A H0 (N + 1) (va_up ad N b) (va_up f N e) H locs := by
  obtain ⟨hP, hD, hS⟩ := B
  subst hb hf
  have hP := wd_P.mp hP
  obtain ⟨hi, hA⟩ := wd_D.mp hD
  refine ⟨wd_P.mpr fun k hk => ?_, wd_D.mpr ⟨fun i j hi1 hj1 e => ?_, fun k hk => ?_⟩, hS⟩
  · by_cases h : k = N
    · subst h
      rw [up_eq, up_eq]
      exact hP q hq
    · have hk' : k < N := by omega
      rw [up_lt hk', up_lt hk', ← h1 k hk', ← h2 k hk']
      exact hP k (by omega)
  · by_cases h : i = N <;> by_cases h' : j = N
    · omega
    · have hj' : j < N := by omega
      rw [h, up_eq, up_lt hj', ← h1 j hj'] at e
      have := hi q j hq (by omega) e
      omega
    · have hi' : i < N := by omega
      rw [h', up_eq, up_lt hi', ← h1 i hi'] at e
      have := hi i q (by omega) hq e
      omega
    · have hi' : i < N := by omega
      have hj' : j < N := by omega
      rw [up_lt hi', up_lt hj', ← h1 i hi', ← h1 j hj'] at e
      exact hi i j (by omega) (by omega) e
  · by_cases h : k = N
    · rw [h, up_eq]
      exact hA q hq
    · have hk' : k < N := by omega
      rw [up_lt hk', ← h1 k hk']
      exact hA k (by omega)
section RR
variable {p : Program} {l : Launch} {e : Env} {R : Room} {s : State} {m : MethodId} {args : Array Value} {below : List Frame} {meth : Method} {c : Code} {H : Heap} {locs : List Loc} {cells slots : Nat} {Q : State → Prop}
variable {cc : ByteArray} {nL : Nat} {own : String} {cw : Cond} {pc : Nat} {ls : Array Slot} {rest st0 : List Value} {g : GG} {A : Nat → Prop} {H0 : Heap} {N : Nat} {ad : Nat → Nat} {f : Nat → va_E}
theorem h_ld {q b : Nat} {t : TR} {i : Int32} (X : CX p s m args meth c cc nL own cw) (hK : KK g s) (B : WB g A s.heap N ad f H locs) (hq : q < N) (hb : ad q = b) (hf : f q = c_row g t) (hi : vp_in i 3) (hdg : decode cc pc = .ok (.iaload, 1))
    (kk : W p l e R s m args below meth c H locs cells slots Q (F0 m (pc + 1) ls (.int (rw3 t i.toNatClampNeg) :: rest))) : W p l e R s m args below meth c H locs cells slots Q (F0 m pc ls (.int i :: .ref b :: rest)) := by
  subst hb
  exact g_iald (t0 := 0) X hK B hq hf rfl hi hdg kk
theorem h_ld0 {q b : Nat} {t : TR} (X : CX p s m args meth c cc nL own cw) (hK : KK g s) (B : WB g A s.heap N ad f H locs) (hq : q < N) (hb : ad q = b) (hf : f q = c_row g t) (hdg : decode cc pc = .ok (.iaload, 1))
    (kk : W p l e R s m args below meth c H locs cells slots Q (F0 m (pc + 1) ls (.int t.1 :: rest))) : W p l e R s m args below meth c H locs cells slots Q (F0 m pc ls (.int 0 :: .ref b :: rest)) := h_ld X hK B hq hb hf (by unfold vp_in; decide) hdg kk
theorem h_ld1 {q b : Nat} {t : TR} (X : CX p s m args meth c cc nL own cw) (hK : KK g s) (B : WB g A s.heap N ad f H locs) (hq : q < N) (hb : ad q = b) (hf : f q = c_row g t) (hdg : decode cc pc = .ok (.iaload, 1))
    (kk : W p l e R s m args below meth c H locs cells slots Q (F0 m (pc + 1) ls (.int t.2.1 :: rest))) : W p l e R s m args below meth c H locs cells slots Q (F0 m pc ls (.int 1 :: .ref b :: rest)) := h_ld X hK B hq hb hf (by unfold vp_in; decide) hdg kk
theorem h_ld2 {q b : Nat} {t : TR} (X : CX p s m args meth c cc nL own cw) (hK : KK g s) (B : WB g A s.heap N ad f H locs) (hq : q < N) (hb : ad q = b) (hf : f q = c_row g t) (hdg : decode cc pc = .ok (.iaload, 1))
    (kk : W p l e R s m args below meth c H locs cells slots Q (F0 m (pc + 1) ls (.int t.2.2 :: rest))) : W p l e R s m args below meth c H locs cells slots Q (F0 m pc ls (.int 2 :: .ref b :: rest)) := h_ld X hK B hq hb hf (by unfold vp_in; decide) hdg kk
theorem h_st {q b : Nat} {t t' : TR} {i x : Int32} (X : CX p s m args meth c cc nL own cw) (hK : KK g s) (B : WB g A s.heap N ad f H locs) (hq : q < N) (hb : ad q = b) (hf : f q = c_row g t) (hi : vp_in i 3) (hu : upd (rw3 t) i.toNatClampNeg x = rw3 t') (hdg : decode cc pc = .ok (.iastore, 1))
    (kk : ∀ (H1 : Heap) (locs1 : List Loc), WB g A s.heap N ad (va_up f q (c_row g t')) H1 locs1 → W p l e R s m args below meth c H1 locs1 cells slots Q (F0 m (pc + 1) ls rest)) : W p l e R s m args below meth c H locs cells slots Q (F0 m pc ls (.int x :: .int i :: .ref b :: rest)) := by
  subst hb
  refine g_iast X hK B hq hf rfl hi hdg fun H1 locs1 B1 => kk H1 locs1 ?_
  rwa [hu] at B1
theorem h_newi {n : Int32} {k cz sz : Nat} (X : CX p s m args meth c cc nL own cw) (hA : ∀ q, s.heap.size ≤ q → A q) (hK : KK g s) (B : WB g A s.heap N ad f H locs) (hn : ¬ n < 0) (hk : n.toNatClampNeg = k) (hk2 : k * 4 ≤ 536870912) (hc : cells + 1 ≤ R.cells) (hs : slots + k ≤ R.slots) (h1 : cells + 1 ≤ cz) (h2 : slots + k ≤ sz) (hdg : decode cc pc = .ok (.newarray .int, 2))
    (kk : ∀ (a : Nat) (H1 : Heap), WB g A s.heap (N + 1) (va_up ad N a) (va_up f N (.inl (g.2.1 0, k, .inl (fun _ => 0)))) H1 locs → W p l e R s m args below meth c H1 locs cz sz Q (F0 m (pc + 2) ls (.ref a :: rest))) : W p l e R s m args below meth c H locs cells slots Q (F0 m pc ls (.int n :: rest)) := by
  have hx := X
  obtain ⟨hx, hb, hml, hown, hts, -⟩ := X
  refine va_newa (atype := .int) (ty := .int) (a0 := (k, .inl (fun _ => 0))) hx hb (hts _ (List.mem_cons_of_mem _ ac_int)) rfl hK B.1 B.2.1 B.2.2 hA (fun _ => rfl) hn hk hk2 hc hs hdg fun a cA H1 hK1 hP hD hS => W.widen h1 h2 ?_
  have e1 := (hK1.2 6 (cA, .int) rfl).2
  have e2 := (hK.2 0 (g.2.1 0, .int) rfl).2
  have e3 : cA = g.2.1 0 := Option.some.inj (e1.symm.trans e2)
  subst e3
  rw [wd_push] at hP hD
  exact kk a H1 ⟨hP, hD, hS⟩
theorem h_new3 {cz sz : Nat} (X : CX p s m args meth c cc nL own cw) (hA : ∀ q, s.heap.size ≤ q → A q) (hK : KK g s) (B : WB g A s.heap N ad f H locs) (hc : cells + 1 ≤ R.cells) (hs : slots + 3 ≤ R.slots) (h1 : cells + 1 ≤ cz) (h2 : slots + 3 ≤ sz) (hdg : decode cc pc = .ok (.newarray .int, 2))
    (kk : ∀ (a : Nat) (H1 : Heap), WB g A s.heap (N + 1) (va_up ad N a) (va_up f N (c_row g (0, 0, 0))) H1 locs → W p l e R s m args below meth c H1 locs cz sz Q (F0 m (pc + 2) ls (.ref a :: rest))) : W p l e R s m args below meth c H locs cells slots Q (F0 m pc ls (.int 3 :: rest)) := by
  refine h_newi (k := 3) X hA hK B (by decide) (by decide) (by decide) hc hs h1 h2 hdg fun a H1 B1 => kk a H1 ?_
  rwa [rw3_0] at B1
end RR
