section
/-! places made one after the other, behind the old ones -/
def ap {α : Type} (N : Nat) (f : Nat → α) (L : List α) : Nat → α := fun k => if k < N then f k else (L[k - N]?).getD (f k)
theorem ap_lt {α : Type} {N k : Nat} {f : Nat → α} {L : List α} (h : k < N) : ap N f L k = f k := if_pos h
theorem ap_at {α : Type} {N i : Nat} {f : Nat → α} {L : List α} {e : α} (h : L[i]? = some e) : ap N f L (N + i) = e := by
  unfold ap
  rw [if_neg (by omega), Nat.add_sub_cancel_left, h]
  rfl
theorem ap_nil {α : Type} {N : Nat} {f : Nat → α} : ap N f [] = f := by
  funext k
  unfold ap
  split <;> rfl
theorem ap_push {α : Type} {N n : Nat} {f : Nat → α} {L : List α} {e : α} (hn : L.length = n) : va_up (ap N f L) (N + n) e = ap N f (L ++ [e]) := by
  subst hn
  funext k
  by_cases h : k = N + L.length
  · rw [h, va_up_self]
    exact (ap_at (by rw [List.getElem?_append_right (Nat.le_refl _), Nat.sub_self]; rfl)).symm
  · rw [va_up_ne _ _ h]
    unfold ap
    by_cases h2 : k < N
    · rw [if_pos h2, if_pos h2]
    · rw [if_neg h2, if_neg h2]
      by_cases h3 : k - N < L.length
      · rw [List.getElem?_append_left h3]
      · rw [List.getElem?_eq_none (by omega), List.getElem?_eq_none (by rw [List.length_append]; show L.length + 1 ≤ _; omega)]
theorem ap_set {α : Type} {N i : Nat} {f : Nat → α} {L : List α} {e : α} (hi : i < L.length) : va_up (ap N f L) (N + i) e = ap N f (L.set i e) := by
  funext k
  by_cases h : k = N + i
  · rw [h, va_up_self]
    exact (ap_at (List.getElem?_set_self hi)).symm
  · rw [va_up_ne _ _ h]
    unfold ap
    by_cases h2 : k < N
    · rw [if_pos h2, if_pos h2]
    · rw [if_neg h2, if_neg h2, List.getElem?_set_ne (by omega)]
theorem ap_up {α : Type} {N q : Nat} {f : Nat → α} {L : List α} {e : α} (hq : q < N) : va_up (ap N f L) q e = ap N (va_up f q e) L := by
  funext k
  by_cases h : k = q
  · rw [h, va_up_self, ap_lt hq, va_up_self]
  · rw [va_up_ne _ _ h]
    unfold ap
    rw [va_up_ne _ _ h]
theorem up_in0 {α : Type} {f : Nat → α} {q : Nat} {e : α} (h : f q = e) : va_up f q e = f := by
  funext k
  by_cases h1 : k = q
  · rw [h1, va_up_self, h]
  · rw [va_up_ne _ _ h1]
section WA
variable {g : GG} {A : Nat → Prop} {H0 H : Heap} {N n q i z : Nat} {ad : Nat → Nat} {f : Nat → va_E} {L : List Nat} {M : List va_E} {e e' : va_E} {locs : List Loc}
theorem WA_nil (B : WB g A H0 N ad f H locs) : WB g A H0 (N + 0) (ap N ad []) (ap N f []) H locs := by
  rw [ap_nil, ap_nil]
  exact B
theorem WA_push (B : WB g A H0 (N + n + 1) (va_up (ap N ad L) (N + n) z) (va_up (ap N f M) (N + n) e) H locs) (h1 : L.length = n) (h2 : M.length = n) : WB g A H0 (N + (n + 1)) (ap N ad (L ++ [z])) (ap N f (M ++ [e])) H locs := by
  rw [ap_push h1, ap_push h2] at B
  exact B
theorem WA_set (B : WB g A H0 (N + n) (ap N ad L) (va_up (ap N f M) (N + i) e) H locs) (hi : i < M.length) : WB g A H0 (N + n) (ap N ad L) (ap N f (M.set i e)) H locs := by
  rw [ap_set hi] at B
  exact B
theorem WA_lo (B : WB g A H0 (N + n) (ap N ad L) (va_up (ap N (va_up f q e) M) q e') H locs) (hq : q < N) : WB g A H0 (N + n) (ap N ad L) (ap N (va_up f q e') M) H locs := by
  rw [ap_up hq, bx_uu] at B
  exact B
theorem WA_lo0 (B : WB g A H0 N ad f H locs) (hf : f q = e) : WB g A H0 N ad (va_up f q e) H locs := by
  rw [up_in0 hf]
  exact B
end WA
section RC
variable {p : Program} {l : Launch} {e : Env} {R : Room} {s : State} {m : MethodId} {args : Array Value} {below : List Frame} {meth : Method} {c : Code} {H : Heap} {locs : List Loc} {cells slots : Nat} {Q : State → Prop}
variable {cc : ByteArray} {nL : Nat} {own : String} {cw : Cond} {pc : Nat} {ls : Array Slot} {rest st0 : List Value} {g : GG} {A : Nat → Prop} {H0 : Heap} {N : Nat} {ad : Nat → Nat} {f : Nat → va_E}
/-- new arrays of the class's objects -/
theorem p_anewS {n : Int32} {k index : Nat} (X : CX p s m args meth c cc nL own cw) (hA : ∀ q, s.heap.size ≤ q → A q) (hK : KK g s) (hT : ST g.2.2 A s s.heap) (B : WB g A s.heap N ad f H locs) (hcl : Cond.classLink own index "Periodcard$Span" ∈ tb_all) (hn : ¬ n < 0) (hk : n.toNatClampNeg = k) (hk2 : k * 4 ≤ 536870912) (hc : cells + 1 ≤ R.cells) (hs : slots + k ≤ R.slots) (hdg : decode cc pc = .ok (.anewarray index, 3))
    (kk : ∀ (a : Nat) (H1 : Heap), WB g A s.heap (N + 1) (va_up ad N a) (va_up f N (c_ar (g.2.1 3) k (fun _ => none))) H1 locs → W p l e R s m args below meth c H1 locs (cells + 1) (slots + k) Q (F0 m (pc + 3) ls (.ref a :: rest))) : W p l e R s m args below meth c H locs cells slots Q (F0 m pc ls (.int n :: rest)) := by
  obtain ⟨hx, hb, hml, hown, hts, -⟩ := X
  refine va_newq hx hb hown (hts _ (List.mem_cons_of_mem _ hcl)) hT.1.2.1 hK B.1 B.2.1 B.2.2 hA hn hk hk2 hc hs hdg fun a cA H1 hK1 hP hD hS => ?_
  obtain ⟨_, _, -, -, -, e1⟩ := (hK1.2 6 (cA, .object "Periodcard$Span") rfl).2
  obtain ⟨_, _, -, -, -, e2⟩ := (hK.2 3 (g.2.1 3, .object "Periodcard$Span") rfl).2
  have e3 : cA = g.2.1 3 := Option.some.inj (e1.symm.trans e2)
  subst e3
  rw [wd_push] at hP hD
  exact kk a H1 ⟨hP, hD, hS⟩
theorem p_anewD {n : Int32} {k index : Nat} (X : CX p s m args meth c cc nL own cw) (hA : ∀ q, s.heap.size ≤ q → A q) (hK : KK g s) (hT : ST g.2.2 A s s.heap) (B : WB g A s.heap N ad f H locs) (hcl : Cond.classLink own index "Periodcard$Day" ∈ tb_all) (hn : ¬ n < 0) (hk : n.toNatClampNeg = k) (hk2 : k * 4 ≤ 536870912) (hc : cells + 1 ≤ R.cells) (hs : slots + k ≤ R.slots) (hdg : decode cc pc = .ok (.anewarray index, 3))
    (kk : ∀ (a : Nat) (H1 : Heap), WB g A s.heap (N + 1) (va_up ad N a) (va_up f N (c_ar (g.2.1 4) k (fun _ => none))) H1 locs → W p l e R s m args below meth c H1 locs (cells + 1) (slots + k) Q (F0 m (pc + 3) ls (.ref a :: rest))) : W p l e R s m args below meth c H locs cells slots Q (F0 m pc ls (.int n :: rest)) := by
  obtain ⟨hx, hb, hml, hown, hts, -⟩ := X
  refine va_newq hx hb hown (hts _ (List.mem_cons_of_mem _ hcl)) hT.1.2.2.1 hK B.1 B.2.1 B.2.2 hA hn hk hk2 hc hs hdg fun a cA H1 hK1 hP hD hS => ?_
  obtain ⟨_, _, -, -, -, e1⟩ := (hK1.2 6 (cA, .object "Periodcard$Day") rfl).2
  obtain ⟨_, _, -, -, -, e2⟩ := (hK.2 4 (g.2.1 4, .object "Periodcard$Day") rfl).2
  have e3 : cA = g.2.1 4 := Option.some.inj (e1.symm.trans e2)
  subst e3
  rw [wd_push] at hP hD
  exact kk a H1 ⟨hP, hD, hS⟩
/-- a new array of rows -/
theorem p_anewR {n : Int32} {k index : Nat} (X : CX p s m args meth c cc nL own cw) (hA : ∀ q, s.heap.size ≤ q → A q) (hK : KK g s) (hT : ST g.2.2 A s s.heap) (B : WB g A s.heap N ad f H locs) (hcl : Cond.classLink own index "[I" ∈ tb_all) (hn : ¬ n < 0) (hk : n.toNatClampNeg = k) (hk2 : k * 4 ≤ 536870912) (hc : cells + 1 ≤ R.cells) (hs : slots + k ≤ R.slots) (hdg : decode cc pc = .ok (.anewarray index, 3))
    (kk : ∀ (a : Nat) (H1 : Heap), WB g A s.heap (N + 1) (va_up ad N a) (va_up f N (c_ar (g.2.1 2) k (fun _ => none))) H1 locs → W p l e R s m args below meth c H1 locs (cells + 1) (slots + k) Q (F0 m (pc + 3) ls (.ref a :: rest))) : W p l e R s m args below meth c H locs cells slots Q (F0 m pc ls (.int n :: rest)) := by
  obtain ⟨hx, hb, hml, hown, hts, -⟩ := X
  subst hk
  refine W.anewA (t := .int) hx hb hown (hts _ (List.mem_cons_of_mem _ hcl)) hT.1.2.2.2.2 rfl hdg rfl hn hk2 hc hs fun cA kA comp f1 f2 f3 f4 => ?_
  have e2 := (hK.2 2 (g.2.1 2, .array .int) rfl).2
  have e3 : cA = g.2.1 2 := Option.some.inj (f1.symm.trans e2)
  subst e3
  generalize hH1 : H.push ({ cls := g.2.1 2, slots := Array.replicate n.toNatClampNeg .null, vm := .none } : Cell) = H1
  have z1 : H1.size = H.size + 1 := by rw [← hH1, Array.size_push]
  have e1 : H1[H.size]? = some (arrV (g.2.1 2) n.toNatClampNeg (fun _ => .null)) := by rw [← hH1, Array.getElem?_push_size, ← arrV_new]
  have o1 : ∀ q : Nat, q < H.size → H1[q]? = H[q]? := fun q hq => by rw [← hH1, Array.getElem?_push, if_neg (Nat.ne_of_lt hq)]
  have hP : va_P g.1 vwCl (wd N ad f ++ [(H.size, c_ar (g.2.1 2) n.toNatClampNeg (fun _ => none))]) H1 := (B.1.kept (fun k x hx => o1 x.1 ((B.1 k x hx).lt))).app (fun k x hx => by
    have hz : k < 1 := (List.getElem?_eq_some_iff.mp hx).1
    rw [show k = 0 by omega] at hx
    cases hx
    show H1[H.size]? = some (vp_cell _ _)
    rw [vp_cell_q]
    exact e1)
  have hD := B.2.1.push (e := c_ar (g.2.1 2) n.toNatClampNeg (fun _ => none)) B.1 rfl (hA _ B.2.2.1)
  rw [wd_push] at hP hD
  exact kk H.size H1 ⟨hP, hD, Nat.le_trans B.2.2.1 (by omega), fun x h1 h2 => (o1 x (Nat.lt_of_lt_of_le h1 B.2.2.1)).trans (B.2.2.2.1 x h1 h2), B.2.2.2.2⟩
/-- an object into an array of its class -/
theorem p_aast {q b qv bv n t0 ci k : Nat} {cA : ClassId} {r : vw_C} {vs : List Value} {h : Nat → Option Nat} {i : Int32} (hbq : ad q = b) (X : CX p s m args meth c cc nL own cw) (hK : KK g s) (B : WB g A s.heap N ad f H locs) (hq : q < N) (hf : f q = c_ar cA n h) (ht : (TY g.2.1)[t0]? = some (cA, .object r.1)) (hqv : qv < N) (hbv : ad qv = bv) (hfv : f qv = .inr (ci, vs)) (hc : vwCl[ci]? = some r) (hk : i.toNatClampNeg = k) (hi : vp_in i n) (hdg : decode cc pc = .ok (.aastore, 1))
    (kk : ∀ (H1 : Heap) (locs1 : List Loc), WB g A s.heap N ad (va_up f q (c_ar cA n (va_up h k (some bv)))) H1 locs1 → W p l e R s m args below meth c H1 locs1 cells slots Q (F0 m (pc + 1) ls rest)) : W p l e R s m args below meth c H locs cells slots Q (F0 m pc ls (.ref bv :: .int i :: .ref b :: rest)) := by
  subst hbq hbv hk
  refine va_astq X.1 X.2.1 hK B.1 B.2.1 B.2.2 q t0 qv ci (by rw [wd_get hq, hf]) ht (by rw [wd_get hqv, hfv]) hc hi hdg fun H1 locs1 hP hD hS => ?_
  rw [wd_set hq] at hP hD
  exact kk H1 locs1 ⟨hP, hD, hS⟩
/-- four rows of three at once -/
theorem p_mna {index : Nat} (X : CX p s m args meth c cc nL own cw) (hA : ∀ q, s.heap.size ≤ q → A q) (hK : KK g s) (hT : ST g.2.2 A s s.heap) (B : WB g A s.heap N ad f H locs) (hcl : Cond.classLink own index "[[I" ∈ tb_all) (hc : cells + 5 ≤ R.cells) (hs : slots + 16 ≤ R.slots) (hdg : decode cc pc = .ok (.multianewarray index 2, 4))
    (kk : ∀ (a : Nat) (r : Nat → Nat) (H1 : Heap), WB g A s.heap (N + 5) (ap N ad [a, r 0, r 1, r 2, r 3]) (ap N f [c_ar (g.2.1 2) 4 (fun i => if i < 4 then some (r i) else none), c_row g (0, 0, 0), c_row g (0, 0, 0), c_row g (0, 0, 0), c_row g (0, 0, 0)]) H1 locs → W p l e R s m args below meth c H1 locs (cells + 5) (slots + 16) Q (F0 m (pc + 4) ls (.ref a :: rest))) : W p l e R s m args below meth c H locs cells slots Q (F0 m pc ls (.int 3 :: .int 4 :: rest)) := by
  obtain ⟨hx, hb, hml, hown, hts, -⟩ := X
  have hP0 : va_P g.1 vwCl (wd N ad f ++ va_pl [] (fun _ => c_row g (0, 0, 0))) H := by rw [show va_pl [] (fun _ => c_row g (0, 0, 0)) = [] from rfl, List.append_nil]; exact B.1
  have hD0 : va_D A (wd N ad f ++ va_pl [] (fun _ => c_row g (0, 0, 0))) := by rw [show va_pl [] (fun _ => c_row g (0, 0, 0)) = [] from rfl, List.append_nil]; exact B.2.1
  refine va_mna (X := wd N ad f) (L := []) (f := fun _ => c_row g (0, 0, 0)) (ty := .int) (cy := g.2.1 0) (N' := 4) (K' := 3) (z := (3, .inl (fun _ => 0))) hx hb hown (hts _ (List.mem_cons_of_mem _ hcl)) hT.1.2.2.2.2 (hts _ (List.mem_cons_of_mem _ ac_int)) (hK.2 0 (g.2.1 0, .int) rfl).2 hK hP0 hD0 B.2.2 hA (by decide) (by decide) (by decide) (by decide) (by decide) (by decide) (by decide) rfl rfl hc hs (fun _ => rfl) hdg fun a r cA H1 hr _ hK1 hP hD hS => ?_
  have e1 := (hK1.2 6 (cA, .array .int) rfl).2
  have e2 := (hK.2 2 (g.2.1 2, .array .int) rfl).2
  have e3 : cA = g.2.1 2 := Option.some.inj (e1.symm.trans e2)
  subst e3
  have hw : (wd N ad f ++ [(a, c_ar (g.2.1 2) 4 (fun i => if i < 4 then some (r i) else none))]) ++ va_pl ([] ++ (List.range 4).map r) (vr_up (fun _ => c_row g (0, 0, 0)) ((List.range 4).map r) (.inl (g.2.1 0, 3, .inl (fun _ => 0)))) = wd (N + 5) (ap N ad [a, r 0, r 1, r 2, r 3]) (ap N f [c_ar (g.2.1 2) 4 (fun i => if i < 4 then some (r i) else none), c_row g (0, 0, 0), c_row g (0, 0, 0), c_row g (0, 0, 0), c_row g (0, 0, 0)]) := by
    have e4 : va_pl ([] ++ (List.range 4).map r) (vr_up (fun _ => c_row g (0, 0, 0)) ((List.range 4).map r) (.inl (g.2.1 0, 3, .inl (fun _ => 0)))) = [(r 0, c_row g (0, 0, 0)), (r 1, c_row g (0, 0, 0)), (r 2, c_row g (0, 0, 0)), (r 3, c_row g (0, 0, 0))] := by
      have e5 : (.inl (g.2.1 0, 3, .inl (fun _ => 0)) : va_E) = c_row g (0, 0, 0) := by rw [rw3_0]
      rw [e5]
      have e6 : vr_up (fun _ => c_row g (0, 0, 0)) ((List.range 4).map r) (c_row g (0, 0, 0)) = fun _ => c_row g (0, 0, 0) := by
        funext k
        unfold vr_up
        split <;> rfl
      rw [e6]
      rfl
    rw [e4]
    have e7 : ∀ (M : va_W) (x y z w : Nat × va_E), M ++ [x, y, z, w] = (((M ++ [x]) ++ [y]) ++ [z]) ++ [w] := fun M x y z w => by simp
    rw [e7, wd_push, wd_push, wd_push, wd_push, wd_push]
    have hn1 : ap N ad [] = ad := ap_nil
    have hn2 : ap N f [] = f := ap_nil
    rw [← hn1, ← hn2]
    rw [show va_up (ap N ad []) N a = ap N ad [a] from ap_push (n := 0) rfl, show ∀ x, va_up (ap N f []) N x = ap N f [x] from fun x => ap_push (n := 0) rfl]
    rw [ap_push (n := 1) rfl, ap_push (n := 1) rfl, ap_push (n := 2) rfl, ap_push (n := 2) rfl, ap_push (n := 3) rfl, ap_push (n := 3) rfl, ap_push (n := 4) rfl, ap_push (n := 4) rfl]
    rw [hn1, hn2]
    rfl
  rw [hw] at hP hD
  exact kk a r H1 ⟨hP, hD, hS⟩
end RC
set_option maxHeartbeats 16000000 in
set_option maxRecDepth 100000 in
theorem c_X1_init (l : Launch) (g : GG) (N : Nat) (ad : Nat → Nat) (f : Nat → va_E) (q b : Nat) (hq : q < N) (hbq : ad q = b) : KV l yX1_init cX1_init 1 (rm 1 0 0) g [.ref b] N ad f N (fun ad' f' => ad = ad' ∧ f = f') := by
  intro sz
  refine mt_start (by decide) (Nat.le_of_ble_eq_true rfl) ?_
  intro p e0 s m9 args below meth c hsz X hr hnam hA hK hT H locs B ls hl
  obtain ⟨hx, hb, hml, hown, hts, hlocks⟩ := id X
  have hl : lv_has ls 1 [(0, .ref b)] := hl
  refine lv_aload_n hx hb dX1_init_0 rfl (lv_at hl 0 rfl) ?_
  refine b_obj (R := (rm 1 0 0)) (rest := []) X hl.1 lk_X1_3 dX1_init_1 (Nat.le_of_ble_eq_true rfl) (Nat.le_of_ble_eq_true rfl) ?_
  exact rt_v X hr (ad, f) B (PO_of B) ⟨rfl, rfl⟩ (Nat.le_of_ble_eq_true rfl) (Nat.le_of_ble_eq_true rfl) dX1_init_4
set_option maxHeartbeats 16000000 in
set_option maxRecDepth 100000 in
theorem c_X3_init (l : Launch) (g : GG) (N : Nat) (ad : Nat → Nat) (f : Nat → va_E) (q b : Nat) (hq : q < N) (hbq : ad q = b) : KV l yX3_init cX3_init 1 (rm 1 0 0) g [.ref b] N ad f N (fun ad' f' => ad = ad' ∧ f = f') := by
  intro sz
  refine mt_start (by decide) (Nat.le_of_ble_eq_true rfl) ?_
  intro p e0 s m9 args below meth c hsz X hr hnam hA hK hT H locs B ls hl
  obtain ⟨hx, hb, hml, hown, hts, hlocks⟩ := id X
  have hl : lv_has ls 1 [(0, .ref b)] := hl
  refine lv_aload_n hx hb dX3_init_0 rfl (lv_at hl 0 rfl) ?_
  refine b_obj (R := (rm 1 0 0)) (rest := []) X hl.1 lk_X3_1 dX3_init_1 (Nat.le_of_ble_eq_true rfl) (Nat.le_of_ble_eq_true rfl) ?_
  exact rt_v X hr (ad, f) B (PO_of B) ⟨rfl, rfl⟩ (Nat.le_of_ble_eq_true rfl) (Nat.le_of_ble_eq_true rfl) dX3_init_4
set_option maxHeartbeats 16000000 in
set_option maxRecDepth 100000 in
theorem c_Jxa1e45_init_da8c8 (l : Launch) (g : GG) (N : Nat) (ad : Nat → Nat) (f : Nat → va_E) (q b : Nat) (hq : q < N) (hbq : ad q = b) : KV l yJxa1e45_init_da8c8 cJxa1e45_init_da8c8 1 (rm 1 0 0) g [.ref b] N ad f N (fun ad' f' => ad = ad' ∧ f = f') := by
  intro sz
  refine mt_start (by decide) (Nat.le_of_ble_eq_true rfl) ?_
  intro p e0 s m9 args below meth c hsz X hr hnam hA hK hT H locs B ls hl
  obtain ⟨hx, hb, hml, hown, hts, hlocks⟩ := id X
  have hl : lv_has ls 1 [(0, .ref b)] := hl
  refine lv_aload_n hx hb dJxa1e45_init_da8c8_0 rfl (lv_at hl 0 rfl) ?_
  refine b_obj (R := (rm 1 0 0)) (rest := []) X hl.1 lk_Jxa1e45_1 dJxa1e45_init_da8c8_1 (Nat.le_of_ble_eq_true rfl) (Nat.le_of_ble_eq_true rfl) ?_
  exact rt_v X hr (ad, f) B (PO_of B) ⟨rfl, rfl⟩ (Nat.le_of_ble_eq_true rfl) (Nat.le_of_ble_eq_true rfl) dJxa1e45_init_da8c8_4
set_option maxHeartbeats 16000000 in
set_option maxRecDepth 100000 in
theorem c_X0_init (l : Launch) (g : GG) (N : Nat) (ad : Nat → Nat) (f : Nat → va_E) (q b : Nat) (hq : q < N) (hbq : ad q = b) (hf : f q = c_dy (0, 0, 0)) : KV l yX0_init cX0_init 1 (rm 1 0 0) g [.ref b] N ad f N (fun ad' f' => ad = ad' ∧ va_up f q (c_dy (2000, 1, 1)) = f') := by
  intro sz
  refine mt_start (by decide) (Nat.le_of_ble_eq_true rfl) ?_
  intro p e0 s m9 args below meth c hsz X hr hnam hA hK hT H locs B ls hl
  obtain ⟨hx, hb, hml, hown, hts, hlocks⟩ := id X
  have hl : lv_has ls 1 [(0, .ref b)] := hl
  refine lv_aload_n hx hb dX0_init_0 rfl (lv_at hl 0 rfl) ?_
  refine b_obj (R := (rm 1 0 0)) (rest := []) X hl.1 lk_X0_3 dX0_init_1 (Nat.le_of_ble_eq_true rfl) (Nat.le_of_ble_eq_true rfl) ?_
  refine lv_aload_n hx hb dX0_init_4 rfl (lv_at hl 0 rfl) ?_
  refine lv_sipush (v := 2000) hx hb dX0_init_5 (by decide) ?_
  refine b_put (q := q) (k := 0) hbq X hK B rfl in_X0 tyX0_ok nmX0 hq hf (by decide) lk_X0_9 rfl rfl rfl rfl rfl (Nat.le_of_ble_eq_true rfl) dX0_init_8 (fun H locs B => ?_)
  have B : WB g (aw N ad sz) s.heap N ad (va_up f q (c_dy (2000, 0, 0))) H locs := B
  refine lv_aload_n hx hb dX0_init_11 rfl (lv_at hl 0 rfl) ?_
  refine lv_iconst (v := 1) hx hb dX0_init_12 (by decide) ?_
  refine b_put (q := q) (k := 1) hbq X hK B rfl in_X0 tyX0_ok nmX0 hq (va_up_self _ _ _) (by decide) lk_X0_15 rfl rfl rfl rfl rfl (Nat.le_of_ble_eq_true rfl) dX0_init_13 (fun H locs B => ?_)
  rw [bx_uu] at B
  have B : WB g (aw N ad sz) s.heap N ad (va_up f q (c_dy (2000, 1, 0))) H locs := B
  refine lv_aload_n hx hb dX0_init_16 rfl (lv_at hl 0 rfl) ?_
  refine lv_iconst (v := 1) hx hb dX0_init_17 (by decide) ?_
  refine b_put (q := q) (k := 2) hbq X hK B rfl in_X0 tyX0_ok nmX0 hq (va_up_self _ _ _) (by decide) lk_X0_18 rfl rfl rfl rfl rfl (Nat.le_of_ble_eq_true rfl) dX0_init_18 (fun H locs B => ?_)
  rw [bx_uu] at B
  have B : WB g (aw N ad sz) s.heap N ad (va_up f q (c_dy (2000, 1, 1))) H locs := B
  exact rt_v X hr (ad, va_up f q (c_dy (2000, 1, 1))) B (PO_of B) ⟨rfl, rfl⟩ (Nat.le_of_ble_eq_true rfl) (Nat.le_of_ble_eq_true rfl) dX0_init_21
set_option maxHeartbeats 16000000 in
set_option maxRecDepth 100000 in
theorem c_Jxc12de_init_da8c8 (l : Launch) (g : GG) (N : Nat) (ad : Nat → Nat) (f : Nat → va_E) (q b : Nat) (hq : q < N) (hbq : ad q = b) (hf : f q = .inr (2, [.int 0, .null, .int 0])) : KV l yJxc12de_init_da8c8 cJxc12de_init_da8c8 1 (rm 2 0 0) g [.ref b] N ad f N (fun ad' f' => ad = ad' ∧ va_up f q (.inr (2, [.int 0, .null, .int 0])) = f') := by
  intro sz
  refine mt_start (by decide) (Nat.le_of_ble_eq_true rfl) ?_
  intro p e0 s m9 args below meth c hsz X hr hnam hA hK hT H locs B ls hl
  obtain ⟨hx, hb, hml, hown, hts, hlocks⟩ := id X
  have hl : lv_has ls 1 [(0, .ref b)] := hl
  refine lv_aload_n hx hb dJxc12de_init_da8c8_0 rfl (lv_at hl 0 rfl) ?_
  refine k_v (k := 0) (n := 0) hA B (b_I (rest := []) X (c_Jxa1e45_init_da8c8 l g N ad f q b hq hbq H.size) mw_Jxa1e45_init_da8c8 rfl md_Jxa1e45_init_da8c8 rfl lk_Jxc12de_1 ⟨(Nat.le_of_ble_eq_true rfl), (Nat.le_of_ble_eq_true rfl)⟩ hA hK hT B hl.1 rfl (Nat.le_of_ble_eq_true rfl) dJxc12de_init_da8c8_1 (by dsimp only [rm]; omega)) (by dsimp only [rm]; omega) (by dsimp only [rm]; omega) (fun ad' f' H locs hw B => ?_)
  obtain ⟨rfl, rfl⟩ := hw
  refine lv_aload_n hx hb dJxc12de_init_da8c8_4 rfl (lv_at hl 0 rfl) ?_
  refine lv_iconst (v := 0) hx hb dJxc12de_init_da8c8_5 (by decide) ?_
  refine b_put (q := q) (k := 0) hbq X hK B rfl in_Jx4a65c tyJx4a65c_ok nmJx4a65c hq hf (by decide) lk_Jxc12de_7 rfl rfl rfl rfl rfl (Nat.le_of_ble_eq_true rfl) dJxc12de_init_da8c8_6 (fun H locs B => ?_)
  exact rt_v X hr (ad, va_up f q (.inr (2, [.int 0, .null, .int 0]))) B (PO_of B) ⟨rfl, rfl⟩ (Nat.le_of_ble_eq_true rfl) (Nat.le_of_ble_eq_true rfl) dJxc12de_init_da8c8_9
set_option maxHeartbeats 16000000 in
set_option maxRecDepth 100000 in
theorem c_Jx4a65c_init_da8c8 (l : Launch) (g : GG) (N : Nat) (ad : Nat → Nat) (f : Nat → va_E) (q b : Nat) (hq : q < N) (hbq : ad q = b) (hf : f q = .inr (2, [.int 0, .null, .int 0])) : KV l yJx4a65c_init_da8c8 cJx4a65c_init_da8c8 1 (rm 3 0 0) g [.ref b] N ad f N (fun ad' f' => ad = ad' ∧ va_up f q (.inr (2, [.int 0, .ref (g.2.2 3), .int 0])) = f') := by
  intro sz
  refine mt_start (by decide) (Nat.le_of_ble_eq_true rfl) ?_
  intro p e0 s m9 args below meth c hsz X hr hnam hA hK hT H locs B ls hl
  obtain ⟨hx, hb, hml, hown, hts, hlocks⟩ := id X
  have hl : lv_has ls 1 [(0, .ref b)] := hl
  refine lv_aload_n hx hb dJx4a65c_init_da8c8_0 rfl (lv_at hl 0 rfl) ?_
  refine k_v (k := 0) (n := 0) hA B (b_I (rest := []) X (c_Jxc12de_init_da8c8 l g N ad f q b hq hbq hf H.size) mw_Jxc12de_init_da8c8 rfl md_Jxc12de_init_da8c8 rfl lk_Jx4a65c_1 ⟨(Nat.le_of_ble_eq_true rfl), (Nat.le_of_ble_eq_true rfl)⟩ hA hK hT B hl.1 rfl (Nat.le_of_ble_eq_true rfl) dJx4a65c_init_da8c8_1 (by dsimp only [rm]; omega)) (by dsimp only [rm]; omega) (by dsimp only [rm]; omega) (fun ad' f' H locs hw B => ?_)
  obtain ⟨rfl, rfl⟩ := hw
  refine lv_aload_n hx hb dJx4a65c_init_da8c8_4 rfl (lv_at hl 0 rfl) ?_
  refine va_gets hx hb hT.2.1.2.2.2.2.1 B.2.2 hown (hts _ (List.mem_cons_of_mem _ lk_Jx4a65c_39)) (fun _ h => h) dJx4a65c_init_da8c8_5 ?_
  refine b_put (q := q) (k := 1) hbq X hK B rfl in_Jx4a65c tyJx4a65c_ok nmJx4a65c hq (va_up_self _ _ _) (by decide) lk_Jx4a65c_9 rfl rfl rfl rfl rfl (Nat.le_of_ble_eq_true rfl) dJx4a65c_init_da8c8_8 (fun H locs B => ?_)
  rw [bx_uu] at B
  exact rt_v X hr (ad, va_up f q (.inr (2, [.int 0, .ref (g.2.2 3), .int 0]))) B (PO_of B) ⟨rfl, rfl⟩ (Nat.le_of_ble_eq_true rfl) (Nat.le_of_ble_eq_true rfl) dJx4a65c_init_da8c8_11
def fn4 (a : Nat → Nat) : Nat → Option Nat := va_up (va_up (va_up (va_up (fun _ => none) 0 (some (a 0))) 1 (some (a 1))) 2 (some (a 2))) 3 (some (a 3))
def fn8 (a : Nat → Nat) : Nat → Option Nat := va_up (va_up (va_up (va_up (fn4 a) 4 (some (a 4))) 5 (some (a 5))) 6 (some (a 6))) 7 (some (a 7))
abbrev c_mz (z : Nat → Nat) : va_E := .inr (5, [.ref (z 0), .ref (z 1), .ref (z 2), .int 0, .int 0, .int 0, .ref (z 3), .ref (z 4), .ref (z 5)])
def cl_new (g : GG) (z : Nat → Nat) : List va_E := [c_ar (g.2.1 3) 4 (fn4 (fun i => z (6 + i))), c_ar (g.2.1 3) 8 (fn8 (fun i => z (10 + i))), c_ar (g.2.1 4) 4 (fn4 (fun i => z (18 + i))), c_sp (0, 0, 0), c_sp (0, 0, 0), c_dy (2000, 1, 1), c_sp (0, 0, 0), c_sp (0, 0, 0), c_sp (0, 0, 0), c_sp (0, 0, 0), c_sp (0, 0, 0), c_sp (0, 0, 0), c_sp (0, 0, 0), c_sp (0, 0, 0), c_sp (0, 0, 0), c_sp (0, 0, 0), c_sp (0, 0, 0), c_sp (0, 0, 0), c_dy (2000, 1, 1), c_dy (2000, 1, 1), c_dy (2000, 1, 1), c_dy (2000, 1, 1)]
set_option maxHeartbeats 16000000 in
set_option maxRecDepth 100000 in
theorem c_X2_init (l : Launch) (g : GG) (N : Nat) (ad : Nat → Nat) (f : Nat → va_E) (q b : Nat) (hq : q < N) (hbq : ad q = b) (hf : f q = .inr (5, [.null, .null, .null, .int 0, .int 0, .int 0, .null, .null, .null])) : KV l yX2_init cX2_init 2 (rm 2 22 73) g [.ref b] N ad f (N + 22) (fun ad' f' => ∃ z : Nat → Nat, ap N ad [z 0, z 1, z 2, z 3, z 4, z 5, z 6, z 7, z 8, z 9, z 10, z 11, z 12, z 13, z 14, z 15, z 16, z 17, z 18, z 19, z 20, z 21] = ad' ∧ ap N (va_up f q (c_mz z)) (cl_new g z) = f') := by
  intro sz
  refine mt_start (by decide) (Nat.le_of_ble_eq_true rfl) ?_
  intro p e0 s m9 args below meth c hsz X hr hnam hA hK hT H locs B ls hl
  obtain ⟨hx, hb, hml, hown, hts, hlocks⟩ := id X
  have hl : lv_has ls 2 [(0, .ref b)] := hl
  refine lv_aload_n hx hb dX2_init_0 rfl (lv_at hl 0 rfl) ?_
  refine b_obj (R := (rm 2 22 73)) (rest := []) X hl.1 lk_X2_1 dX2_init_1 (Nat.le_of_ble_eq_true rfl) (Nat.le_of_ble_eq_true rfl) ?_
  have B := WA_nil (WA_lo0 B hf)
  have B : WB g (aw N ad sz) s.heap (N + 0) (ap N ad []) (ap N (va_up f q (.inr (5, [.null, .null, .null, .int 0, .int 0, .int 0, .null, .null, .null]))) []) H locs := B
  refine lv_aload_n hx hb dX2_init_4 rfl (lv_at hl 0 rfl) ?_
  refine lv_iconst (v := 4) hx hb dX2_init_5 (by decide) ?_
  refine p_anewS (k := 4) X hA hK hT B lk_X2_9 (by decide) (by decide) (by decide) (Nat.le_of_ble_eq_true rfl) (Nat.le_of_ble_eq_true rfl) dX2_init_6 (fun z1 H B => ?_)
  have B := WA_push B (by rfl) (by rfl)
  have B : WB g (aw N ad sz) s.heap (N + 1) (ap N ad [z1]) (ap N (va_up f q (.inr (5, [.null, .null, .null, .int 0, .int 0, .int 0, .null, .null, .null]))) [c_ar (g.2.1 3) 4 (fun _ => none)]) H locs := B
  refine b_putF (q := q) (k := 0) ((ap_lt hq).trans hbq) X hnam hK B rfl in_X2 tyX2_ok nmX2 (by omega) ((ap_lt hq).trans (va_up_self _ _ _)) (by decide) lk_X2_11 rfl rfl rfl rfl rfl rfl (Nat.le_of_ble_eq_true rfl) dX2_init_9 (fun H locs B => ?_)
  have B := WA_lo B hq
  have B : WB g (aw N ad sz) s.heap (N + 1) (ap N ad [z1]) (ap N (va_up f q (.inr (5, [.ref z1, .null, .null, .int 0, .int 0, .int 0, .null, .null, .null]))) [c_ar (g.2.1 3) 4 (fun _ => none)]) H locs := B
  refine lv_aload_n hx hb dX2_init_12 rfl (lv_at hl 0 rfl) ?_
  refine lv_bipush (v := 8) hx hb dX2_init_13 (by decide) ?_
  refine p_anewS (k := 8) X hA hK hT B lk_X2_9 (by decide) (by decide) (by decide) (Nat.le_of_ble_eq_true rfl) (Nat.le_of_ble_eq_true rfl) dX2_init_15 (fun z2 H B => ?_)
  have B := WA_push B (by rfl) (by rfl)
  have B : WB g (aw N ad sz) s.heap (N + 2) (ap N ad [z1, z2]) (ap N (va_up f q (.inr (5, [.ref z1, .null, .null, .int 0, .int 0, .int 0, .null, .null, .null]))) [c_ar (g.2.1 3) 4 (fun _ => none), c_ar (g.2.1 3) 8 (fun _ => none)]) H locs := B
  refine b_putF (q := q) (k := 1) ((ap_lt hq).trans hbq) X hnam hK B rfl in_X2 tyX2_ok nmX2 (by omega) ((ap_lt hq).trans (va_up_self _ _ _)) (by decide) lk_X2_15 rfl rfl rfl rfl rfl rfl (Nat.le_of_ble_eq_true rfl) dX2_init_18 (fun H locs B => ?_)
  have B := WA_lo B hq
  have B : WB g (aw N ad sz) s.heap (N + 2) (ap N ad [z1, z2]) (ap N (va_up f q (.inr (5, [.ref z1, .ref z2, .null, .int 0, .int 0, .int 0, .null, .null, .null]))) [c_ar (g.2.1 3) 4 (fun _ => none), c_ar (g.2.1 3) 8 (fun _ => none)]) H locs := B
  refine lv_aload_n hx hb dX2_init_21 rfl (lv_at hl 0 rfl) ?_
  refine lv_iconst (v := 4) hx hb dX2_init_22 (by decide) ?_
  refine p_anewD (k := 4) X hA hK hT B lk_X2_18 (by decide) (by decide) (by decide) (Nat.le_of_ble_eq_true rfl) (Nat.le_of_ble_eq_true rfl) dX2_init_23 (fun z3 H B => ?_)
  have B := WA_push B (by rfl) (by rfl)
  have B : WB g (aw N ad sz) s.heap (N + 3) (ap N ad [z1, z2, z3]) (ap N (va_up f q (.inr (5, [.ref z1, .ref z2, .null, .int 0, .int 0, .int 0, .null, .null, .null]))) [c_ar (g.2.1 3) 4 (fun _ => none), c_ar (g.2.1 3) 8 (fun _ => none), c_ar (g.2.1 4) 4 (fun _ => none)]) H locs := B
  refine b_putF (q := q) (k := 2) ((ap_lt hq).trans hbq) X hnam hK B rfl in_X2 tyX2_ok nmX2 (by omega) ((ap_lt hq).trans (va_up_self _ _ _)) (by decide) lk_X2_20 rfl rfl rfl rfl rfl rfl (Nat.le_of_ble_eq_true rfl) dX2_init_26 (fun H locs B => ?_)
  have B := WA_lo B hq
  have B : WB g (aw N ad sz) s.heap (N + 3) (ap N ad [z1, z2, z3]) (ap N (va_up f q (.inr (5, [.ref z1, .ref z2, .ref z3, .int 0, .int 0, .int 0, .null, .null, .null]))) [c_ar (g.2.1 3) 4 (fun _ => none), c_ar (g.2.1 3) 8 (fun _ => none), c_ar (g.2.1 4) 4 (fun _ => none)]) H locs := B
  refine lv_aload_n hx hb dX2_init_29 rfl (lv_at hl 0 rfl) ?_
  refine g_new (ci := 4) (fs := [.int 0, .int 0, .int 0]) (k1 := 4) (k2 := 19) X hA hK B rfl in_X1 tyX1_ok lk_X2_9 ia_X1 ii_X1 (by decide +kernel) (Nat.le_of_ble_eq_true rfl) (Nat.le_of_ble_eq_true rfl) (Nat.le_of_ble_eq_true rfl) (Nat.le_of_ble_eq_true rfl) dX2_init_30 (fun z4 H B => ?_)
  have B := WA_push B (by rfl) (by rfl)
  have B : WB g (aw N ad sz) s.heap (N + 4) (ap N ad [z1, z2, z3, z4]) (ap N (va_up f q (.inr (5, [.ref z1, .ref z2, .ref z3, .int 0, .int 0, .int 0, .null, .null, .null]))) [c_ar (g.2.1 3) 4 (fun _ => none), c_ar (g.2.1 3) 8 (fun _ => none), c_ar (g.2.1 4) 4 (fun _ => none), .inr (4, [.int 0, .int 0, .int 0])]) H locs := B
  refine lv_dup hx hb dX2_init_33 rfl ?_
  refine k_v (k := 4) (n := 19) hA B (u_IN (rest := [.ref z4, .ref b]) X (c_X1_init l g (N + 4) (ap N ad [z1, z2, z3, z4]) (ap N (va_up f q (.inr (5, [.ref z1, .ref z2, .ref z3, .int 0, .int 0, .int 0, .null, .null, .null]))) [c_ar (g.2.1 3) 4 (fun _ => none), c_ar (g.2.1 3) 8 (fun _ => none), c_ar (g.2.1 4) 4 (fun _ => none), .inr (4, [.int 0, .int 0, .int 0])]) (N + 3) z4 (by omega) (ap_at rfl) H.size) mw_X1_init rfl md_X1_init rfl lk_X2_24 ⟨(Nat.le_of_ble_eq_true rfl), (Nat.le_of_ble_eq_true rfl)⟩ hA hK hT B hl.1 rfl (Nat.le_of_ble_eq_true rfl) dX2_init_34 (by dsimp only [rm]; omega)) (by dsimp only [rm]; omega) (by dsimp only [rm]; omega) (fun ad' f' H locs hw B => ?_)
  obtain ⟨rfl, rfl⟩ := hw
  refine b_putF (q := q) (k := 6) ((ap_lt hq).trans hbq) X hnam hK B rfl in_X2 tyX2_ok nmX2 (by omega) ((ap_lt hq).trans (va_up_self _ _ _)) (by decide) lk_X2_25 rfl rfl rfl rfl rfl rfl (Nat.le_of_ble_eq_true rfl) dX2_init_37 (fun H locs B => ?_)
  have B := WA_lo B hq
  have B : WB g (aw N ad sz) s.heap (N + 4) (ap N ad [z1, z2, z3, z4]) (ap N (va_up f q (.inr (5, [.ref z1, .ref z2, .ref z3, .int 0, .int 0, .int 0, .ref z4, .null, .null]))) [c_ar (g.2.1 3) 4 (fun _ => none), c_ar (g.2.1 3) 8 (fun _ => none), c_ar (g.2.1 4) 4 (fun _ => none), .inr (4, [.int 0, .int 0, .int 0])]) H locs := B
  refine lv_aload_n hx hb dX2_init_40 rfl (lv_at hl 0 rfl) ?_
  refine g_new (ci := 4) (fs := [.int 0, .int 0, .int 0]) (k1 := 5) (k2 := 22) X hA hK B rfl in_X1 tyX1_ok lk_X2_9 ia_X1 ii_X1 (by decide +kernel) (Nat.le_of_ble_eq_true rfl) (Nat.le_of_ble_eq_true rfl) (Nat.le_of_ble_eq_true rfl) (Nat.le_of_ble_eq_true rfl) dX2_init_41 (fun z5 H B => ?_)
  have B := WA_push B (by rfl) (by rfl)
  have B : WB g (aw N ad sz) s.heap (N + 5) (ap N ad [z1, z2, z3, z4, z5]) (ap N (va_up f q (.inr (5, [.ref z1, .ref z2, .ref z3, .int 0, .int 0, .int 0, .ref z4, .null, .null]))) [c_ar (g.2.1 3) 4 (fun _ => none), c_ar (g.2.1 3) 8 (fun _ => none), c_ar (g.2.1 4) 4 (fun _ => none), .inr (4, [.int 0, .int 0, .int 0]), .inr (4, [.int 0, .int 0, .int 0])]) H locs := B
  refine lv_dup hx hb dX2_init_44 rfl ?_
  refine k_v (k := 5) (n := 22) hA B (u_IN (rest := [.ref z5, .ref b]) X (c_X1_init l g (N + 5) (ap N ad [z1, z2, z3, z4, z5]) (ap N (va_up f q (.inr (5, [.ref z1, .ref z2, .ref z3, .int 0, .int 0, .int 0, .ref z4, .null, .null]))) [c_ar (g.2.1 3) 4 (fun _ => none), c_ar (g.2.1 3) 8 (fun _ => none), c_ar (g.2.1 4) 4 (fun _ => none), .inr (4, [.int 0, .int 0, .int 0]), .inr (4, [.int 0, .int 0, .int 0])]) (N + 4) z5 (by omega) (ap_at rfl) H.size) mw_X1_init rfl md_X1_init rfl lk_X2_24 ⟨(Nat.le_of_ble_eq_true rfl), (Nat.le_of_ble_eq_true rfl)⟩ hA hK hT B hl.1 rfl (Nat.le_of_ble_eq_true rfl) dX2_init_45 (by dsimp only [rm]; omega)) (by dsimp only [rm]; omega) (by dsimp only [rm]; omega) (fun ad' f' H locs hw B => ?_)
  obtain ⟨rfl, rfl⟩ := hw
  refine b_putF (q := q) (k := 7) ((ap_lt hq).trans hbq) X hnam hK B rfl in_X2 tyX2_ok nmX2 (by omega) ((ap_lt hq).trans (va_up_self _ _ _)) (by decide) lk_X2_29 rfl rfl rfl rfl rfl rfl (Nat.le_of_ble_eq_true rfl) dX2_init_48 (fun H locs B => ?_)
  have B := WA_lo B hq
  have B : WB g (aw N ad sz) s.heap (N + 5) (ap N ad [z1, z2, z3, z4, z5]) (ap N (va_up f q (.inr (5, [.ref z1, .ref z2, .ref z3, .int 0, .int 0, .int 0, .ref z4, .ref z5, .null]))) [c_ar (g.2.1 3) 4 (fun _ => none), c_ar (g.2.1 3) 8 (fun _ => none), c_ar (g.2.1 4) 4 (fun _ => none), .inr (4, [.int 0, .int 0, .int 0]), .inr (4, [.int 0, .int 0, .int 0])]) H locs := B
  refine lv_aload_n hx hb dX2_init_51 rfl (lv_at hl 0 rfl) ?_
  refine g_new (ci := 3) (fs := [.int 0, .int 0, .int 0]) (k1 := 6) (k2 := 25) X hA hK B rfl in_X0 tyX0_ok lk_X2_18 ia_X0 ii_X0 (by decide +kernel) (Nat.le_of_ble_eq_true rfl) (Nat.le_of_ble_eq_true rfl) (Nat.le_of_ble_eq_true rfl) (Nat.le_of_ble_eq_true rfl) dX2_init_52 (fun z6 H B => ?_)
  have B := WA_push B (by rfl) (by rfl)
  have B : WB g (aw N ad sz) s.heap (N + 6) (ap N ad [z1, z2, z3, z4, z5, z6]) (ap N (va_up f q (.inr (5, [.ref z1, .ref z2, .ref z3, .int 0, .int 0, .int 0, .ref z4, .ref z5, .null]))) [c_ar (g.2.1 3) 4 (fun _ => none), c_ar (g.2.1 3) 8 (fun _ => none), c_ar (g.2.1 4) 4 (fun _ => none), .inr (4, [.int 0, .int 0, .int 0]), .inr (4, [.int 0, .int 0, .int 0]), .inr (3, [.int 0, .int 0, .int 0])]) H locs := B
  refine lv_dup hx hb dX2_init_55 rfl ?_
  refine k_v (k := 6) (n := 25) hA B (u_IN (rest := [.ref z6, .ref b]) X (c_X0_init l g (N + 6) (ap N ad [z1, z2, z3, z4, z5, z6]) (ap N (va_up f q (.inr (5, [.ref z1, .ref z2, .ref z3, .int 0, .int 0, .int 0, .ref z4, .ref z5, .null]))) [c_ar (g.2.1 3) 4 (fun _ => none), c_ar (g.2.1 3) 8 (fun _ => none), c_ar (g.2.1 4) 4 (fun _ => none), .inr (4, [.int 0, .int 0, .int 0]), .inr (4, [.int 0, .int 0, .int 0]), .inr (3, [.int 0, .int 0, .int 0])]) (N + 5) z6 (by omega) (ap_at rfl) (ap_at rfl) H.size) mw_X0_init rfl md_X0_init rfl lk_X2_32 ⟨(Nat.le_of_ble_eq_true rfl), (Nat.le_of_ble_eq_true rfl)⟩ hA hK hT B hl.1 rfl (Nat.le_of_ble_eq_true rfl) dX2_init_56 (by dsimp only [rm]; omega)) (by dsimp only [rm]; omega) (by dsimp only [rm]; omega) (fun ad' f' H locs hw B => ?_)
  obtain ⟨rfl, rfl⟩ := hw
  have B := WA_set B (Nat.le_of_ble_eq_true rfl)
  have B : WB g (aw N ad sz) s.heap (N + 6) (ap N ad [z1, z2, z3, z4, z5, z6]) (ap N (va_up f q (.inr (5, [.ref z1, .ref z2, .ref z3, .int 0, .int 0, .int 0, .ref z4, .ref z5, .null]))) [c_ar (g.2.1 3) 4 (fun _ => none), c_ar (g.2.1 3) 8 (fun _ => none), c_ar (g.2.1 4) 4 (fun _ => none), .inr (4, [.int 0, .int 0, .int 0]), .inr (4, [.int 0, .int 0, .int 0]), c_dy (2000, 1, 1)]) H locs := B
  refine b_putF (q := q) (k := 8) ((ap_lt hq).trans hbq) X hnam hK B rfl in_X2 tyX2_ok nmX2 (by omega) ((ap_lt hq).trans (va_up_self _ _ _)) (by decide) lk_X2_33 rfl rfl rfl rfl rfl rfl (Nat.le_of_ble_eq_true rfl) dX2_init_59 (fun H locs B => ?_)
  have B := WA_lo B hq
  have B : WB g (aw N ad sz) s.heap (N + 6) (ap N ad [z1, z2, z3, z4, z5, z6]) (ap N (va_up f q (.inr (5, [.ref z1, .ref z2, .ref z3, .int 0, .int 0, .int 0, .ref z4, .ref z5, .ref z6]))) [c_ar (g.2.1 3) 4 (fun _ => none), c_ar (g.2.1 3) 8 (fun _ => none), c_ar (g.2.1 4) 4 (fun _ => none), .inr (4, [.int 0, .int 0, .int 0]), .inr (4, [.int 0, .int 0, .int 0]), c_dy (2000, 1, 1)]) H locs := B
  refine lv_iconst (v := 0) hx hb dX2_init_62 (by decide) ?_
  refine lv_istore_n (lv' := [(1, .int 0), (0, .ref b)]) hx hb dX2_init_63 rfl hl (by decide) rfl (fun ls hl => ?_)
  refine lv_iload_n hx hb dX2_init_64 rfl (lv_at hl 0 rfl) ?_
  refine lv_iconst (v := 4) hx hb dX2_init_65 (by decide) ?_
  refine lv_icmp_ge (tgt := 88) hx hb dX2_init_66 (by decide) (fun z => absurd z (by decide)) (fun _ => ?_)
  refine lv_aload_n hx hb dX2_init_69 rfl (lv_at hl 1 rfl) ?_
  refine b_get (q := q) (k := 0) ((ap_lt hq).trans hbq) X hK B rfl in_X2 (by omega) ((ap_lt hq).trans (va_up_self _ _ _)) (by decide) lk_X2_11 rfl rfl dX2_init_70 ?_
  refine lv_iload_n hx hb dX2_init_73 rfl (lv_at hl 0 rfl) ?_
  refine g_new (ci := 4) (fs := [.int 0, .int 0, .int 0]) (k1 := 7) (k2 := 28) X hA hK B rfl in_X1 tyX1_ok lk_X2_9 ia_X1 ii_X1 (by decide +kernel) (Nat.le_of_ble_eq_true rfl) (Nat.le_of_ble_eq_true rfl) (Nat.le_of_ble_eq_true rfl) (Nat.le_of_ble_eq_true rfl) dX2_init_74 (fun z7 H B => ?_)
  have B := WA_push B (by rfl) (by rfl)
  have B : WB g (aw N ad sz) s.heap (N + 7) (ap N ad [z1, z2, z3, z4, z5, z6, z7]) (ap N (va_up f q (.inr (5, [.ref z1, .ref z2, .ref z3, .int 0, .int 0, .int 0, .ref z4, .ref z5, .ref z6]))) [c_ar (g.2.1 3) 4 (fun _ => none), c_ar (g.2.1 3) 8 (fun _ => none), c_ar (g.2.1 4) 4 (fun _ => none), .inr (4, [.int 0, .int 0, .int 0]), .inr (4, [.int 0, .int 0, .int 0]), c_dy (2000, 1, 1), .inr (4, [.int 0, .int 0, .int 0])]) H locs := B
  refine lv_dup hx hb dX2_init_77 rfl ?_
  refine k_v (k := 7) (n := 28) hA B (u_IN (rest := [.ref z7, .int 0, .ref z1]) X (c_X1_init l g (N + 7) (ap N ad [z1, z2, z3, z4, z5, z6, z7]) (ap N (va_up f q (.inr (5, [.ref z1, .ref z2, .ref z3, .int 0, .int 0, .int 0, .ref z4, .ref z5, .ref z6]))) [c_ar (g.2.1 3) 4 (fun _ => none), c_ar (g.2.1 3) 8 (fun _ => none), c_ar (g.2.1 4) 4 (fun _ => none), .inr (4, [.int 0, .int 0, .int 0]), .inr (4, [.int 0, .int 0, .int 0]), c_dy (2000, 1, 1), .inr (4, [.int 0, .int 0, .int 0])]) (N + 6) z7 (by omega) (ap_at rfl) H.size) mw_X1_init rfl md_X1_init rfl lk_X2_24 ⟨(Nat.le_of_ble_eq_true rfl), (Nat.le_of_ble_eq_true rfl)⟩ hA hK hT B hl.1 rfl (Nat.le_of_ble_eq_true rfl) dX2_init_78 (by dsimp only [rm]; omega)) (by dsimp only [rm]; omega) (by dsimp only [rm]; omega) (fun ad' f' H locs hw B => ?_)
  obtain ⟨rfl, rfl⟩ := hw
  refine p_aast (q := N + 0) (qv := N + 6) (t0 := 3) (k := 0) (ap_at rfl) X hK B (by omega) (ap_at rfl) rfl (by omega) (ap_at rfl) (ap_at rfl) rfl (by decide) (by unfold vp_in; decide) dX2_init_81 (fun H locs B => ?_)
  have B := WA_set B (Nat.le_of_ble_eq_true rfl)
  have B : WB g (aw N ad sz) s.heap (N + 7) (ap N ad [z1, z2, z3, z4, z5, z6, z7]) (ap N (va_up f q (.inr (5, [.ref z1, .ref z2, .ref z3, .int 0, .int 0, .int 0, .ref z4, .ref z5, .ref z6]))) [c_ar (g.2.1 3) 4 (va_up (fun _ => none) 0 (some z7)), c_ar (g.2.1 3) 8 (fun _ => none), c_ar (g.2.1 4) 4 (fun _ => none), .inr (4, [.int 0, .int 0, .int 0]), .inr (4, [.int 0, .int 0, .int 0]), c_dy (2000, 1, 1), .inr (4, [.int 0, .int 0, .int 0])]) H locs := B
  refine lv_iinc (v := 1) (lv' := [(1, .int 1), (0, .ref b)]) hx hb dX2_init_82 hl (k := 0) rfl rfl (by decide) rfl (fun ls hl => ?_)
  refine lv_goto (tgt := 64) hx hb dX2_init_85 (by decide) ?_
  refine lv_iload_n hx hb dX2_init_64 rfl (lv_at hl 0 rfl) ?_
  refine lv_iconst (v := 4) hx hb dX2_init_65 (by decide) ?_
  refine lv_icmp_ge (tgt := 88) hx hb dX2_init_66 (by decide) (fun z => absurd z (by decide)) (fun _ => ?_)
  refine lv_aload_n hx hb dX2_init_69 rfl (lv_at hl 1 rfl) ?_
  refine b_get (q := q) (k := 0) ((ap_lt hq).trans hbq) X hK B rfl in_X2 (by omega) ((ap_lt hq).trans (va_up_self _ _ _)) (by decide) lk_X2_11 rfl rfl dX2_init_70 ?_
  refine lv_iload_n hx hb dX2_init_73 rfl (lv_at hl 0 rfl) ?_
  refine g_new (ci := 4) (fs := [.int 0, .int 0, .int 0]) (k1 := 8) (k2 := 31) X hA hK B rfl in_X1 tyX1_ok lk_X2_9 ia_X1 ii_X1 (by decide +kernel) (Nat.le_of_ble_eq_true rfl) (Nat.le_of_ble_eq_true rfl) (Nat.le_of_ble_eq_true rfl) (Nat.le_of_ble_eq_true rfl) dX2_init_74 (fun z8 H B => ?_)
  have B := WA_push B (by rfl) (by rfl)
  have B : WB g (aw N ad sz) s.heap (N + 8) (ap N ad [z1, z2, z3, z4, z5, z6, z7, z8]) (ap N (va_up f q (.inr (5, [.ref z1, .ref z2, .ref z3, .int 0, .int 0, .int 0, .ref z4, .ref z5, .ref z6]))) [c_ar (g.2.1 3) 4 (va_up (fun _ => none) 0 (some z7)), c_ar (g.2.1 3) 8 (fun _ => none), c_ar (g.2.1 4) 4 (fun _ => none), .inr (4, [.int 0, .int 0, .int 0]), .inr (4, [.int 0, .int 0, .int 0]), c_dy (2000, 1, 1), .inr (4, [.int 0, .int 0, .int 0]), .inr (4, [.int 0, .int 0, .int 0])]) H locs := B
  refine lv_dup hx hb dX2_init_77 rfl ?_
  refine k_v (k := 8) (n := 31) hA B (u_IN (rest := [.ref z8, .int 1, .ref z1]) X (c_X1_init l g (N + 8) (ap N ad [z1, z2, z3, z4, z5, z6, z7, z8]) (ap N (va_up f q (.inr (5, [.ref z1, .ref z2, .ref z3, .int 0, .int 0, .int 0, .ref z4, .ref z5, .ref z6]))) [c_ar (g.2.1 3) 4 (va_up (fun _ => none) 0 (some z7)), c_ar (g.2.1 3) 8 (fun _ => none), c_ar (g.2.1 4) 4 (fun _ => none), .inr (4, [.int 0, .int 0, .int 0]), .inr (4, [.int 0, .int 0, .int 0]), c_dy (2000, 1, 1), .inr (4, [.int 0, .int 0, .int 0]), .inr (4, [.int 0, .int 0, .int 0])]) (N + 7) z8 (by omega) (ap_at rfl) H.size) mw_X1_init rfl md_X1_init rfl lk_X2_24 ⟨(Nat.le_of_ble_eq_true rfl), (Nat.le_of_ble_eq_true rfl)⟩ hA hK hT B hl.1 rfl (Nat.le_of_ble_eq_true rfl) dX2_init_78 (by dsimp only [rm]; omega)) (by dsimp only [rm]; omega) (by dsimp only [rm]; omega) (fun ad' f' H locs hw B => ?_)
  obtain ⟨rfl, rfl⟩ := hw
  refine p_aast (q := N + 0) (qv := N + 7) (t0 := 3) (k := 1) (ap_at rfl) X hK B (by omega) (ap_at rfl) rfl (by omega) (ap_at rfl) (ap_at rfl) rfl (by decide) (by unfold vp_in; decide) dX2_init_81 (fun H locs B => ?_)
  have B := WA_set B (Nat.le_of_ble_eq_true rfl)
  have B : WB g (aw N ad sz) s.heap (N + 8) (ap N ad [z1, z2, z3, z4, z5, z6, z7, z8]) (ap N (va_up f q (.inr (5, [.ref z1, .ref z2, .ref z3, .int 0, .int 0, .int 0, .ref z4, .ref z5, .ref z6]))) [c_ar (g.2.1 3) 4 (va_up (va_up (fun _ => none) 0 (some z7)) 1 (some z8)), c_ar (g.2.1 3) 8 (fun _ => none), c_ar (g.2.1 4) 4 (fun _ => none), .inr (4, [.int 0, .int 0, .int 0]), .inr (4, [.int 0, .int 0, .int 0]), c_dy (2000, 1, 1), .inr (4, [.int 0, .int 0, .int 0]), .inr (4, [.int 0, .int 0, .int 0])]) H locs := B
  refine lv_iinc (v := 2) (lv' := [(1, .int 2), (0, .ref b)]) hx hb dX2_init_82 hl (k := 0) rfl rfl (by decide) rfl (fun ls hl => ?_)
  refine lv_goto (tgt := 64) hx hb dX2_init_85 (by decide) ?_
  refine lv_iload_n hx hb dX2_init_64 rfl (lv_at hl 0 rfl) ?_
  refine lv_iconst (v := 4) hx hb dX2_init_65 (by decide) ?_
  refine lv_icmp_ge (tgt := 88) hx hb dX2_init_66 (by decide) (fun z => absurd z (by decide)) (fun _ => ?_)
  refine lv_aload_n hx hb dX2_init_69 rfl (lv_at hl 1 rfl) ?_
  refine b_get (q := q) (k := 0) ((ap_lt hq).trans hbq) X hK B rfl in_X2 (by omega) ((ap_lt hq).trans (va_up_self _ _ _)) (by decide) lk_X2_11 rfl rfl dX2_init_70 ?_
  refine lv_iload_n hx hb dX2_init_73 rfl (lv_at hl 0 rfl) ?_
  refine g_new (ci := 4) (fs := [.int 0, .int 0, .int 0]) (k1 := 9) (k2 := 34) X hA hK B rfl in_X1 tyX1_ok lk_X2_9 ia_X1 ii_X1 (by decide +kernel) (Nat.le_of_ble_eq_true rfl) (Nat.le_of_ble_eq_true rfl) (Nat.le_of_ble_eq_true rfl) (Nat.le_of_ble_eq_true rfl) dX2_init_74 (fun z9 H B => ?_)
  have B := WA_push B (by rfl) (by rfl)
  have B : WB g (aw N ad sz) s.heap (N + 9) (ap N ad [z1, z2, z3, z4, z5, z6, z7, z8, z9]) (ap N (va_up f q (.inr (5, [.ref z1, .ref z2, .ref z3, .int 0, .int 0, .int 0, .ref z4, .ref z5, .ref z6]))) [c_ar (g.2.1 3) 4 (va_up (va_up (fun _ => none) 0 (some z7)) 1 (some z8)), c_ar (g.2.1 3) 8 (fun _ => none), c_ar (g.2.1 4) 4 (fun _ => none), .inr (4, [.int 0, .int 0, .int 0]), .inr (4, [.int 0, .int 0, .int 0]), c_dy (2000, 1, 1), .inr (4, [.int 0, .int 0, .int 0]), .inr (4, [.int 0, .int 0, .int 0]), .inr (4, [.int 0, .int 0, .int 0])]) H locs := B
  refine lv_dup hx hb dX2_init_77 rfl ?_
  refine k_v (k := 9) (n := 34) hA B (u_IN (rest := [.ref z9, .int 2, .ref z1]) X (c_X1_init l g (N + 9) (ap N ad [z1, z2, z3, z4, z5, z6, z7, z8, z9]) (ap N (va_up f q (.inr (5, [.ref z1, .ref z2, .ref z3, .int 0, .int 0, .int 0, .ref z4, .ref z5, .ref z6]))) [c_ar (g.2.1 3) 4 (va_up (va_up (fun _ => none) 0 (some z7)) 1 (some z8)), c_ar (g.2.1 3) 8 (fun _ => none), c_ar (g.2.1 4) 4 (fun _ => none), .inr (4, [.int 0, .int 0, .int 0]), .inr (4, [.int 0, .int 0, .int 0]), c_dy (2000, 1, 1), .inr (4, [.int 0, .int 0, .int 0]), .inr (4, [.int 0, .int 0, .int 0]), .inr (4, [.int 0, .int 0, .int 0])]) (N + 8) z9 (by omega) (ap_at rfl) H.size) mw_X1_init rfl md_X1_init rfl lk_X2_24 ⟨(Nat.le_of_ble_eq_true rfl), (Nat.le_of_ble_eq_true rfl)⟩ hA hK hT B hl.1 rfl (Nat.le_of_ble_eq_true rfl) dX2_init_78 (by dsimp only [rm]; omega)) (by dsimp only [rm]; omega) (by dsimp only [rm]; omega) (fun ad' f' H locs hw B => ?_)
  obtain ⟨rfl, rfl⟩ := hw
  refine p_aast (q := N + 0) (qv := N + 8) (t0 := 3) (k := 2) (ap_at rfl) X hK B (by omega) (ap_at rfl) rfl (by omega) (ap_at rfl) (ap_at rfl) rfl (by decide) (by unfold vp_in; decide) dX2_init_81 (fun H locs B => ?_)
  have B := WA_set B (Nat.le_of_ble_eq_true rfl)
  have B : WB g (aw N ad sz) s.heap (N + 9) (ap N ad [z1, z2, z3, z4, z5, z6, z7, z8, z9]) (ap N (va_up f q (.inr (5, [.ref z1, .ref z2, .ref z3, .int 0, .int 0, .int 0, .ref z4, .ref z5, .ref z6]))) [c_ar (g.2.1 3) 4 (va_up (va_up (va_up (fun _ => none) 0 (some z7)) 1 (some z8)) 2 (some z9)), c_ar (g.2.1 3) 8 (fun _ => none), c_ar (g.2.1 4) 4 (fun _ => none), .inr (4, [.int 0, .int 0, .int 0]), .inr (4, [.int 0, .int 0, .int 0]), c_dy (2000, 1, 1), .inr (4, [.int 0, .int 0, .int 0]), .inr (4, [.int 0, .int 0, .int 0]), .inr (4, [.int 0, .int 0, .int 0])]) H locs := B
  refine lv_iinc (v := 3) (lv' := [(1, .int 3), (0, .ref b)]) hx hb dX2_init_82 hl (k := 0) rfl rfl (by decide) rfl (fun ls hl => ?_)
  refine lv_goto (tgt := 64) hx hb dX2_init_85 (by decide) ?_
  refine lv_iload_n hx hb dX2_init_64 rfl (lv_at hl 0 rfl) ?_
  refine lv_iconst (v := 4) hx hb dX2_init_65 (by decide) ?_
  refine lv_icmp_ge (tgt := 88) hx hb dX2_init_66 (by decide) (fun z => absurd z (by decide)) (fun _ => ?_)
  refine lv_aload_n hx hb dX2_init_69 rfl (lv_at hl 1 rfl) ?_
  refine b_get (q := q) (k := 0) ((ap_lt hq).trans hbq) X hK B rfl in_X2 (by omega) ((ap_lt hq).trans (va_up_self _ _ _)) (by decide) lk_X2_11 rfl rfl dX2_init_70 ?_
  refine lv_iload_n hx hb dX2_init_73 rfl (lv_at hl 0 rfl) ?_
  refine g_new (ci := 4) (fs := [.int 0, .int 0, .int 0]) (k1 := 10) (k2 := 37) X hA hK B rfl in_X1 tyX1_ok lk_X2_9 ia_X1 ii_X1 (by decide +kernel) (Nat.le_of_ble_eq_true rfl) (Nat.le_of_ble_eq_true rfl) (Nat.le_of_ble_eq_true rfl) (Nat.le_of_ble_eq_true rfl) dX2_init_74 (fun z10 H B => ?_)
  have B := WA_push B (by rfl) (by rfl)
  have B : WB g (aw N ad sz) s.heap (N + 10) (ap N ad [z1, z2, z3, z4, z5, z6, z7, z8, z9, z10]) (ap N (va_up f q (.inr (5, [.ref z1, .ref z2, .ref z3, .int 0, .int 0, .int 0, .ref z4, .ref z5, .ref z6]))) [c_ar (g.2.1 3) 4 (va_up (va_up (va_up (fun _ => none) 0 (some z7)) 1 (some z8)) 2 (some z9)), c_ar (g.2.1 3) 8 (fun _ => none), c_ar (g.2.1 4) 4 (fun _ => none), .inr (4, [.int 0, .int 0, .int 0]), .inr (4, [.int 0, .int 0, .int 0]), c_dy (2000, 1, 1), .inr (4, [.int 0, .int 0, .int 0]), .inr (4, [.int 0, .int 0, .int 0]), .inr (4, [.int 0, .int 0, .int 0]), .inr (4, [.int 0, .int 0, .int 0])]) H locs := B
  refine lv_dup hx hb dX2_init_77 rfl ?_
  refine k_v (k := 10) (n := 37) hA B (u_IN (rest := [.ref z10, .int 3, .ref z1]) X (c_X1_init l g (N + 10) (ap N ad [z1, z2, z3, z4, z5, z6, z7, z8, z9, z10]) (ap N (va_up f q (.inr (5, [.ref z1, .ref z2, .ref z3, .int 0, .int 0, .int 0, .ref z4, .ref z5, .ref z6]))) [c_ar (g.2.1 3) 4 (va_up (va_up (va_up (fun _ => none) 0 (some z7)) 1 (some z8)) 2 (some z9)), c_ar (g.2.1 3) 8 (fun _ => none), c_ar (g.2.1 4) 4 (fun _ => none), .inr (4, [.int 0, .int 0, .int 0]), .inr (4, [.int 0, .int 0, .int 0]), c_dy (2000, 1, 1), .inr (4, [.int 0, .int 0, .int 0]), .inr (4, [.int 0, .int 0, .int 0]), .inr (4, [.int 0, .int 0, .int 0]), .inr (4, [.int 0, .int 0, .int 0])]) (N + 9) z10 (by omega) (ap_at rfl) H.size) mw_X1_init rfl md_X1_init rfl lk_X2_24 ⟨(Nat.le_of_ble_eq_true rfl), (Nat.le_of_ble_eq_true rfl)⟩ hA hK hT B hl.1 rfl (Nat.le_of_ble_eq_true rfl) dX2_init_78 (by dsimp only [rm]; omega)) (by dsimp only [rm]; omega) (by dsimp only [rm]; omega) (fun ad' f' H locs hw B => ?_)
  obtain ⟨rfl, rfl⟩ := hw
  refine p_aast (q := N + 0) (qv := N + 9) (t0 := 3) (k := 3) (ap_at rfl) X hK B (by omega) (ap_at rfl) rfl (by omega) (ap_at rfl) (ap_at rfl) rfl (by decide) (by unfold vp_in; decide) dX2_init_81 (fun H locs B => ?_)
  have B := WA_set B (Nat.le_of_ble_eq_true rfl)
  have B : WB g (aw N ad sz) s.heap (N + 10) (ap N ad [z1, z2, z3, z4, z5, z6, z7, z8, z9, z10]) (ap N (va_up f q (.inr (5, [.ref z1, .ref z2, .ref z3, .int 0, .int 0, .int 0, .ref z4, .ref z5, .ref z6]))) [c_ar (g.2.1 3) 4 (va_up (va_up (va_up (va_up (fun _ => none) 0 (some z7)) 1 (some z8)) 2 (some z9)) 3 (some z10)), c_ar (g.2.1 3) 8 (fun _ => none), c_ar (g.2.1 4) 4 (fun _ => none), .inr (4, [.int 0, .int 0, .int 0]), .inr (4, [.int 0, .int 0, .int 0]), c_dy (2000, 1, 1), .inr (4, [.int 0, .int 0, .int 0]), .inr (4, [.int 0, .int 0, .int 0]), .inr (4, [.int 0, .int 0, .int 0]), .inr (4, [.int 0, .int 0, .int 0])]) H locs := B
  refine lv_iinc (v := 4) (lv' := [(1, .int 4), (0, .ref b)]) hx hb dX2_init_82 hl (k := 0) rfl rfl (by decide) rfl (fun ls hl => ?_)
  refine lv_goto (tgt := 64) hx hb dX2_init_85 (by decide) ?_
  refine lv_iload_n hx hb dX2_init_64 rfl (lv_at hl 0 rfl) ?_
  refine lv_iconst (v := 4) hx hb dX2_init_65 (by decide) ?_
  refine lv_icmp_ge (tgt := 88) hx hb dX2_init_66 (by decide) (fun _ => ?_) (fun z => absurd (by decide) z)
  refine lv_iconst (v := 0) hx hb dX2_init_88 (by decide) ?_
  refine lv_istore_n (lv' := [(1, .int 0), (0, .ref b)]) hx hb dX2_init_89 rfl hl (by decide) rfl (fun ls hl => ?_)
  refine lv_iload_n hx hb dX2_init_90 rfl (lv_at hl 0 rfl) ?_
  refine lv_bipush (v := 8) hx hb dX2_init_91 (by decide) ?_
  refine lv_icmp_ge (tgt := 115) hx hb dX2_init_93 (by decide) (fun z => absurd z (by decide)) (fun _ => ?_)
  refine lv_aload_n hx hb dX2_init_96 rfl (lv_at hl 1 rfl) ?_
  refine b_get (q := q) (k := 1) ((ap_lt hq).trans hbq) X hK B rfl in_X2 (by omega) ((ap_lt hq).trans (va_up_self _ _ _)) (by decide) lk_X2_15 rfl rfl dX2_init_97 ?_
  refine lv_iload_n hx hb dX2_init_100 rfl (lv_at hl 0 rfl) ?_
  refine g_new (ci := 4) (fs := [.int 0, .int 0, .int 0]) (k1 := 11) (k2 := 40) X hA hK B rfl in_X1 tyX1_ok lk_X2_9 ia_X1 ii_X1 (by decide +kernel) (Nat.le_of_ble_eq_true rfl) (Nat.le_of_ble_eq_true rfl) (Nat.le_of_ble_eq_true rfl) (Nat.le_of_ble_eq_true rfl) dX2_init_101 (fun z11 H B => ?_)
  have B := WA_push B (by rfl) (by rfl)
  have B : WB g (aw N ad sz) s.heap (N + 11) (ap N ad [z1, z2, z3, z4, z5, z6, z7, z8, z9, z10, z11]) (ap N (va_up f q (.inr (5, [.ref z1, .ref z2, .ref z3, .int 0, .int 0, .int 0, .ref z4, .ref z5, .ref z6]))) [c_ar (g.2.1 3) 4 (va_up (va_up (va_up (va_up (fun _ => none) 0 (some z7)) 1 (some z8)) 2 (some z9)) 3 (some z10)), c_ar (g.2.1 3) 8 (fun _ => none), c_ar (g.2.1 4) 4 (fun _ => none), .inr (4, [.int 0, .int 0, .int 0]), .inr (4, [.int 0, .int 0, .int 0]), c_dy (2000, 1, 1), .inr (4, [.int 0, .int 0, .int 0]), .inr (4, [.int 0, .int 0, .int 0]), .inr (4, [.int 0, .int 0, .int 0]), .inr (4, [.int 0, .int 0, .int 0]), .inr (4, [.int 0, .int 0, .int 0])]) H locs := B
  refine lv_dup hx hb dX2_init_104 rfl ?_
  refine k_v (k := 11) (n := 40) hA B (u_IN (rest := [.ref z11, .int 0, .ref z2]) X (c_X1_init l g (N + 11) (ap N ad [z1, z2, z3, z4, z5, z6, z7, z8, z9, z10, z11]) (ap N (va_up f q (.inr (5, [.ref z1, .ref z2, .ref z3, .int 0, .int 0, .int 0, .ref z4, .ref z5, .ref z6]))) [c_ar (g.2.1 3) 4 (va_up (va_up (va_up (va_up (fun _ => none) 0 (some z7)) 1 (some z8)) 2 (some z9)) 3 (some z10)), c_ar (g.2.1 3) 8 (fun _ => none), c_ar (g.2.1 4) 4 (fun _ => none), .inr (4, [.int 0, .int 0, .int 0]), .inr (4, [.int 0, .int 0, .int 0]), c_dy (2000, 1, 1), .inr (4, [.int 0, .int 0, .int 0]), .inr (4, [.int 0, .int 0, .int 0]), .inr (4, [.int 0, .int 0, .int 0]), .inr (4, [.int 0, .int 0, .int 0]), .inr (4, [.int 0, .int 0, .int 0])]) (N + 10) z11 (by omega) (ap_at rfl) H.size) mw_X1_init rfl md_X1_init rfl lk_X2_24 ⟨(Nat.le_of_ble_eq_true rfl), (Nat.le_of_ble_eq_true rfl)⟩ hA hK hT B hl.1 rfl (Nat.le_of_ble_eq_true rfl) dX2_init_105 (by dsimp only [rm]; omega)) (by dsimp only [rm]; omega) (by dsimp only [rm]; omega) (fun ad' f' H locs hw B => ?_)
  obtain ⟨rfl, rfl⟩ := hw
  refine p_aast (q := N + 1) (qv := N + 10) (t0 := 3) (k := 0) (ap_at rfl) X hK B (by omega) (ap_at rfl) rfl (by omega) (ap_at rfl) (ap_at rfl) rfl (by decide) (by unfold vp_in; decide) dX2_init_108 (fun H locs B => ?_)
  have B := WA_set B (Nat.le_of_ble_eq_true rfl)
  have B : WB g (aw N ad sz) s.heap (N + 11) (ap N ad [z1, z2, z3, z4, z5, z6, z7, z8, z9, z10, z11]) (ap N (va_up f q (.inr (5, [.ref z1, .ref z2, .ref z3, .int 0, .int 0, .int 0, .ref z4, .ref z5, .ref z6]))) [c_ar (g.2.1 3) 4 (va_up (va_up (va_up (va_up (fun _ => none) 0 (some z7)) 1 (some z8)) 2 (some z9)) 3 (some z10)), c_ar (g.2.1 3) 8 (va_up (fun _ => none) 0 (some z11)), c_ar (g.2.1 4) 4 (fun _ => none), .inr (4, [.int 0, .int 0, .int 0]), .inr (4, [.int 0, .int 0, .int 0]), c_dy (2000, 1, 1), .inr (4, [.int 0, .int 0, .int 0]), .inr (4, [.int 0, .int 0, .int 0]), .inr (4, [.int 0, .int 0, .int 0]), .inr (4, [.int 0, .int 0, .int 0]), .inr (4, [.int 0, .int 0, .int 0])]) H locs := B
  refine lv_iinc (v := 1) (lv' := [(1, .int 1), (0, .ref b)]) hx hb dX2_init_109 hl (k := 0) rfl rfl (by decide) rfl (fun ls hl => ?_)
  refine lv_goto (tgt := 90) hx hb dX2_init_112 (by decide) ?_
  refine lv_iload_n hx hb dX2_init_90 rfl (lv_at hl 0 rfl) ?_
  refine lv_bipush (v := 8) hx hb dX2_init_91 (by decide) ?_
  refine lv_icmp_ge (tgt := 115) hx hb dX2_init_93 (by decide) (fun z => absurd z (by decide)) (fun _ => ?_)
  refine lv_aload_n hx hb dX2_init_96 rfl (lv_at hl 1 rfl) ?_
  refine b_get (q := q) (k := 1) ((ap_lt hq).trans hbq) X hK B rfl in_X2 (by omega) ((ap_lt hq).trans (va_up_self _ _ _)) (by decide) lk_X2_15 rfl rfl dX2_init_97 ?_
  refine lv_iload_n hx hb dX2_init_100 rfl (lv_at hl 0 rfl) ?_
  refine g_new (ci := 4) (fs := [.int 0, .int 0, .int 0]) (k1 := 12) (k2 := 43) X hA hK B rfl in_X1 tyX1_ok lk_X2_9 ia_X1 ii_X1 (by decide +kernel) (Nat.le_of_ble_eq_true rfl) (Nat.le_of_ble_eq_true rfl) (Nat.le_of_ble_eq_true rfl) (Nat.le_of_ble_eq_true rfl) dX2_init_101 (fun z12 H B => ?_)
  have B := WA_push B (by rfl) (by rfl)
  have B : WB g (aw N ad sz) s.heap (N + 12) (ap N ad [z1, z2, z3, z4, z5, z6, z7, z8, z9, z10, z11, z12]) (ap N (va_up f q (.inr (5, [.ref z1, .ref z2, .ref z3, .int 0, .int 0, .int 0, .ref z4, .ref z5, .ref z6]))) [c_ar (g.2.1 3) 4 (va_up (va_up (va_up (va_up (fun _ => none) 0 (some z7)) 1 (some z8)) 2 (some z9)) 3 (some z10)), c_ar (g.2.1 3) 8 (va_up (fun _ => none) 0 (some z11)), c_ar (g.2.1 4) 4 (fun _ => none), .inr (4, [.int 0, .int 0, .int 0]), .inr (4, [.int 0, .int 0, .int 0]), c_dy (2000, 1, 1), .inr (4, [.int 0, .int 0, .int 0]), .inr (4, [.int 0, .int 0, .int 0]), .inr (4, [.int 0, .int 0, .int 0]), .inr (4, [.int 0, .int 0, .int 0]), .inr (4, [.int 0, .int 0, .int 0]), .inr (4, [.int 0, .int 0, .int 0])]) H locs := B
  refine lv_dup hx hb dX2_init_104 rfl ?_
  refine k_v (k := 12) (n := 43) hA B (u_IN (rest := [.ref z12, .int 1, .ref z2]) X (c_X1_init l g (N + 12) (ap N ad [z1, z2, z3, z4, z5, z6, z7, z8, z9, z10, z11, z12]) (ap N (va_up f q (.inr (5, [.ref z1, .ref z2, .ref z3, .int 0, .int 0, .int 0, .ref z4, .ref z5, .ref z6]))) [c_ar (g.2.1 3) 4 (va_up (va_up (va_up (va_up (fun _ => none) 0 (some z7)) 1 (some z8)) 2 (some z9)) 3 (some z10)), c_ar (g.2.1 3) 8 (va_up (fun _ => none) 0 (some z11)), c_ar (g.2.1 4) 4 (fun _ => none), .inr (4, [.int 0, .int 0, .int 0]), .inr (4, [.int 0, .int 0, .int 0]), c_dy (2000, 1, 1), .inr (4, [.int 0, .int 0, .int 0]), .inr (4, [.int 0, .int 0, .int 0]), .inr (4, [.int 0, .int 0, .int 0]), .inr (4, [.int 0, .int 0, .int 0]), .inr (4, [.int 0, .int 0, .int 0]), .inr (4, [.int 0, .int 0, .int 0])]) (N + 11) z12 (by omega) (ap_at rfl) H.size) mw_X1_init rfl md_X1_init rfl lk_X2_24 ⟨(Nat.le_of_ble_eq_true rfl), (Nat.le_of_ble_eq_true rfl)⟩ hA hK hT B hl.1 rfl (Nat.le_of_ble_eq_true rfl) dX2_init_105 (by dsimp only [rm]; omega)) (by dsimp only [rm]; omega) (by dsimp only [rm]; omega) (fun ad' f' H locs hw B => ?_)
  obtain ⟨rfl, rfl⟩ := hw
  refine p_aast (q := N + 1) (qv := N + 11) (t0 := 3) (k := 1) (ap_at rfl) X hK B (by omega) (ap_at rfl) rfl (by omega) (ap_at rfl) (ap_at rfl) rfl (by decide) (by unfold vp_in; decide) dX2_init_108 (fun H locs B => ?_)
  have B := WA_set B (Nat.le_of_ble_eq_true rfl)
  have B : WB g (aw N ad sz) s.heap (N + 12) (ap N ad [z1, z2, z3, z4, z5, z6, z7, z8, z9, z10, z11, z12]) (ap N (va_up f q (.inr (5, [.ref z1, .ref z2, .ref z3, .int 0, .int 0, .int 0, .ref z4, .ref z5, .ref z6]))) [c_ar (g.2.1 3) 4 (va_up (va_up (va_up (va_up (fun _ => none) 0 (some z7)) 1 (some z8)) 2 (some z9)) 3 (some z10)), c_ar (g.2.1 3) 8 (va_up (va_up (fun _ => none) 0 (some z11)) 1 (some z12)), c_ar (g.2.1 4) 4 (fun _ => none), .inr (4, [.int 0, .int 0, .int 0]), .inr (4, [.int 0, .int 0, .int 0]), c_dy (2000, 1, 1), .inr (4, [.int 0, .int 0, .int 0]), .inr (4, [.int 0, .int 0, .int 0]), .inr (4, [.int 0, .int 0, .int 0]), .inr (4, [.int 0, .int 0, .int 0]), .inr (4, [.int 0, .int 0, .int 0]), .inr (4, [.int 0, .int 0, .int 0])]) H locs := B
  refine lv_iinc (v := 2) (lv' := [(1, .int 2), (0, .ref b)]) hx hb dX2_init_109 hl (k := 0) rfl rfl (by decide) rfl (fun ls hl => ?_)
  refine lv_goto (tgt := 90) hx hb dX2_init_112 (by decide) ?_
  refine lv_iload_n hx hb dX2_init_90 rfl (lv_at hl 0 rfl) ?_
  refine lv_bipush (v := 8) hx hb dX2_init_91 (by decide) ?_
  refine lv_icmp_ge (tgt := 115) hx hb dX2_init_93 (by decide) (fun z => absurd z (by decide)) (fun _ => ?_)
  refine lv_aload_n hx hb dX2_init_96 rfl (lv_at hl 1 rfl) ?_
  refine b_get (q := q) (k := 1) ((ap_lt hq).trans hbq) X hK B rfl in_X2 (by omega) ((ap_lt hq).trans (va_up_self _ _ _)) (by decide) lk_X2_15 rfl rfl dX2_init_97 ?_
  refine lv_iload_n hx hb dX2_init_100 rfl (lv_at hl 0 rfl) ?_
  refine g_new (ci := 4) (fs := [.int 0, .int 0, .int 0]) (k1 := 13) (k2 := 46) X hA hK B rfl in_X1 tyX1_ok lk_X2_9 ia_X1 ii_X1 (by decide +kernel) (Nat.le_of_ble_eq_true rfl) (Nat.le_of_ble_eq_true rfl) (Nat.le_of_ble_eq_true rfl) (Nat.le_of_ble_eq_true rfl) dX2_init_101 (fun z13 H B => ?_)
  have B := WA_push B (by rfl) (by rfl)
  have B : WB g (aw N ad sz) s.heap (N + 13) (ap N ad [z1, z2, z3, z4, z5, z6, z7, z8, z9, z10, z11, z12, z13]) (ap N (va_up f q (.inr (5, [.ref z1, .ref z2, .ref z3, .int 0, .int 0, .int 0, .ref z4, .ref z5, .ref z6]))) [c_ar (g.2.1 3) 4 (va_up (va_up (va_up (va_up (fun _ => none) 0 (some z7)) 1 (some z8)) 2 (some z9)) 3 (some z10)), c_ar (g.2.1 3) 8 (va_up (va_up (fun _ => none) 0 (some z11)) 1 (some z12)), c_ar (g.2.1 4) 4 (fun _ => none), .inr (4, [.int 0, .int 0, .int 0]), .inr (4, [.int 0, .int 0, .int 0]), c_dy (2000, 1, 1), .inr (4, [.int 0, .int 0, .int 0]), .inr (4, [.int 0, .int 0, .int 0]), .inr (4, [.int 0, .int 0, .int 0]), .inr (4, [.int 0, .int 0, .int 0]), .inr (4, [.int 0, .int 0, .int 0]), .inr (4, [.int 0, .int 0, .int 0]), .inr (4, [.int 0, .int 0, .int 0])]) H locs := B
  refine lv_dup hx hb dX2_init_104 rfl ?_
  refine k_v (k := 13) (n := 46) hA B (u_IN (rest := [.ref z13, .int 2, .ref z2]) X (c_X1_init l g (N + 13) (ap N ad [z1, z2, z3, z4, z5, z6, z7, z8, z9, z10, z11, z12, z13]) (ap N (va_up f q (.inr (5, [.ref z1, .ref z2, .ref z3, .int 0, .int 0, .int 0, .ref z4, .ref z5, .ref z6]))) [c_ar (g.2.1 3) 4 (va_up (va_up (va_up (va_up (fun _ => none) 0 (some z7)) 1 (some z8)) 2 (some z9)) 3 (some z10)), c_ar (g.2.1 3) 8 (va_up (va_up (fun _ => none) 0 (some z11)) 1 (some z12)), c_ar (g.2.1 4) 4 (fun _ => none), .inr (4, [.int 0, .int 0, .int 0]), .inr (4, [.int 0, .int 0, .int 0]), c_dy (2000, 1, 1), .inr (4, [.int 0, .int 0, .int 0]), .inr (4, [.int 0, .int 0, .int 0]), .inr (4, [.int 0, .int 0, .int 0]), .inr (4, [.int 0, .int 0, .int 0]), .inr (4, [.int 0, .int 0, .int 0]), .inr (4, [.int 0, .int 0, .int 0]), .inr (4, [.int 0, .int 0, .int 0])]) (N + 12) z13 (by omega) (ap_at rfl) H.size) mw_X1_init rfl md_X1_init rfl lk_X2_24 ⟨(Nat.le_of_ble_eq_true rfl), (Nat.le_of_ble_eq_true rfl)⟩ hA hK hT B hl.1 rfl (Nat.le_of_ble_eq_true rfl) dX2_init_105 (by dsimp only [rm]; omega)) (by dsimp only [rm]; omega) (by dsimp only [rm]; omega) (fun ad' f' H locs hw B => ?_)
  obtain ⟨rfl, rfl⟩ := hw
  refine p_aast (q := N + 1) (qv := N + 12) (t0 := 3) (k := 2) (ap_at rfl) X hK B (by omega) (ap_at rfl) rfl (by omega) (ap_at rfl) (ap_at rfl) rfl (by decide) (by unfold vp_in; decide) dX2_init_108 (fun H locs B => ?_)
  have B := WA_set B (Nat.le_of_ble_eq_true rfl)
  have B : WB g (aw N ad sz) s.heap (N + 13) (ap N ad [z1, z2, z3, z4, z5, z6, z7, z8, z9, z10, z11, z12, z13]) (ap N (va_up f q (.inr (5, [.ref z1, .ref z2, .ref z3, .int 0, .int 0, .int 0, .ref z4, .ref z5, .ref z6]))) [c_ar (g.2.1 3) 4 (va_up (va_up (va_up (va_up (fun _ => none) 0 (some z7)) 1 (some z8)) 2 (some z9)) 3 (some z10)), c_ar (g.2.1 3) 8 (va_up (va_up (va_up (fun _ => none) 0 (some z11)) 1 (some z12)) 2 (some z13)), c_ar (g.2.1 4) 4 (fun _ => none), .inr (4, [.int 0, .int 0, .int 0]), .inr (4, [.int 0, .int 0, .int 0]), c_dy (2000, 1, 1), .inr (4, [.int 0, .int 0, .int 0]), .inr (4, [.int 0, .int 0, .int 0]), .inr (4, [.int 0, .int 0, .int 0]), .inr (4, [.int 0, .int 0, .int 0]), .inr (4, [.int 0, .int 0, .int 0]), .inr (4, [.int 0, .int 0, .int 0]), .inr (4, [.int 0, .int 0, .int 0])]) H locs := B
  refine lv_iinc (v := 3) (lv' := [(1, .int 3), (0, .ref b)]) hx hb dX2_init_109 hl (k := 0) rfl rfl (by decide) rfl (fun ls hl => ?_)
  refine lv_goto (tgt := 90) hx hb dX2_init_112 (by decide) ?_
  refine lv_iload_n hx hb dX2_init_90 rfl (lv_at hl 0 rfl) ?_
  refine lv_bipush (v := 8) hx hb dX2_init_91 (by decide) ?_
  refine lv_icmp_ge (tgt := 115) hx hb dX2_init_93 (by decide) (fun z => absurd z (by decide)) (fun _ => ?_)
  refine lv_aload_n hx hb dX2_init_96 rfl (lv_at hl 1 rfl) ?_
  refine b_get (q := q) (k := 1) ((ap_lt hq).trans hbq) X hK B rfl in_X2 (by omega) ((ap_lt hq).trans (va_up_self _ _ _)) (by decide) lk_X2_15 rfl rfl dX2_init_97 ?_
  refine lv_iload_n hx hb dX2_init_100 rfl (lv_at hl 0 rfl) ?_
  refine g_new (ci := 4) (fs := [.int 0, .int 0, .int 0]) (k1 := 14) (k2 := 49) X hA hK B rfl in_X1 tyX1_ok lk_X2_9 ia_X1 ii_X1 (by decide +kernel) (Nat.le_of_ble_eq_true rfl) (Nat.le_of_ble_eq_true rfl) (Nat.le_of_ble_eq_true rfl) (Nat.le_of_ble_eq_true rfl) dX2_init_101 (fun z14 H B => ?_)
  have B := WA_push B (by rfl) (by rfl)
  have B : WB g (aw N ad sz) s.heap (N + 14) (ap N ad [z1, z2, z3, z4, z5, z6, z7, z8, z9, z10, z11, z12, z13, z14]) (ap N (va_up f q (.inr (5, [.ref z1, .ref z2, .ref z3, .int 0, .int 0, .int 0, .ref z4, .ref z5, .ref z6]))) [c_ar (g.2.1 3) 4 (va_up (va_up (va_up (va_up (fun _ => none) 0 (some z7)) 1 (some z8)) 2 (some z9)) 3 (some z10)), c_ar (g.2.1 3) 8 (va_up (va_up (va_up (fun _ => none) 0 (some z11)) 1 (some z12)) 2 (some z13)), c_ar (g.2.1 4) 4 (fun _ => none), .inr (4, [.int 0, .int 0, .int 0]), .inr (4, [.int 0, .int 0, .int 0]), c_dy (2000, 1, 1), .inr (4, [.int 0, .int 0, .int 0]), .inr (4, [.int 0, .int 0, .int 0]), .inr (4, [.int 0, .int 0, .int 0]), .inr (4, [.int 0, .int 0, .int 0]), .inr (4, [.int 0, .int 0, .int 0]), .inr (4, [.int 0, .int 0, .int 0]), .inr (4, [.int 0, .int 0, .int 0]), .inr (4, [.int 0, .int 0, .int 0])]) H locs := B
  refine lv_dup hx hb dX2_init_104 rfl ?_
  refine k_v (k := 14) (n := 49) hA B (u_IN (rest := [.ref z14, .int 3, .ref z2]) X (c_X1_init l g (N + 14) (ap N ad [z1, z2, z3, z4, z5, z6, z7, z8, z9, z10, z11, z12, z13, z14]) (ap N (va_up f q (.inr (5, [.ref z1, .ref z2, .ref z3, .int 0, .int 0, .int 0, .ref z4, .ref z5, .ref z6]))) [c_ar (g.2.1 3) 4 (va_up (va_up (va_up (va_up (fun _ => none) 0 (some z7)) 1 (some z8)) 2 (some z9)) 3 (some z10)), c_ar (g.2.1 3) 8 (va_up (va_up (va_up (fun _ => none) 0 (some z11)) 1 (some z12)) 2 (some z13)), c_ar (g.2.1 4) 4 (fun _ => none), .inr (4, [.int 0, .int 0, .int 0]), .inr (4, [.int 0, .int 0, .int 0]), c_dy (2000, 1, 1), .inr (4, [.int 0, .int 0, .int 0]), .inr (4, [.int 0, .int 0, .int 0]), .inr (4, [.int 0, .int 0, .int 0]), .inr (4, [.int 0, .int 0, .int 0]), .inr (4, [.int 0, .int 0, .int 0]), .inr (4, [.int 0, .int 0, .int 0]), .inr (4, [.int 0, .int 0, .int 0]), .inr (4, [.int 0, .int 0, .int 0])]) (N + 13) z14 (by omega) (ap_at rfl) H.size) mw_X1_init rfl md_X1_init rfl lk_X2_24 ⟨(Nat.le_of_ble_eq_true rfl), (Nat.le_of_ble_eq_true rfl)⟩ hA hK hT B hl.1 rfl (Nat.le_of_ble_eq_true rfl) dX2_init_105 (by dsimp only [rm]; omega)) (by dsimp only [rm]; omega) (by dsimp only [rm]; omega) (fun ad' f' H locs hw B => ?_)
  obtain ⟨rfl, rfl⟩ := hw
  refine p_aast (q := N + 1) (qv := N + 13) (t0 := 3) (k := 3) (ap_at rfl) X hK B (by omega) (ap_at rfl) rfl (by omega) (ap_at rfl) (ap_at rfl) rfl (by decide) (by unfold vp_in; decide) dX2_init_108 (fun H locs B => ?_)
  have B := WA_set B (Nat.le_of_ble_eq_true rfl)
  have B : WB g (aw N ad sz) s.heap (N + 14) (ap N ad [z1, z2, z3, z4, z5, z6, z7, z8, z9, z10, z11, z12, z13, z14]) (ap N (va_up f q (.inr (5, [.ref z1, .ref z2, .ref z3, .int 0, .int 0, .int 0, .ref z4, .ref z5, .ref z6]))) [c_ar (g.2.1 3) 4 (va_up (va_up (va_up (va_up (fun _ => none) 0 (some z7)) 1 (some z8)) 2 (some z9)) 3 (some z10)), c_ar (g.2.1 3) 8 (va_up (va_up (va_up (va_up (fun _ => none) 0 (some z11)) 1 (some z12)) 2 (some z13)) 3 (some z14)), c_ar (g.2.1 4) 4 (fun _ => none), .inr (4, [.int 0, .int 0, .int 0]), .inr (4, [.int 0, .int 0, .int 0]), c_dy (2000, 1, 1), .inr (4, [.int 0, .int 0, .int 0]), .inr (4, [.int 0, .int 0, .int 0]), .inr (4, [.int 0, .int 0, .int 0]), .inr (4, [.int 0, .int 0, .int 0]), .inr (4, [.int 0, .int 0, .int 0]), .inr (4, [.int 0, .int 0, .int 0]), .inr (4, [.int 0, .int 0, .int 0]), .inr (4, [.int 0, .int 0, .int 0])]) H locs := B
  refine lv_iinc (v := 4) (lv' := [(1, .int 4), (0, .ref b)]) hx hb dX2_init_109 hl (k := 0) rfl rfl (by decide) rfl (fun ls hl => ?_)
  refine lv_goto (tgt := 90) hx hb dX2_init_112 (by decide) ?_
  refine lv_iload_n hx hb dX2_init_90 rfl (lv_at hl 0 rfl) ?_
  refine lv_bipush (v := 8) hx hb dX2_init_91 (by decide) ?_
  refine lv_icmp_ge (tgt := 115) hx hb dX2_init_93 (by decide) (fun z => absurd z (by decide)) (fun _ => ?_)
  refine lv_aload_n hx hb dX2_init_96 rfl (lv_at hl 1 rfl) ?_
  refine b_get (q := q) (k := 1) ((ap_lt hq).trans hbq) X hK B rfl in_X2 (by omega) ((ap_lt hq).trans (va_up_self _ _ _)) (by decide) lk_X2_15 rfl rfl dX2_init_97 ?_
  refine lv_iload_n hx hb dX2_init_100 rfl (lv_at hl 0 rfl) ?_
  refine g_new (ci := 4) (fs := [.int 0, .int 0, .int 0]) (k1 := 15) (k2 := 52) X hA hK B rfl in_X1 tyX1_ok lk_X2_9 ia_X1 ii_X1 (by decide +kernel) (Nat.le_of_ble_eq_true rfl) (Nat.le_of_ble_eq_true rfl) (Nat.le_of_ble_eq_true rfl) (Nat.le_of_ble_eq_true rfl) dX2_init_101 (fun z15 H B => ?_)
  have B := WA_push B (by rfl) (by rfl)
  have B : WB g (aw N ad sz) s.heap (N + 15) (ap N ad [z1, z2, z3, z4, z5, z6, z7, z8, z9, z10, z11, z12, z13, z14, z15]) (ap N (va_up f q (.inr (5, [.ref z1, .ref z2, .ref z3, .int 0, .int 0, .int 0, .ref z4, .ref z5, .ref z6]))) [c_ar (g.2.1 3) 4 (va_up (va_up (va_up (va_up (fun _ => none) 0 (some z7)) 1 (some z8)) 2 (some z9)) 3 (some z10)), c_ar (g.2.1 3) 8 (va_up (va_up (va_up (va_up (fun _ => none) 0 (some z11)) 1 (some z12)) 2 (some z13)) 3 (some z14)), c_ar (g.2.1 4) 4 (fun _ => none), .inr (4, [.int 0, .int 0, .int 0]), .inr (4, [.int 0, .int 0, .int 0]), c_dy (2000, 1, 1), .inr (4, [.int 0, .int 0, .int 0]), .inr (4, [.int 0, .int 0, .int 0]), .inr (4, [.int 0, .int 0, .int 0]), .inr (4, [.int 0, .int 0, .int 0]), .inr (4, [.int 0, .int 0, .int 0]), .inr (4, [.int 0, .int 0, .int 0]), .inr (4, [.int 0, .int 0, .int 0]), .inr (4, [.int 0, .int 0, .int 0]), .inr (4, [.int 0, .int 0, .int 0])]) H locs := B
  refine lv_dup hx hb dX2_init_104 rfl ?_
  refine k_v (k := 15) (n := 52) hA B (u_IN (rest := [.ref z15, .int 4, .ref z2]) X (c_X1_init l g (N + 15) (ap N ad [z1, z2, z3, z4, z5, z6, z7, z8, z9, z10, z11, z12, z13, z14, z15]) (ap N (va_up f q (.inr (5, [.ref z1, .ref z2, .ref z3, .int 0, .int 0, .int 0, .ref z4, .ref z5, .ref z6]))) [c_ar (g.2.1 3) 4 (va_up (va_up (va_up (va_up (fun _ => none) 0 (some z7)) 1 (some z8)) 2 (some z9)) 3 (some z10)), c_ar (g.2.1 3) 8 (va_up (va_up (va_up (va_up (fun _ => none) 0 (some z11)) 1 (some z12)) 2 (some z13)) 3 (some z14)), c_ar (g.2.1 4) 4 (fun _ => none), .inr (4, [.int 0, .int 0, .int 0]), .inr (4, [.int 0, .int 0, .int 0]), c_dy (2000, 1, 1), .inr (4, [.int 0, .int 0, .int 0]), .inr (4, [.int 0, .int 0, .int 0]), .inr (4, [.int 0, .int 0, .int 0]), .inr (4, [.int 0, .int 0, .int 0]), .inr (4, [.int 0, .int 0, .int 0]), .inr (4, [.int 0, .int 0, .int 0]), .inr (4, [.int 0, .int 0, .int 0]), .inr (4, [.int 0, .int 0, .int 0]), .inr (4, [.int 0, .int 0, .int 0])]) (N + 14) z15 (by omega) (ap_at rfl) H.size) mw_X1_init rfl md_X1_init rfl lk_X2_24 ⟨(Nat.le_of_ble_eq_true rfl), (Nat.le_of_ble_eq_true rfl)⟩ hA hK hT B hl.1 rfl (Nat.le_of_ble_eq_true rfl) dX2_init_105 (by dsimp only [rm]; omega)) (by dsimp only [rm]; omega) (by dsimp only [rm]; omega) (fun ad' f' H locs hw B => ?_)
  obtain ⟨rfl, rfl⟩ := hw
  refine p_aast (q := N + 1) (qv := N + 14) (t0 := 3) (k := 4) (ap_at rfl) X hK B (by omega) (ap_at rfl) rfl (by omega) (ap_at rfl) (ap_at rfl) rfl (by decide) (by unfold vp_in; decide) dX2_init_108 (fun H locs B => ?_)
  have B := WA_set B (Nat.le_of_ble_eq_true rfl)
  have B : WB g (aw N ad sz) s.heap (N + 15) (ap N ad [z1, z2, z3, z4, z5, z6, z7, z8, z9, z10, z11, z12, z13, z14, z15]) (ap N (va_up f q (.inr (5, [.ref z1, .ref z2, .ref z3, .int 0, .int 0, .int 0, .ref z4, .ref z5, .ref z6]))) [c_ar (g.2.1 3) 4 (va_up (va_up (va_up (va_up (fun _ => none) 0 (some z7)) 1 (some z8)) 2 (some z9)) 3 (some z10)), c_ar (g.2.1 3) 8 (va_up (va_up (va_up (va_up (va_up (fun _ => none) 0 (some z11)) 1 (some z12)) 2 (some z13)) 3 (some z14)) 4 (some z15)), c_ar (g.2.1 4) 4 (fun _ => none), .inr (4, [.int 0, .int 0, .int 0]), .inr (4, [.int 0, .int 0, .int 0]), c_dy (2000, 1, 1), .inr (4, [.int 0, .int 0, .int 0]), .inr (4, [.int 0, .int 0, .int 0]), .inr (4, [.int 0, .int 0, .int 0]), .inr (4, [.int 0, .int 0, .int 0]), .inr (4, [.int 0, .int 0, .int 0]), .inr (4, [.int 0, .int 0, .int 0]), .inr (4, [.int 0, .int 0, .int 0]), .inr (4, [.int 0, .int 0, .int 0]), .inr (4, [.int 0, .int 0, .int 0])]) H locs := B
  refine lv_iinc (v := 5) (lv' := [(1, .int 5), (0, .ref b)]) hx hb dX2_init_109 hl (k := 0) rfl rfl (by decide) rfl (fun ls hl => ?_)
  refine lv_goto (tgt := 90) hx hb dX2_init_112 (by decide) ?_
  refine lv_iload_n hx hb dX2_init_90 rfl (lv_at hl 0 rfl) ?_
  refine lv_bipush (v := 8) hx hb dX2_init_91 (by decide) ?_
  refine lv_icmp_ge (tgt := 115) hx hb dX2_init_93 (by decide) (fun z => absurd z (by decide)) (fun _ => ?_)
  refine lv_aload_n hx hb dX2_init_96 rfl (lv_at hl 1 rfl) ?_
  refine b_get (q := q) (k := 1) ((ap_lt hq).trans hbq) X hK B rfl in_X2 (by omega) ((ap_lt hq).trans (va_up_self _ _ _)) (by decide) lk_X2_15 rfl rfl dX2_init_97 ?_
  refine lv_iload_n hx hb dX2_init_100 rfl (lv_at hl 0 rfl) ?_
  refine g_new (ci := 4) (fs := [.int 0, .int 0, .int 0]) (k1 := 16) (k2 := 55) X hA hK B rfl in_X1 tyX1_ok lk_X2_9 ia_X1 ii_X1 (by decide +kernel) (Nat.le_of_ble_eq_true rfl) (Nat.le_of_ble_eq_true rfl) (Nat.le_of_ble_eq_true rfl) (Nat.le_of_ble_eq_true rfl) dX2_init_101 (fun z16 H B => ?_)
  have B := WA_push B (by rfl) (by rfl)
  have B : WB g (aw N ad sz) s.heap (N + 16) (ap N ad [z1, z2, z3, z4, z5, z6, z7, z8, z9, z10, z11, z12, z13, z14, z15, z16]) (ap N (va_up f q (.inr (5, [.ref z1, .ref z2, .ref z3, .int 0, .int 0, .int 0, .ref z4, .ref z5, .ref z6]))) [c_ar (g.2.1 3) 4 (va_up (va_up (va_up (va_up (fun _ => none) 0 (some z7)) 1 (some z8)) 2 (some z9)) 3 (some z10)), c_ar (g.2.1 3) 8 (va_up (va_up (va_up (va_up (va_up (fun _ => none) 0 (some z11)) 1 (some z12)) 2 (some z13)) 3 (some z14)) 4 (some z15)), c_ar (g.2.1 4) 4 (fun _ => none), .inr (4, [.int 0, .int 0, .int 0]), .inr (4, [.int 0, .int 0, .int 0]), c_dy (2000, 1, 1), .inr (4, [.int 0, .int 0, .int 0]), .inr (4, [.int 0, .int 0, .int 0]), .inr (4, [.int 0, .int 0, .int 0]), .inr (4, [.int 0, .int 0, .int 0]), .inr (4, [.int 0, .int 0, .int 0]), .inr (4, [.int 0, .int 0, .int 0]), .inr (4, [.int 0, .int 0, .int 0]), .inr (4, [.int 0, .int 0, .int 0]), .inr (4, [.int 0, .int 0, .int 0]), .inr (4, [.int 0, .int 0, .int 0])]) H locs := B
  refine lv_dup hx hb dX2_init_104 rfl ?_
  refine k_v (k := 16) (n := 55) hA B (u_IN (rest := [.ref z16, .int 5, .ref z2]) X (c_X1_init l g (N + 16) (ap N ad [z1, z2, z3, z4, z5, z6, z7, z8, z9, z10, z11, z12, z13, z14, z15, z16]) (ap N (va_up f q (.inr (5, [.ref z1, .ref z2, .ref z3, .int 0, .int 0, .int 0, .ref z4, .ref z5, .ref z6]))) [c_ar (g.2.1 3) 4 (va_up (va_up (va_up (va_up (fun _ => none) 0 (some z7)) 1 (some z8)) 2 (some z9)) 3 (some z10)), c_ar (g.2.1 3) 8 (va_up (va_up (va_up (va_up (va_up (fun _ => none) 0 (some z11)) 1 (some z12)) 2 (some z13)) 3 (some z14)) 4 (some z15)), c_ar (g.2.1 4) 4 (fun _ => none), .inr (4, [.int 0, .int 0, .int 0]), .inr (4, [.int 0, .int 0, .int 0]), c_dy (2000, 1, 1), .inr (4, [.int 0, .int 0, .int 0]), .inr (4, [.int 0, .int 0, .int 0]), .inr (4, [.int 0, .int 0, .int 0]), .inr (4, [.int 0, .int 0, .int 0]), .inr (4, [.int 0, .int 0, .int 0]), .inr (4, [.int 0, .int 0, .int 0]), .inr (4, [.int 0, .int 0, .int 0]), .inr (4, [.int 0, .int 0, .int 0]), .inr (4, [.int 0, .int 0, .int 0]), .inr (4, [.int 0, .int 0, .int 0])]) (N + 15) z16 (by omega) (ap_at rfl) H.size) mw_X1_init rfl md_X1_init rfl lk_X2_24 ⟨(Nat.le_of_ble_eq_true rfl), (Nat.le_of_ble_eq_true rfl)⟩ hA hK hT B hl.1 rfl (Nat.le_of_ble_eq_true rfl) dX2_init_105 (by dsimp only [rm]; omega)) (by dsimp only [rm]; omega) (by dsimp only [rm]; omega) (fun ad' f' H locs hw B => ?_)
  obtain ⟨rfl, rfl⟩ := hw
  refine p_aast (q := N + 1) (qv := N + 15) (t0 := 3) (k := 5) (ap_at rfl) X hK B (by omega) (ap_at rfl) rfl (by omega) (ap_at rfl) (ap_at rfl) rfl (by decide) (by unfold vp_in; decide) dX2_init_108 (fun H locs B => ?_)
  have B := WA_set B (Nat.le_of_ble_eq_true rfl)
  have B : WB g (aw N ad sz) s.heap (N + 16) (ap N ad [z1, z2, z3, z4, z5, z6, z7, z8, z9, z10, z11, z12, z13, z14, z15, z16]) (ap N (va_up f q (.inr (5, [.ref z1, .ref z2, .ref z3, .int 0, .int 0, .int 0, .ref z4, .ref z5, .ref z6]))) [c_ar (g.2.1 3) 4 (va_up (va_up (va_up (va_up (fun _ => none) 0 (some z7)) 1 (some z8)) 2 (some z9)) 3 (some z10)), c_ar (g.2.1 3) 8 (va_up (va_up (va_up (va_up (va_up (va_up (fun _ => none) 0 (some z11)) 1 (some z12)) 2 (some z13)) 3 (some z14)) 4 (some z15)) 5 (some z16)), c_ar (g.2.1 4) 4 (fun _ => none), .inr (4, [.int 0, .int 0, .int 0]), .inr (4, [.int 0, .int 0, .int 0]), c_dy (2000, 1, 1), .inr (4, [.int 0, .int 0, .int 0]), .inr (4, [.int 0, .int 0, .int 0]), .inr (4, [.int 0, .int 0, .int 0]), .inr (4, [.int 0, .int 0, .int 0]), .inr (4, [.int 0, .int 0, .int 0]), .inr (4, [.int 0, .int 0, .int 0]), .inr (4, [.int 0, .int 0, .int 0]), .inr (4, [.int 0, .int 0, .int 0]), .inr (4, [.int 0, .int 0, .int 0]), .inr (4, [.int 0, .int 0, .int 0])]) H locs := B
  refine lv_iinc (v := 6) (lv' := [(1, .int 6), (0, .ref b)]) hx hb dX2_init_109 hl (k := 0) rfl rfl (by decide) rfl (fun ls hl => ?_)
  refine lv_goto (tgt := 90) hx hb dX2_init_112 (by decide) ?_
  refine lv_iload_n hx hb dX2_init_90 rfl (lv_at hl 0 rfl) ?_
  refine lv_bipush (v := 8) hx hb dX2_init_91 (by decide) ?_
  refine lv_icmp_ge (tgt := 115) hx hb dX2_init_93 (by decide) (fun z => absurd z (by decide)) (fun _ => ?_)
  refine lv_aload_n hx hb dX2_init_96 rfl (lv_at hl 1 rfl) ?_
  refine b_get (q := q) (k := 1) ((ap_lt hq).trans hbq) X hK B rfl in_X2 (by omega) ((ap_lt hq).trans (va_up_self _ _ _)) (by decide) lk_X2_15 rfl rfl dX2_init_97 ?_
  refine lv_iload_n hx hb dX2_init_100 rfl (lv_at hl 0 rfl) ?_
  refine g_new (ci := 4) (fs := [.int 0, .int 0, .int 0]) (k1 := 17) (k2 := 58) X hA hK B rfl in_X1 tyX1_ok lk_X2_9 ia_X1 ii_X1 (by decide +kernel) (Nat.le_of_ble_eq_true rfl) (Nat.le_of_ble_eq_true rfl) (Nat.le_of_ble_eq_true rfl) (Nat.le_of_ble_eq_true rfl) dX2_init_101 (fun z17 H B => ?_)
  have B := WA_push B (by rfl) (by rfl)
  have B : WB g (aw N ad sz) s.heap (N + 17) (ap N ad [z1, z2, z3, z4, z5, z6, z7, z8, z9, z10, z11, z12, z13, z14, z15, z16, z17]) (ap N (va_up f q (.inr (5, [.ref z1, .ref z2, .ref z3, .int 0, .int 0, .int 0, .ref z4, .ref z5, .ref z6]))) [c_ar (g.2.1 3) 4 (va_up (va_up (va_up (va_up (fun _ => none) 0 (some z7)) 1 (some z8)) 2 (some z9)) 3 (some z10)), c_ar (g.2.1 3) 8 (va_up (va_up (va_up (va_up (va_up (va_up (fun _ => none) 0 (some z11)) 1 (some z12)) 2 (some z13)) 3 (some z14)) 4 (some z15)) 5 (some z16)), c_ar (g.2.1 4) 4 (fun _ => none), .inr (4, [.int 0, .int 0, .int 0]), .inr (4, [.int 0, .int 0, .int 0]), c_dy (2000, 1, 1), .inr (4, [.int 0, .int 0, .int 0]), .inr (4, [.int 0, .int 0, .int 0]), .inr (4, [.int 0, .int 0, .int 0]), .inr (4, [.int 0, .int 0, .int 0]), .inr (4, [.int 0, .int 0, .int 0]), .inr (4, [.int 0, .int 0, .int 0]), .inr (4, [.int 0, .int 0, .int 0]), .inr (4, [.int 0, .int 0, .int 0]), .inr (4, [.int 0, .int 0, .int 0]), .inr (4, [.int 0, .int 0, .int 0]), .inr (4, [.int 0, .int 0, .int 0])]) H locs := B
  refine lv_dup hx hb dX2_init_104 rfl ?_
  refine k_v (k := 17) (n := 58) hA B (u_IN (rest := [.ref z17, .int 6, .ref z2]) X (c_X1_init l g (N + 17) (ap N ad [z1, z2, z3, z4, z5, z6, z7, z8, z9, z10, z11, z12, z13, z14, z15, z16, z17]) (ap N (va_up f q (.inr (5, [.ref z1, .ref z2, .ref z3, .int 0, .int 0, .int 0, .ref z4, .ref z5, .ref z6]))) [c_ar (g.2.1 3) 4 (va_up (va_up (va_up (va_up (fun _ => none) 0 (some z7)) 1 (some z8)) 2 (some z9)) 3 (some z10)), c_ar (g.2.1 3) 8 (va_up (va_up (va_up (va_up (va_up (va_up (fun _ => none) 0 (some z11)) 1 (some z12)) 2 (some z13)) 3 (some z14)) 4 (some z15)) 5 (some z16)), c_ar (g.2.1 4) 4 (fun _ => none), .inr (4, [.int 0, .int 0, .int 0]), .inr (4, [.int 0, .int 0, .int 0]), c_dy (2000, 1, 1), .inr (4, [.int 0, .int 0, .int 0]), .inr (4, [.int 0, .int 0, .int 0]), .inr (4, [.int 0, .int 0, .int 0]), .inr (4, [.int 0, .int 0, .int 0]), .inr (4, [.int 0, .int 0, .int 0]), .inr (4, [.int 0, .int 0, .int 0]), .inr (4, [.int 0, .int 0, .int 0]), .inr (4, [.int 0, .int 0, .int 0]), .inr (4, [.int 0, .int 0, .int 0]), .inr (4, [.int 0, .int 0, .int 0]), .inr (4, [.int 0, .int 0, .int 0])]) (N + 16) z17 (by omega) (ap_at rfl) H.size) mw_X1_init rfl md_X1_init rfl lk_X2_24 ⟨(Nat.le_of_ble_eq_true rfl), (Nat.le_of_ble_eq_true rfl)⟩ hA hK hT B hl.1 rfl (Nat.le_of_ble_eq_true rfl) dX2_init_105 (by dsimp only [rm]; omega)) (by dsimp only [rm]; omega) (by dsimp only [rm]; omega) (fun ad' f' H locs hw B => ?_)
  obtain ⟨rfl, rfl⟩ := hw
  refine p_aast (q := N + 1) (qv := N + 16) (t0 := 3) (k := 6) (ap_at rfl) X hK B (by omega) (ap_at rfl) rfl (by omega) (ap_at rfl) (ap_at rfl) rfl (by decide) (by unfold vp_in; decide) dX2_init_108 (fun H locs B => ?_)
  have B := WA_set B (Nat.le_of_ble_eq_true rfl)
  have B : WB g (aw N ad sz) s.heap (N + 17) (ap N ad [z1, z2, z3, z4, z5, z6, z7, z8, z9, z10, z11, z12, z13, z14, z15, z16, z17]) (ap N (va_up f q (.inr (5, [.ref z1, .ref z2, .ref z3, .int 0, .int 0, .int 0, .ref z4, .ref z5, .ref z6]))) [c_ar (g.2.1 3) 4 (va_up (va_up (va_up (va_up (fun _ => none) 0 (some z7)) 1 (some z8)) 2 (some z9)) 3 (some z10)), c_ar (g.2.1 3) 8 (va_up (va_up (va_up (va_up (va_up (va_up (va_up (fun _ => none) 0 (some z11)) 1 (some z12)) 2 (some z13)) 3 (some z14)) 4 (some z15)) 5 (some z16)) 6 (some z17)), c_ar (g.2.1 4) 4 (fun _ => none), .inr (4, [.int 0, .int 0, .int 0]), .inr (4, [.int 0, .int 0, .int 0]), c_dy (2000, 1, 1), .inr (4, [.int 0, .int 0, .int 0]), .inr (4, [.int 0, .int 0, .int 0]), .inr (4, [.int 0, .int 0, .int 0]), .inr (4, [.int 0, .int 0, .int 0]), .inr (4, [.int 0, .int 0, .int 0]), .inr (4, [.int 0, .int 0, .int 0]), .inr (4, [.int 0, .int 0, .int 0]), .inr (4, [.int 0, .int 0, .int 0]), .inr (4, [.int 0, .int 0, .int 0]), .inr (4, [.int 0, .int 0, .int 0]), .inr (4, [.int 0, .int 0, .int 0])]) H locs := B
  refine lv_iinc (v := 7) (lv' := [(1, .int 7), (0, .ref b)]) hx hb dX2_init_109 hl (k := 0) rfl rfl (by decide) rfl (fun ls hl => ?_)
  refine lv_goto (tgt := 90) hx hb dX2_init_112 (by decide) ?_
  refine lv_iload_n hx hb dX2_init_90 rfl (lv_at hl 0 rfl) ?_
  refine lv_bipush (v := 8) hx hb dX2_init_91 (by decide) ?_
  refine lv_icmp_ge (tgt := 115) hx hb dX2_init_93 (by decide) (fun z => absurd z (by decide)) (fun _ => ?_)
  refine lv_aload_n hx hb dX2_init_96 rfl (lv_at hl 1 rfl) ?_
  refine b_get (q := q) (k := 1) ((ap_lt hq).trans hbq) X hK B rfl in_X2 (by omega) ((ap_lt hq).trans (va_up_self _ _ _)) (by decide) lk_X2_15 rfl rfl dX2_init_97 ?_
  refine lv_iload_n hx hb dX2_init_100 rfl (lv_at hl 0 rfl) ?_
  refine g_new (ci := 4) (fs := [.int 0, .int 0, .int 0]) (k1 := 18) (k2 := 61) X hA hK B rfl in_X1 tyX1_ok lk_X2_9 ia_X1 ii_X1 (by decide +kernel) (Nat.le_of_ble_eq_true rfl) (Nat.le_of_ble_eq_true rfl) (Nat.le_of_ble_eq_true rfl) (Nat.le_of_ble_eq_true rfl) dX2_init_101 (fun z18 H B => ?_)
  have B := WA_push B (by rfl) (by rfl)
  have B : WB g (aw N ad sz) s.heap (N + 18) (ap N ad [z1, z2, z3, z4, z5, z6, z7, z8, z9, z10, z11, z12, z13, z14, z15, z16, z17, z18]) (ap N (va_up f q (.inr (5, [.ref z1, .ref z2, .ref z3, .int 0, .int 0, .int 0, .ref z4, .ref z5, .ref z6]))) [c_ar (g.2.1 3) 4 (va_up (va_up (va_up (va_up (fun _ => none) 0 (some z7)) 1 (some z8)) 2 (some z9)) 3 (some z10)), c_ar (g.2.1 3) 8 (va_up (va_up (va_up (va_up (va_up (va_up (va_up (fun _ => none) 0 (some z11)) 1 (some z12)) 2 (some z13)) 3 (some z14)) 4 (some z15)) 5 (some z16)) 6 (some z17)), c_ar (g.2.1 4) 4 (fun _ => none), .inr (4, [.int 0, .int 0, .int 0]), .inr (4, [.int 0, .int 0, .int 0]), c_dy (2000, 1, 1), .inr (4, [.int 0, .int 0, .int 0]), .inr (4, [.int 0, .int 0, .int 0]), .inr (4, [.int 0, .int 0, .int 0]), .inr (4, [.int 0, .int 0, .int 0]), .inr (4, [.int 0, .int 0, .int 0]), .inr (4, [.int 0, .int 0, .int 0]), .inr (4, [.int 0, .int 0, .int 0]), .inr (4, [.int 0, .int 0, .int 0]), .inr (4, [.int 0, .int 0, .int 0]), .inr (4, [.int 0, .int 0, .int 0]), .inr (4, [.int 0, .int 0, .int 0]), .inr (4, [.int 0, .int 0, .int 0])]) H locs := B
  refine lv_dup hx hb dX2_init_104 rfl ?_
  refine k_v (k := 18) (n := 61) hA B (u_IN (rest := [.ref z18, .int 7, .ref z2]) X (c_X1_init l g (N + 18) (ap N ad [z1, z2, z3, z4, z5, z6, z7, z8, z9, z10, z11, z12, z13, z14, z15, z16, z17, z18]) (ap N (va_up f q (.inr (5, [.ref z1, .ref z2, .ref z3, .int 0, .int 0, .int 0, .ref z4, .ref z5, .ref z6]))) [c_ar (g.2.1 3) 4 (va_up (va_up (va_up (va_up (fun _ => none) 0 (some z7)) 1 (some z8)) 2 (some z9)) 3 (some z10)), c_ar (g.2.1 3) 8 (va_up (va_up (va_up (va_up (va_up (va_up (va_up (fun _ => none) 0 (some z11)) 1 (some z12)) 2 (some z13)) 3 (some z14)) 4 (some z15)) 5 (some z16)) 6 (some z17)), c_ar (g.2.1 4) 4 (fun _ => none), .inr (4, [.int 0, .int 0, .int 0]), .inr (4, [.int 0, .int 0, .int 0]), c_dy (2000, 1, 1), .inr (4, [.int 0, .int 0, .int 0]), .inr (4, [.int 0, .int 0, .int 0]), .inr (4, [.int 0, .int 0, .int 0]), .inr (4, [.int 0, .int 0, .int 0]), .inr (4, [.int 0, .int 0, .int 0]), .inr (4, [.int 0, .int 0, .int 0]), .inr (4, [.int 0, .int 0, .int 0]), .inr (4, [.int 0, .int 0, .int 0]), .inr (4, [.int 0, .int 0, .int 0]), .inr (4, [.int 0, .int 0, .int 0]), .inr (4, [.int 0, .int 0, .int 0]), .inr (4, [.int 0, .int 0, .int 0])]) (N + 17) z18 (by omega) (ap_at rfl) H.size) mw_X1_init rfl md_X1_init rfl lk_X2_24 ⟨(Nat.le_of_ble_eq_true rfl), (Nat.le_of_ble_eq_true rfl)⟩ hA hK hT B hl.1 rfl (Nat.le_of_ble_eq_true rfl) dX2_init_105 (by dsimp only [rm]; omega)) (by dsimp only [rm]; omega) (by dsimp only [rm]; omega) (fun ad' f' H locs hw B => ?_)
  obtain ⟨rfl, rfl⟩ := hw
  refine p_aast (q := N + 1) (qv := N + 17) (t0 := 3) (k := 7) (ap_at rfl) X hK B (by omega) (ap_at rfl) rfl (by omega) (ap_at rfl) (ap_at rfl) rfl (by decide) (by unfold vp_in; decide) dX2_init_108 (fun H locs B => ?_)
  have B := WA_set B (Nat.le_of_ble_eq_true rfl)
  have B : WB g (aw N ad sz) s.heap (N + 18) (ap N ad [z1, z2, z3, z4, z5, z6, z7, z8, z9, z10, z11, z12, z13, z14, z15, z16, z17, z18]) (ap N (va_up f q (.inr (5, [.ref z1, .ref z2, .ref z3, .int 0, .int 0, .int 0, .ref z4, .ref z5, .ref z6]))) [c_ar (g.2.1 3) 4 (va_up (va_up (va_up (va_up (fun _ => none) 0 (some z7)) 1 (some z8)) 2 (some z9)) 3 (some z10)), c_ar (g.2.1 3) 8 (va_up (va_up (va_up (va_up (va_up (va_up (va_up (va_up (fun _ => none) 0 (some z11)) 1 (some z12)) 2 (some z13)) 3 (some z14)) 4 (some z15)) 5 (some z16)) 6 (some z17)) 7 (some z18)), c_ar (g.2.1 4) 4 (fun _ => none), .inr (4, [.int 0, .int 0, .int 0]), .inr (4, [.int 0, .int 0, .int 0]), c_dy (2000, 1, 1), .inr (4, [.int 0, .int 0, .int 0]), .inr (4, [.int 0, .int 0, .int 0]), .inr (4, [.int 0, .int 0, .int 0]), .inr (4, [.int 0, .int 0, .int 0]), .inr (4, [.int 0, .int 0, .int 0]), .inr (4, [.int 0, .int 0, .int 0]), .inr (4, [.int 0, .int 0, .int 0]), .inr (4, [.int 0, .int 0, .int 0]), .inr (4, [.int 0, .int 0, .int 0]), .inr (4, [.int 0, .int 0, .int 0]), .inr (4, [.int 0, .int 0, .int 0]), .inr (4, [.int 0, .int 0, .int 0])]) H locs := B
  refine lv_iinc (v := 8) (lv' := [(1, .int 8), (0, .ref b)]) hx hb dX2_init_109 hl (k := 0) rfl rfl (by decide) rfl (fun ls hl => ?_)
  refine lv_goto (tgt := 90) hx hb dX2_init_112 (by decide) ?_
  refine lv_iload_n hx hb dX2_init_90 rfl (lv_at hl 0 rfl) ?_
  refine lv_bipush (v := 8) hx hb dX2_init_91 (by decide) ?_
  refine lv_icmp_ge (tgt := 115) hx hb dX2_init_93 (by decide) (fun _ => ?_) (fun z => absurd (by decide) z)
  refine lv_iconst (v := 0) hx hb dX2_init_115 (by decide) ?_
  refine lv_istore_n (lv' := [(1, .int 0), (0, .ref b)]) hx hb dX2_init_116 rfl hl (by decide) rfl (fun ls hl => ?_)
  refine lv_iload_n hx hb dX2_init_117 rfl (lv_at hl 0 rfl) ?_
  refine lv_iconst (v := 4) hx hb dX2_init_118 (by decide) ?_
  refine lv_icmp_ge (tgt := 141) hx hb dX2_init_119 (by decide) (fun z => absurd z (by decide)) (fun _ => ?_)
  refine lv_aload_n hx hb dX2_init_122 rfl (lv_at hl 1 rfl) ?_
  refine b_get (q := q) (k := 2) ((ap_lt hq).trans hbq) X hK B rfl in_X2 (by omega) ((ap_lt hq).trans (va_up_self _ _ _)) (by decide) lk_X2_20 rfl rfl dX2_init_123 ?_
  refine lv_iload_n hx hb dX2_init_126 rfl (lv_at hl 0 rfl) ?_
  refine g_new (ci := 3) (fs := [.int 0, .int 0, .int 0]) (k1 := 19) (k2 := 64) X hA hK B rfl in_X0 tyX0_ok lk_X2_18 ia_X0 ii_X0 (by decide +kernel) (Nat.le_of_ble_eq_true rfl) (Nat.le_of_ble_eq_true rfl) (Nat.le_of_ble_eq_true rfl) (Nat.le_of_ble_eq_true rfl) dX2_init_127 (fun z19 H B => ?_)
  have B := WA_push B (by rfl) (by rfl)
  have B : WB g (aw N ad sz) s.heap (N + 19) (ap N ad [z1, z2, z3, z4, z5, z6, z7, z8, z9, z10, z11, z12, z13, z14, z15, z16, z17, z18, z19]) (ap N (va_up f q (.inr (5, [.ref z1, .ref z2, .ref z3, .int 0, .int 0, .int 0, .ref z4, .ref z5, .ref z6]))) [c_ar (g.2.1 3) 4 (va_up (va_up (va_up (va_up (fun _ => none) 0 (some z7)) 1 (some z8)) 2 (some z9)) 3 (some z10)), c_ar (g.2.1 3) 8 (va_up (va_up (va_up (va_up (va_up (va_up (va_up (va_up (fun _ => none) 0 (some z11)) 1 (some z12)) 2 (some z13)) 3 (some z14)) 4 (some z15)) 5 (some z16)) 6 (some z17)) 7 (some z18)), c_ar (g.2.1 4) 4 (fun _ => none), .inr (4, [.int 0, .int 0, .int 0]), .inr (4, [.int 0, .int 0, .int 0]), c_dy (2000, 1, 1), .inr (4, [.int 0, .int 0, .int 0]), .inr (4, [.int 0, .int 0, .int 0]), .inr (4, [.int 0, .int 0, .int 0]), .inr (4, [.int 0, .int 0, .int 0]), .inr (4, [.int 0, .int 0, .int 0]), .inr (4, [.int 0, .int 0, .int 0]), .inr (4, [.int 0, .int 0, .int 0]), .inr (4, [.int 0, .int 0, .int 0]), .inr (4, [.int 0, .int 0, .int 0]), .inr (4, [.int 0, .int 0, .int 0]), .inr (4, [.int 0, .int 0, .int 0]), .inr (4, [.int 0, .int 0, .int 0]), .inr (3, [.int 0, .int 0, .int 0])]) H locs := B
  refine lv_dup hx hb dX2_init_130 rfl ?_
  refine k_v (k := 19) (n := 64) hA B (u_IN (rest := [.ref z19, .int 0, .ref z3]) X (c_X0_init l g (N + 19) (ap N ad [z1, z2, z3, z4, z5, z6, z7, z8, z9, z10, z11, z12, z13, z14, z15, z16, z17, z18, z19]) (ap N (va_up f q (.inr (5, [.ref z1, .ref z2, .ref z3, .int 0, .int 0, .int 0, .ref z4, .ref z5, .ref z6]))) [c_ar (g.2.1 3) 4 (va_up (va_up (va_up (va_up (fun _ => none) 0 (some z7)) 1 (some z8)) 2 (some z9)) 3 (some z10)), c_ar (g.2.1 3) 8 (va_up (va_up (va_up (va_up (va_up (va_up (va_up (va_up (fun _ => none) 0 (some z11)) 1 (some z12)) 2 (some z13)) 3 (some z14)) 4 (some z15)) 5 (some z16)) 6 (some z17)) 7 (some z18)), c_ar (g.2.1 4) 4 (fun _ => none), .inr (4, [.int 0, .int 0, .int 0]), .inr (4, [.int 0, .int 0, .int 0]), c_dy (2000, 1, 1), .inr (4, [.int 0, .int 0, .int 0]), .inr (4, [.int 0, .int 0, .int 0]), .inr (4, [.int 0, .int 0, .int 0]), .inr (4, [.int 0, .int 0, .int 0]), .inr (4, [.int 0, .int 0, .int 0]), .inr (4, [.int 0, .int 0, .int 0]), .inr (4, [.int 0, .int 0, .int 0]), .inr (4, [.int 0, .int 0, .int 0]), .inr (4, [.int 0, .int 0, .int 0]), .inr (4, [.int 0, .int 0, .int 0]), .inr (4, [.int 0, .int 0, .int 0]), .inr (4, [.int 0, .int 0, .int 0]), .inr (3, [.int 0, .int 0, .int 0])]) (N + 18) z19 (by omega) (ap_at rfl) (ap_at rfl) H.size) mw_X0_init rfl md_X0_init rfl lk_X2_32 ⟨(Nat.le_of_ble_eq_true rfl), (Nat.le_of_ble_eq_true rfl)⟩ hA hK hT B hl.1 rfl (Nat.le_of_ble_eq_true rfl) dX2_init_131 (by dsimp only [rm]; omega)) (by dsimp only [rm]; omega) (by dsimp only [rm]; omega) (fun ad' f' H locs hw B => ?_)
  obtain ⟨rfl, rfl⟩ := hw
  have B := WA_set B (Nat.le_of_ble_eq_true rfl)
  have B : WB g (aw N ad sz) s.heap (N + 19) (ap N ad [z1, z2, z3, z4, z5, z6, z7, z8, z9, z10, z11, z12, z13, z14, z15, z16, z17, z18, z19]) (ap N (va_up f q (.inr (5, [.ref z1, .ref z2, .ref z3, .int 0, .int 0, .int 0, .ref z4, .ref z5, .ref z6]))) [c_ar (g.2.1 3) 4 (va_up (va_up (va_up (va_up (fun _ => none) 0 (some z7)) 1 (some z8)) 2 (some z9)) 3 (some z10)), c_ar (g.2.1 3) 8 (va_up (va_up (va_up (va_up (va_up (va_up (va_up (va_up (fun _ => none) 0 (some z11)) 1 (some z12)) 2 (some z13)) 3 (some z14)) 4 (some z15)) 5 (some z16)) 6 (some z17)) 7 (some z18)), c_ar (g.2.1 4) 4 (fun _ => none), .inr (4, [.int 0, .int 0, .int 0]), .inr (4, [.int 0, .int 0, .int 0]), c_dy (2000, 1, 1), .inr (4, [.int 0, .int 0, .int 0]), .inr (4, [.int 0, .int 0, .int 0]), .inr (4, [.int 0, .int 0, .int 0]), .inr (4, [.int 0, .int 0, .int 0]), .inr (4, [.int 0, .int 0, .int 0]), .inr (4, [.int 0, .int 0, .int 0]), .inr (4, [.int 0, .int 0, .int 0]), .inr (4, [.int 0, .int 0, .int 0]), .inr (4, [.int 0, .int 0, .int 0]), .inr (4, [.int 0, .int 0, .int 0]), .inr (4, [.int 0, .int 0, .int 0]), .inr (4, [.int 0, .int 0, .int 0]), c_dy (2000, 1, 1)]) H locs := B
  refine p_aast (q := N + 2) (qv := N + 18) (t0 := 4) (k := 0) (ap_at rfl) X hK B (by omega) (ap_at rfl) rfl (by omega) (ap_at rfl) (ap_at rfl) rfl (by decide) (by unfold vp_in; decide) dX2_init_134 (fun H locs B => ?_)
  have B := WA_set B (Nat.le_of_ble_eq_true rfl)
  have B : WB g (aw N ad sz) s.heap (N + 19) (ap N ad [z1, z2, z3, z4, z5, z6, z7, z8, z9, z10, z11, z12, z13, z14, z15, z16, z17, z18, z19]) (ap N (va_up f q (.inr (5, [.ref z1, .ref z2, .ref z3, .int 0, .int 0, .int 0, .ref z4, .ref z5, .ref z6]))) [c_ar (g.2.1 3) 4 (va_up (va_up (va_up (va_up (fun _ => none) 0 (some z7)) 1 (some z8)) 2 (some z9)) 3 (some z10)), c_ar (g.2.1 3) 8 (va_up (va_up (va_up (va_up (va_up (va_up (va_up (va_up (fun _ => none) 0 (some z11)) 1 (some z12)) 2 (some z13)) 3 (some z14)) 4 (some z15)) 5 (some z16)) 6 (some z17)) 7 (some z18)), c_ar (g.2.1 4) 4 (va_up (fun _ => none) 0 (some z19)), .inr (4, [.int 0, .int 0, .int 0]), .inr (4, [.int 0, .int 0, .int 0]), c_dy (2000, 1, 1), .inr (4, [.int 0, .int 0, .int 0]), .inr (4, [.int 0, .int 0, .int 0]), .inr (4, [.int 0, .int 0, .int 0]), .inr (4, [.int 0, .int 0, .int 0]), .inr (4, [.int 0, .int 0, .int 0]), .inr (4, [.int 0, .int 0, .int 0]), .inr (4, [.int 0, .int 0, .int 0]), .inr (4, [.int 0, .int 0, .int 0]), .inr (4, [.int 0, .int 0, .int 0]), .inr (4, [.int 0, .int 0, .int 0]), .inr (4, [.int 0, .int 0, .int 0]), .inr (4, [.int 0, .int 0, .int 0]), c_dy (2000, 1, 1)]) H locs := B
  refine lv_iinc (v := 1) (lv' := [(1, .int 1), (0, .ref b)]) hx hb dX2_init_135 hl (k := 0) rfl rfl (by decide) rfl (fun ls hl => ?_)
  refine lv_goto (tgt := 117) hx hb dX2_init_138 (by decide) ?_
  refine lv_iload_n hx hb dX2_init_117 rfl (lv_at hl 0 rfl) ?_
  refine lv_iconst (v := 4) hx hb dX2_init_118 (by decide) ?_
  refine lv_icmp_ge (tgt := 141) hx hb dX2_init_119 (by decide) (fun z => absurd z (by decide)) (fun _ => ?_)
  refine lv_aload_n hx hb dX2_init_122 rfl (lv_at hl 1 rfl) ?_
  refine b_get (q := q) (k := 2) ((ap_lt hq).trans hbq) X hK B rfl in_X2 (by omega) ((ap_lt hq).trans (va_up_self _ _ _)) (by decide) lk_X2_20 rfl rfl dX2_init_123 ?_
  refine lv_iload_n hx hb dX2_init_126 rfl (lv_at hl 0 rfl) ?_
  refine g_new (ci := 3) (fs := [.int 0, .int 0, .int 0]) (k1 := 20) (k2 := 67) X hA hK B rfl in_X0 tyX0_ok lk_X2_18 ia_X0 ii_X0 (by decide +kernel) (Nat.le_of_ble_eq_true rfl) (Nat.le_of_ble_eq_true rfl) (Nat.le_of_ble_eq_true rfl) (Nat.le_of_ble_eq_true rfl) dX2_init_127 (fun z20 H B => ?_)
  have B := WA_push B (by rfl) (by rfl)
  have B : WB g (aw N ad sz) s.heap (N + 20) (ap N ad [z1, z2, z3, z4, z5, z6, z7, z8, z9, z10, z11, z12, z13, z14, z15, z16, z17, z18, z19, z20]) (ap N (va_up f q (.inr (5, [.ref z1, .ref z2, .ref z3, .int 0, .int 0, .int 0, .ref z4, .ref z5, .ref z6]))) [c_ar (g.2.1 3) 4 (va_up (va_up (va_up (va_up (fun _ => none) 0 (some z7)) 1 (some z8)) 2 (some z9)) 3 (some z10)), c_ar (g.2.1 3) 8 (va_up (va_up (va_up (va_up (va_up (va_up (va_up (va_up (fun _ => none) 0 (some z11)) 1 (some z12)) 2 (some z13)) 3 (some z14)) 4 (some z15)) 5 (some z16)) 6 (some z17)) 7 (some z18)), c_ar (g.2.1 4) 4 (va_up (fun _ => none) 0 (some z19)), .inr (4, [.int 0, .int 0, .int 0]), .inr (4, [.int 0, .int 0, .int 0]), c_dy (2000, 1, 1), .inr (4, [.int 0, .int 0, .int 0]), .inr (4, [.int 0, .int 0, .int 0]), .inr (4, [.int 0, .int 0, .int 0]), .inr (4, [.int 0, .int 0, .int 0]), .inr (4, [.int 0, .int 0, .int 0]), .inr (4, [.int 0, .int 0, .int 0]), .inr (4, [.int 0, .int 0, .int 0]), .inr (4, [.int 0, .int 0, .int 0]), .inr (4, [.int 0, .int 0, .int 0]), .inr (4, [.int 0, .int 0, .int 0]), .inr (4, [.int 0, .int 0, .int 0]), .inr (4, [.int 0, .int 0, .int 0]), c_dy (2000, 1, 1), .inr (3, [.int 0, .int 0, .int 0])]) H locs := B
  refine lv_dup hx hb dX2_init_130 rfl ?_
  refine k_v (k := 20) (n := 67) hA B (u_IN (rest := [.ref z20, .int 1, .ref z3]) X (c_X0_init l g (N + 20) (ap N ad [z1, z2, z3, z4, z5, z6, z7, z8, z9, z10, z11, z12, z13, z14, z15, z16, z17, z18, z19, z20]) (ap N (va_up f q (.inr (5, [.ref z1, .ref z2, .ref z3, .int 0, .int 0, .int 0, .ref z4, .ref z5, .ref z6]))) [c_ar (g.2.1 3) 4 (va_up (va_up (va_up (va_up (fun _ => none) 0 (some z7)) 1 (some z8)) 2 (some z9)) 3 (some z10)), c_ar (g.2.1 3) 8 (va_up (va_up (va_up (va_up (va_up (va_up (va_up (va_up (fun _ => none) 0 (some z11)) 1 (some z12)) 2 (some z13)) 3 (some z14)) 4 (some z15)) 5 (some z16)) 6 (some z17)) 7 (some z18)), c_ar (g.2.1 4) 4 (va_up (fun _ => none) 0 (some z19)), .inr (4, [.int 0, .int 0, .int 0]), .inr (4, [.int 0, .int 0, .int 0]), c_dy (2000, 1, 1), .inr (4, [.int 0, .int 0, .int 0]), .inr (4, [.int 0, .int 0, .int 0]), .inr (4, [.int 0, .int 0, .int 0]), .inr (4, [.int 0, .int 0, .int 0]), .inr (4, [.int 0, .int 0, .int 0]), .inr (4, [.int 0, .int 0, .int 0]), .inr (4, [.int 0, .int 0, .int 0]), .inr (4, [.int 0, .int 0, .int 0]), .inr (4, [.int 0, .int 0, .int 0]), .inr (4, [.int 0, .int 0, .int 0]), .inr (4, [.int 0, .int 0, .int 0]), .inr (4, [.int 0, .int 0, .int 0]), c_dy (2000, 1, 1), .inr (3, [.int 0, .int 0, .int 0])]) (N + 19) z20 (by omega) (ap_at rfl) (ap_at rfl) H.size) mw_X0_init rfl md_X0_init rfl lk_X2_32 ⟨(Nat.le_of_ble_eq_true rfl), (Nat.le_of_ble_eq_true rfl)⟩ hA hK hT B hl.1 rfl (Nat.le_of_ble_eq_true rfl) dX2_init_131 (by dsimp only [rm]; omega)) (by dsimp only [rm]; omega) (by dsimp only [rm]; omega) (fun ad' f' H locs hw B => ?_)
  obtain ⟨rfl, rfl⟩ := hw
  have B := WA_set B (Nat.le_of_ble_eq_true rfl)
  have B : WB g (aw N ad sz) s.heap (N + 20) (ap N ad [z1, z2, z3, z4, z5, z6, z7, z8, z9, z10, z11, z12, z13, z14, z15, z16, z17, z18, z19, z20]) (ap N (va_up f q (.inr (5, [.ref z1, .ref z2, .ref z3, .int 0, .int 0, .int 0, .ref z4, .ref z5, .ref z6]))) [c_ar (g.2.1 3) 4 (va_up (va_up (va_up (va_up (fun _ => none) 0 (some z7)) 1 (some z8)) 2 (some z9)) 3 (some z10)), c_ar (g.2.1 3) 8 (va_up (va_up (va_up (va_up (va_up (va_up (va_up (va_up (fun _ => none) 0 (some z11)) 1 (some z12)) 2 (some z13)) 3 (some z14)) 4 (some z15)) 5 (some z16)) 6 (some z17)) 7 (some z18)), c_ar (g.2.1 4) 4 (va_up (fun _ => none) 0 (some z19)), .inr (4, [.int 0, .int 0, .int 0]), .inr (4, [.int 0, .int 0, .int 0]), c_dy (2000, 1, 1), .inr (4, [.int 0, .int 0, .int 0]), .inr (4, [.int 0, .int 0, .int 0]), .inr (4, [.int 0, .int 0, .int 0]), .inr (4, [.int 0, .int 0, .int 0]), .inr (4, [.int 0, .int 0, .int 0]), .inr (4, [.int 0, .int 0, .int 0]), .inr (4, [.int 0, .int 0, .int 0]), .inr (4, [.int 0, .int 0, .int 0]), .inr (4, [.int 0, .int 0, .int 0]), .inr (4, [.int 0, .int 0, .int 0]), .inr (4, [.int 0, .int 0, .int 0]), .inr (4, [.int 0, .int 0, .int 0]), c_dy (2000, 1, 1), c_dy (2000, 1, 1)]) H locs := B
  refine p_aast (q := N + 2) (qv := N + 19) (t0 := 4) (k := 1) (ap_at rfl) X hK B (by omega) (ap_at rfl) rfl (by omega) (ap_at rfl) (ap_at rfl) rfl (by decide) (by unfold vp_in; decide) dX2_init_134 (fun H locs B => ?_)
  have B := WA_set B (Nat.le_of_ble_eq_true rfl)
  have B : WB g (aw N ad sz) s.heap (N + 20) (ap N ad [z1, z2, z3, z4, z5, z6, z7, z8, z9, z10, z11, z12, z13, z14, z15, z16, z17, z18, z19, z20]) (ap N (va_up f q (.inr (5, [.ref z1, .ref z2, .ref z3, .int 0, .int 0, .int 0, .ref z4, .ref z5, .ref z6]))) [c_ar (g.2.1 3) 4 (va_up (va_up (va_up (va_up (fun _ => none) 0 (some z7)) 1 (some z8)) 2 (some z9)) 3 (some z10)), c_ar (g.2.1 3) 8 (va_up (va_up (va_up (va_up (va_up (va_up (va_up (va_up (fun _ => none) 0 (some z11)) 1 (some z12)) 2 (some z13)) 3 (some z14)) 4 (some z15)) 5 (some z16)) 6 (some z17)) 7 (some z18)), c_ar (g.2.1 4) 4 (va_up (va_up (fun _ => none) 0 (some z19)) 1 (some z20)), .inr (4, [.int 0, .int 0, .int 0]), .inr (4, [.int 0, .int 0, .int 0]), c_dy (2000, 1, 1), .inr (4, [.int 0, .int 0, .int 0]), .inr (4, [.int 0, .int 0, .int 0]), .inr (4, [.int 0, .int 0, .int 0]), .inr (4, [.int 0, .int 0, .int 0]), .inr (4, [.int 0, .int 0, .int 0]), .inr (4, [.int 0, .int 0, .int 0]), .inr (4, [.int 0, .int 0, .int 0]), .inr (4, [.int 0, .int 0, .int 0]), .inr (4, [.int 0, .int 0, .int 0]), .inr (4, [.int 0, .int 0, .int 0]), .inr (4, [.int 0, .int 0, .int 0]), .inr (4, [.int 0, .int 0, .int 0]), c_dy (2000, 1, 1), c_dy (2000, 1, 1)]) H locs := B
  refine lv_iinc (v := 2) (lv' := [(1, .int 2), (0, .ref b)]) hx hb dX2_init_135 hl (k := 0) rfl rfl (by decide) rfl (fun ls hl => ?_)
  refine lv_goto (tgt := 117) hx hb dX2_init_138 (by decide) ?_
  refine lv_iload_n hx hb dX2_init_117 rfl (lv_at hl 0 rfl) ?_
  refine lv_iconst (v := 4) hx hb dX2_init_118 (by decide) ?_
  refine lv_icmp_ge (tgt := 141) hx hb dX2_init_119 (by decide) (fun z => absurd z (by decide)) (fun _ => ?_)
  refine lv_aload_n hx hb dX2_init_122 rfl (lv_at hl 1 rfl) ?_
  refine b_get (q := q) (k := 2) ((ap_lt hq).trans hbq) X hK B rfl in_X2 (by omega) ((ap_lt hq).trans (va_up_self _ _ _)) (by decide) lk_X2_20 rfl rfl dX2_init_123 ?_
  refine lv_iload_n hx hb dX2_init_126 rfl (lv_at hl 0 rfl) ?_
  refine g_new (ci := 3) (fs := [.int 0, .int 0, .int 0]) (k1 := 21) (k2 := 70) X hA hK B rfl in_X0 tyX0_ok lk_X2_18 ia_X0 ii_X0 (by decide +kernel) (Nat.le_of_ble_eq_true rfl) (Nat.le_of_ble_eq_true rfl) (Nat.le_of_ble_eq_true rfl) (Nat.le_of_ble_eq_true rfl) dX2_init_127 (fun z21 H B => ?_)
  have B := WA_push B (by rfl) (by rfl)
  have B : WB g (aw N ad sz) s.heap (N + 21) (ap N ad [z1, z2, z3, z4, z5, z6, z7, z8, z9, z10, z11, z12, z13, z14, z15, z16, z17, z18, z19, z20, z21]) (ap N (va_up f q (.inr (5, [.ref z1, .ref z2, .ref z3, .int 0, .int 0, .int 0, .ref z4, .ref z5, .ref z6]))) [c_ar (g.2.1 3) 4 (va_up (va_up (va_up (va_up (fun _ => none) 0 (some z7)) 1 (some z8)) 2 (some z9)) 3 (some z10)), c_ar (g.2.1 3) 8 (va_up (va_up (va_up (va_up (va_up (va_up (va_up (va_up (fun _ => none) 0 (some z11)) 1 (some z12)) 2 (some z13)) 3 (some z14)) 4 (some z15)) 5 (some z16)) 6 (some z17)) 7 (some z18)), c_ar (g.2.1 4) 4 (va_up (va_up (fun _ => none) 0 (some z19)) 1 (some z20)), .inr (4, [.int 0, .int 0, .int 0]), .inr (4, [.int 0, .int 0, .int 0]), c_dy (2000, 1, 1), .inr (4, [.int 0, .int 0, .int 0]), .inr (4, [.int 0, .int 0, .int 0]), .inr (4, [.int 0, .int 0, .int 0]), .inr (4, [.int 0, .int 0, .int 0]), .inr (4, [.int 0, .int 0, .int 0]), .inr (4, [.int 0, .int 0, .int 0]), .inr (4, [.int 0, .int 0, .int 0]), .inr (4, [.int 0, .int 0, .int 0]), .inr (4, [.int 0, .int 0, .int 0]), .inr (4, [.int 0, .int 0, .int 0]), .inr (4, [.int 0, .int 0, .int 0]), .inr (4, [.int 0, .int 0, .int 0]), c_dy (2000, 1, 1), c_dy (2000, 1, 1), .inr (3, [.int 0, .int 0, .int 0])]) H locs := B
  refine lv_dup hx hb dX2_init_130 rfl ?_
  refine k_v (k := 21) (n := 70) hA B (u_IN (rest := [.ref z21, .int 2, .ref z3]) X (c_X0_init l g (N + 21) (ap N ad [z1, z2, z3, z4, z5, z6, z7, z8, z9, z10, z11, z12, z13, z14, z15, z16, z17, z18, z19, z20, z21]) (ap N (va_up f q (.inr (5, [.ref z1, .ref z2, .ref z3, .int 0, .int 0, .int 0, .ref z4, .ref z5, .ref z6]))) [c_ar (g.2.1 3) 4 (va_up (va_up (va_up (va_up (fun _ => none) 0 (some z7)) 1 (some z8)) 2 (some z9)) 3 (some z10)), c_ar (g.2.1 3) 8 (va_up (va_up (va_up (va_up (va_up (va_up (va_up (va_up (fun _ => none) 0 (some z11)) 1 (some z12)) 2 (some z13)) 3 (some z14)) 4 (some z15)) 5 (some z16)) 6 (some z17)) 7 (some z18)), c_ar (g.2.1 4) 4 (va_up (va_up (fun _ => none) 0 (some z19)) 1 (some z20)), .inr (4, [.int 0, .int 0, .int 0]), .inr (4, [.int 0, .int 0, .int 0]), c_dy (2000, 1, 1), .inr (4, [.int 0, .int 0, .int 0]), .inr (4, [.int 0, .int 0, .int 0]), .inr (4, [.int 0, .int 0, .int 0]), .inr (4, [.int 0, .int 0, .int 0]), .inr (4, [.int 0, .int 0, .int 0]), .inr (4, [.int 0, .int 0, .int 0]), .inr (4, [.int 0, .int 0, .int 0]), .inr (4, [.int 0, .int 0, .int 0]), .inr (4, [.int 0, .int 0, .int 0]), .inr (4, [.int 0, .int 0, .int 0]), .inr (4, [.int 0, .int 0, .int 0]), .inr (4, [.int 0, .int 0, .int 0]), c_dy (2000, 1, 1), c_dy (2000, 1, 1), .inr (3, [.int 0, .int 0, .int 0])]) (N + 20) z21 (by omega) (ap_at rfl) (ap_at rfl) H.size) mw_X0_init rfl md_X0_init rfl lk_X2_32 ⟨(Nat.le_of_ble_eq_true rfl), (Nat.le_of_ble_eq_true rfl)⟩ hA hK hT B hl.1 rfl (Nat.le_of_ble_eq_true rfl) dX2_init_131 (by dsimp only [rm]; omega)) (by dsimp only [rm]; omega) (by dsimp only [rm]; omega) (fun ad' f' H locs hw B => ?_)
  obtain ⟨rfl, rfl⟩ := hw
  have B := WA_set B (Nat.le_of_ble_eq_true rfl)
  have B : WB g (aw N ad sz) s.heap (N + 21) (ap N ad [z1, z2, z3, z4, z5, z6, z7, z8, z9, z10, z11, z12, z13, z14, z15, z16, z17, z18, z19, z20, z21]) (ap N (va_up f q (.inr (5, [.ref z1, .ref z2, .ref z3, .int 0, .int 0, .int 0, .ref z4, .ref z5, .ref z6]))) [c_ar (g.2.1 3) 4 (va_up (va_up (va_up (va_up (fun _ => none) 0 (some z7)) 1 (some z8)) 2 (some z9)) 3 (some z10)), c_ar (g.2.1 3) 8 (va_up (va_up (va_up (va_up (va_up (va_up (va_up (va_up (fun _ => none) 0 (some z11)) 1 (some z12)) 2 (some z13)) 3 (some z14)) 4 (some z15)) 5 (some z16)) 6 (some z17)) 7 (some z18)), c_ar (g.2.1 4) 4 (va_up (va_up (fun _ => none) 0 (some z19)) 1 (some z20)), .inr (4, [.int 0, .int 0, .int 0]), .inr (4, [.int 0, .int 0, .int 0]), c_dy (2000, 1, 1), .inr (4, [.int 0, .int 0, .int 0]), .inr (4, [.int 0, .int 0, .int 0]), .inr (4, [.int 0, .int 0, .int 0]), .inr (4, [.int 0, .int 0, .int 0]), .inr (4, [.int 0, .int 0, .int 0]), .inr (4, [.int 0, .int 0, .int 0]), .inr (4, [.int 0, .int 0, .int 0]), .inr (4, [.int 0, .int 0, .int 0]), .inr (4, [.int 0, .int 0, .int 0]), .inr (4, [.int 0, .int 0, .int 0]), .inr (4, [.int 0, .int 0, .int 0]), .inr (4, [.int 0, .int 0, .int 0]), c_dy (2000, 1, 1), c_dy (2000, 1, 1), c_dy (2000, 1, 1)]) H locs := B
  refine p_aast (q := N + 2) (qv := N + 20) (t0 := 4) (k := 2) (ap_at rfl) X hK B (by omega) (ap_at rfl) rfl (by omega) (ap_at rfl) (ap_at rfl) rfl (by decide) (by unfold vp_in; decide) dX2_init_134 (fun H locs B => ?_)
  have B := WA_set B (Nat.le_of_ble_eq_true rfl)
  have B : WB g (aw N ad sz) s.heap (N + 21) (ap N ad [z1, z2, z3, z4, z5, z6, z7, z8, z9, z10, z11, z12, z13, z14, z15, z16, z17, z18, z19, z20, z21]) (ap N (va_up f q (.inr (5, [.ref z1, .ref z2, .ref z3, .int 0, .int 0, .int 0, .ref z4, .ref z5, .ref z6]))) [c_ar (g.2.1 3) 4 (va_up (va_up (va_up (va_up (fun _ => none) 0 (some z7)) 1 (some z8)) 2 (some z9)) 3 (some z10)), c_ar (g.2.1 3) 8 (va_up (va_up (va_up (va_up (va_up (va_up (va_up (va_up (fun _ => none) 0 (some z11)) 1 (some z12)) 2 (some z13)) 3 (some z14)) 4 (some z15)) 5 (some z16)) 6 (some z17)) 7 (some z18)), c_ar (g.2.1 4) 4 (va_up (va_up (va_up (fun _ => none) 0 (some z19)) 1 (some z20)) 2 (some z21)), .inr (4, [.int 0, .int 0, .int 0]), .inr (4, [.int 0, .int 0, .int 0]), c_dy (2000, 1, 1), .inr (4, [.int 0, .int 0, .int 0]), .inr (4, [.int 0, .int 0, .int 0]), .inr (4, [.int 0, .int 0, .int 0]), .inr (4, [.int 0, .int 0, .int 0]), .inr (4, [.int 0, .int 0, .int 0]), .inr (4, [.int 0, .int 0, .int 0]), .inr (4, [.int 0, .int 0, .int 0]), .inr (4, [.int 0, .int 0, .int 0]), .inr (4, [.int 0, .int 0, .int 0]), .inr (4, [.int 0, .int 0, .int 0]), .inr (4, [.int 0, .int 0, .int 0]), .inr (4, [.int 0, .int 0, .int 0]), c_dy (2000, 1, 1), c_dy (2000, 1, 1), c_dy (2000, 1, 1)]) H locs := B
  refine lv_iinc (v := 3) (lv' := [(1, .int 3), (0, .ref b)]) hx hb dX2_init_135 hl (k := 0) rfl rfl (by decide) rfl (fun ls hl => ?_)
  refine lv_goto (tgt := 117) hx hb dX2_init_138 (by decide) ?_
  refine lv_iload_n hx hb dX2_init_117 rfl (lv_at hl 0 rfl) ?_
  refine lv_iconst (v := 4) hx hb dX2_init_118 (by decide) ?_
  refine lv_icmp_ge (tgt := 141) hx hb dX2_init_119 (by decide) (fun z => absurd z (by decide)) (fun _ => ?_)
  refine lv_aload_n hx hb dX2_init_122 rfl (lv_at hl 1 rfl) ?_
  refine b_get (q := q) (k := 2) ((ap_lt hq).trans hbq) X hK B rfl in_X2 (by omega) ((ap_lt hq).trans (va_up_self _ _ _)) (by decide) lk_X2_20 rfl rfl dX2_init_123 ?_
  refine lv_iload_n hx hb dX2_init_126 rfl (lv_at hl 0 rfl) ?_
  refine g_new (ci := 3) (fs := [.int 0, .int 0, .int 0]) (k1 := 22) (k2 := 73) X hA hK B rfl in_X0 tyX0_ok lk_X2_18 ia_X0 ii_X0 (by decide +kernel) (Nat.le_of_ble_eq_true rfl) (Nat.le_of_ble_eq_true rfl) (Nat.le_of_ble_eq_true rfl) (Nat.le_of_ble_eq_true rfl) dX2_init_127 (fun z22 H B => ?_)
  have B := WA_push B (by rfl) (by rfl)
  have B : WB g (aw N ad sz) s.heap (N + 22) (ap N ad [z1, z2, z3, z4, z5, z6, z7, z8, z9, z10, z11, z12, z13, z14, z15, z16, z17, z18, z19, z20, z21, z22]) (ap N (va_up f q (.inr (5, [.ref z1, .ref z2, .ref z3, .int 0, .int 0, .int 0, .ref z4, .ref z5, .ref z6]))) [c_ar (g.2.1 3) 4 (va_up (va_up (va_up (va_up (fun _ => none) 0 (some z7)) 1 (some z8)) 2 (some z9)) 3 (some z10)), c_ar (g.2.1 3) 8 (va_up (va_up (va_up (va_up (va_up (va_up (va_up (va_up (fun _ => none) 0 (some z11)) 1 (some z12)) 2 (some z13)) 3 (some z14)) 4 (some z15)) 5 (some z16)) 6 (some z17)) 7 (some z18)), c_ar (g.2.1 4) 4 (va_up (va_up (va_up (fun _ => none) 0 (some z19)) 1 (some z20)) 2 (some z21)), .inr (4, [.int 0, .int 0, .int 0]), .inr (4, [.int 0, .int 0, .int 0]), c_dy (2000, 1, 1), .inr (4, [.int 0, .int 0, .int 0]), .inr (4, [.int 0, .int 0, .int 0]), .inr (4, [.int 0, .int 0, .int 0]), .inr (4, [.int 0, .int 0, .int 0]), .inr (4, [.int 0, .int 0, .int 0]), .inr (4, [.int 0, .int 0, .int 0]), .inr (4, [.int 0, .int 0, .int 0]), .inr (4, [.int 0, .int 0, .int 0]), .inr (4, [.int 0, .int 0, .int 0]), .inr (4, [.int 0, .int 0, .int 0]), .inr (4, [.int 0, .int 0, .int 0]), .inr (4, [.int 0, .int 0, .int 0]), c_dy (2000, 1, 1), c_dy (2000, 1, 1), c_dy (2000, 1, 1), .inr (3, [.int 0, .int 0, .int 0])]) H locs := B
  refine lv_dup hx hb dX2_init_130 rfl ?_
  refine k_v (k := 22) (n := 73) hA B (u_IN (rest := [.ref z22, .int 3, .ref z3]) X (c_X0_init l g (N + 22) (ap N ad [z1, z2, z3, z4, z5, z6, z7, z8, z9, z10, z11, z12, z13, z14, z15, z16, z17, z18, z19, z20, z21, z22]) (ap N (va_up f q (.inr (5, [.ref z1, .ref z2, .ref z3, .int 0, .int 0, .int 0, .ref z4, .ref z5, .ref z6]))) [c_ar (g.2.1 3) 4 (va_up (va_up (va_up (va_up (fun _ => none) 0 (some z7)) 1 (some z8)) 2 (some z9)) 3 (some z10)), c_ar (g.2.1 3) 8 (va_up (va_up (va_up (va_up (va_up (va_up (va_up (va_up (fun _ => none) 0 (some z11)) 1 (some z12)) 2 (some z13)) 3 (some z14)) 4 (some z15)) 5 (some z16)) 6 (some z17)) 7 (some z18)), c_ar (g.2.1 4) 4 (va_up (va_up (va_up (fun _ => none) 0 (some z19)) 1 (some z20)) 2 (some z21)), .inr (4, [.int 0, .int 0, .int 0]), .inr (4, [.int 0, .int 0, .int 0]), c_dy (2000, 1, 1), .inr (4, [.int 0, .int 0, .int 0]), .inr (4, [.int 0, .int 0, .int 0]), .inr (4, [.int 0, .int 0, .int 0]), .inr (4, [.int 0, .int 0, .int 0]), .inr (4, [.int 0, .int 0, .int 0]), .inr (4, [.int 0, .int 0, .int 0]), .inr (4, [.int 0, .int 0, .int 0]), .inr (4, [.int 0, .int 0, .int 0]), .inr (4, [.int 0, .int 0, .int 0]), .inr (4, [.int 0, .int 0, .int 0]), .inr (4, [.int 0, .int 0, .int 0]), .inr (4, [.int 0, .int 0, .int 0]), c_dy (2000, 1, 1), c_dy (2000, 1, 1), c_dy (2000, 1, 1), .inr (3, [.int 0, .int 0, .int 0])]) (N + 21) z22 (by omega) (ap_at rfl) (ap_at rfl) H.size) mw_X0_init rfl md_X0_init rfl lk_X2_32 ⟨(Nat.le_of_ble_eq_true rfl), (Nat.le_of_ble_eq_true rfl)⟩ hA hK hT B hl.1 rfl (Nat.le_of_ble_eq_true rfl) dX2_init_131 (by dsimp only [rm]; omega)) (by dsimp only [rm]; omega) (by dsimp only [rm]; omega) (fun ad' f' H locs hw B => ?_)
  obtain ⟨rfl, rfl⟩ := hw
  have B := WA_set B (Nat.le_of_ble_eq_true rfl)
  have B : WB g (aw N ad sz) s.heap (N + 22) (ap N ad [z1, z2, z3, z4, z5, z6, z7, z8, z9, z10, z11, z12, z13, z14, z15, z16, z17, z18, z19, z20, z21, z22]) (ap N (va_up f q (.inr (5, [.ref z1, .ref z2, .ref z3, .int 0, .int 0, .int 0, .ref z4, .ref z5, .ref z6]))) [c_ar (g.2.1 3) 4 (va_up (va_up (va_up (va_up (fun _ => none) 0 (some z7)) 1 (some z8)) 2 (some z9)) 3 (some z10)), c_ar (g.2.1 3) 8 (va_up (va_up (va_up (va_up (va_up (va_up (va_up (va_up (fun _ => none) 0 (some z11)) 1 (some z12)) 2 (some z13)) 3 (some z14)) 4 (some z15)) 5 (some z16)) 6 (some z17)) 7 (some z18)), c_ar (g.2.1 4) 4 (va_up (va_up (va_up (fun _ => none) 0 (some z19)) 1 (some z20)) 2 (some z21)), .inr (4, [.int 0, .int 0, .int 0]), .inr (4, [.int 0, .int 0, .int 0]), c_dy (2000, 1, 1), .inr (4, [.int 0, .int 0, .int 0]), .inr (4, [.int 0, .int 0, .int 0]), .inr (4, [.int 0, .int 0, .int 0]), .inr (4, [.int 0, .int 0, .int 0]), .inr (4, [.int 0, .int 0, .int 0]), .inr (4, [.int 0, .int 0, .int 0]), .inr (4, [.int 0, .int 0, .int 0]), .inr (4, [.int 0, .int 0, .int 0]), .inr (4, [.int 0, .int 0, .int 0]), .inr (4, [.int 0, .int 0, .int 0]), .inr (4, [.int 0, .int 0, .int 0]), .inr (4, [.int 0, .int 0, .int 0]), c_dy (2000, 1, 1), c_dy (2000, 1, 1), c_dy (2000, 1, 1), c_dy (2000, 1, 1)]) H locs := B
  refine p_aast (q := N + 2) (qv := N + 21) (t0 := 4) (k := 3) (ap_at rfl) X hK B (by omega) (ap_at rfl) rfl (by omega) (ap_at rfl) (ap_at rfl) rfl (by decide) (by unfold vp_in; decide) dX2_init_134 (fun H locs B => ?_)
  have B := WA_set B (Nat.le_of_ble_eq_true rfl)
  have B : WB g (aw N ad sz) s.heap (N + 22) (ap N ad [z1, z2, z3, z4, z5, z6, z7, z8, z9, z10, z11, z12, z13, z14, z15, z16, z17, z18, z19, z20, z21, z22]) (ap N (va_up f q (.inr (5, [.ref z1, .ref z2, .ref z3, .int 0, .int 0, .int 0, .ref z4, .ref z5, .ref z6]))) [c_ar (g.2.1 3) 4 (va_up (va_up (va_up (va_up (fun _ => none) 0 (some z7)) 1 (some z8)) 2 (some z9)) 3 (some z10)), c_ar (g.2.1 3) 8 (va_up (va_up (va_up (va_up (va_up (va_up (va_up (va_up (fun _ => none) 0 (some z11)) 1 (some z12)) 2 (some z13)) 3 (some z14)) 4 (some z15)) 5 (some z16)) 6 (some z17)) 7 (some z18)), c_ar (g.2.1 4) 4 (va_up (va_up (va_up (va_up (fun _ => none) 0 (some z19)) 1 (some z20)) 2 (some z21)) 3 (some z22)), .inr (4, [.int 0, .int 0, .int 0]), .inr (4, [.int 0, .int 0, .int 0]), c_dy (2000, 1, 1), .inr (4, [.int 0, .int 0, .int 0]), .inr (4, [.int 0, .int 0, .int 0]), .inr (4, [.int 0, .int 0, .int 0]), .inr (4, [.int 0, .int 0, .int 0]), .inr (4, [.int 0, .int 0, .int 0]), .inr (4, [.int 0, .int 0, .int 0]), .inr (4, [.int 0, .int 0, .int 0]), .inr (4, [.int 0, .int 0, .int 0]), .inr (4, [.int 0, .int 0, .int 0]), .inr (4, [.int 0, .int 0, .int 0]), .inr (4, [.int 0, .int 0, .int 0]), .inr (4, [.int 0, .int 0, .int 0]), c_dy (2000, 1, 1), c_dy (2000, 1, 1), c_dy (2000, 1, 1), c_dy (2000, 1, 1)]) H locs := B
  refine lv_iinc (v := 4) (lv' := [(1, .int 4), (0, .ref b)]) hx hb dX2_init_135 hl (k := 0) rfl rfl (by decide) rfl (fun ls hl => ?_)
  refine lv_goto (tgt := 117) hx hb dX2_init_138 (by decide) ?_
  refine lv_iload_n hx hb dX2_init_117 rfl (lv_at hl 0 rfl) ?_
  refine lv_iconst (v := 4) hx hb dX2_init_118 (by decide) ?_
  refine lv_icmp_ge (tgt := 141) hx hb dX2_init_119 (by decide) (fun _ => ?_) (fun z => absurd (by decide) z)
  exact rt_v X hr (ap N ad [z1, z2, z3, z4, z5, z6, z7, z8, z9, z10, z11, z12, z13, z14, z15, z16, z17, z18, z19, z20, z21, z22], ap N (va_up f q (.inr (5, [.ref z1, .ref z2, .ref z3, .int 0, .int 0, .int 0, .ref z4, .ref z5, .ref z6]))) [c_ar (g.2.1 3) 4 (va_up (va_up (va_up (va_up (fun _ => none) 0 (some z7)) 1 (some z8)) 2 (some z9)) 3 (some z10)), c_ar (g.2.1 3) 8 (va_up (va_up (va_up (va_up (va_up (va_up (va_up (va_up (fun _ => none) 0 (some z11)) 1 (some z12)) 2 (some z13)) 3 (some z14)) 4 (some z15)) 5 (some z16)) 6 (some z17)) 7 (some z18)), c_ar (g.2.1 4) 4 (va_up (va_up (va_up (va_up (fun _ => none) 0 (some z19)) 1 (some z20)) 2 (some z21)) 3 (some z22)), .inr (4, [.int 0, .int 0, .int 0]), .inr (4, [.int 0, .int 0, .int 0]), c_dy (2000, 1, 1), .inr (4, [.int 0, .int 0, .int 0]), .inr (4, [.int 0, .int 0, .int 0]), .inr (4, [.int 0, .int 0, .int 0]), .inr (4, [.int 0, .int 0, .int 0]), .inr (4, [.int 0, .int 0, .int 0]), .inr (4, [.int 0, .int 0, .int 0]), .inr (4, [.int 0, .int 0, .int 0]), .inr (4, [.int 0, .int 0, .int 0]), .inr (4, [.int 0, .int 0, .int 0]), .inr (4, [.int 0, .int 0, .int 0]), .inr (4, [.int 0, .int 0, .int 0]), .inr (4, [.int 0, .int 0, .int 0]), c_dy (2000, 1, 1), c_dy (2000, 1, 1), c_dy (2000, 1, 1), c_dy (2000, 1, 1)]) B (PO_of B) ⟨(fun i => [z1, z2, z3, z4, z5, z6, z7, z8, z9, z10, z11, z12, z13, z14, z15, z16, z17, z18, z19, z20, z21, z22].getD i 0), rfl, rfl⟩ (Nat.le_of_ble_eq_true rfl) (Nat.le_of_ble_eq_true rfl) dX2_init_141
def md_new (g : GG) (z : Nat → Nat) (h : Nat → Option Nat) : List va_E := [c_ar (g.2.1 2) 4 h, c_row g (0, 0, 0), c_row g (0, 0, 0), c_row g (0, 0, 0), c_row g (0, 0, 0), .inr (2, [.int 0, .ref (g.2.2 3), .int 0]), c_ar (g.2.1 2) 4 (fn4 (fun i => z (7 + i))), c_row g (2000, 1, 1), c_row g (2000, 1, 1), c_row g (2000, 1, 1), c_row g (2000, 1, 1)]
theorem md_r4 {z : Nat → Nat} (r : Nat → Nat) (h0 : z 1 = r 0) (h1 : z 2 = r 1) (h2 : z 3 = r 2) (h3 : z 4 = r 3) : ∀ i, i < 4 → (fun i => if i < 4 then some (r i) else none) i = some (z (1 + i)) := by
  intro i hi
  show (if i < 4 then some (r i) else none) = _
  rw [if_pos hi]
  have : i = 0 ∨ i = 1 ∨ i = 2 ∨ i = 3 := by omega
  rcases this with rfl | rfl | rfl | rfl
  · rw [← h0]
  · rw [← h1]
  · rw [← h2]
  · rw [← h3]
set_option maxHeartbeats 16000000 in
set_option maxRecDepth 100000 in
theorem c_X4_init (l : Launch) (g : GG) (N : Nat) (ad : Nat → Nat) (f : Nat → va_E) (q b : Nat) (hq : q < N) (hbq : ad q = b) (hf : f q = .inr (7, [.int 0, .null, .null, .null, .int 0, .int 0])) : KV l yX4_init cX4_init 2 (rm 4 11 35) g [.ref b] N ad f (N + 11) (fun ad' f' => ∃ (z : Nat → Nat) (h : Nat → Option Nat), (∀ i, i < 4 → h i = some (z (1 + i))) ∧ ap N ad [z 0, z 1, z 2, z 3, z 4, z 5, z 6, z 7, z 8, z 9, z 10] = ad' ∧ ap N (va_up f q (.inr (7, [.int 0, .ref (z 0), .ref (z 5), .ref (z 6), .int 0, .int 0]))) (md_new g z h) = f') := by
  intro sz
  refine mt_start (by decide) (Nat.le_of_ble_eq_true rfl) ?_
  intro p e0 s m9 args below meth c hsz X hr hnam hA hK hT H locs B ls hl
  obtain ⟨hx, hb, hml, hown, hts, hlocks⟩ := id X
  have hl : lv_has ls 2 [(0, .ref b)] := hl
  refine lv_aload_n hx hb dX4_init_0 rfl (lv_at hl 0 rfl) ?_
  refine b_obj (R := (rm 4 11 35)) (rest := []) X hl.1 lk_X4_1 dX4_init_1 (Nat.le_of_ble_eq_true rfl) (Nat.le_of_ble_eq_true rfl) ?_
  have B := WA_lo0 B hf
  refine lv_aload_n hx hb dX4_init_4 rfl (lv_at hl 0 rfl) ?_
  refine lv_iconst (v := 4) hx hb dX4_init_5 (by decide) ?_
  refine lv_iconst (v := 3) hx hb dX4_init_6 (by decide) ?_
  refine p_mna X hA hK hT B lk_X4_9 (Nat.le_of_ble_eq_true rfl) (Nat.le_of_ble_eq_true rfl) dX4_init_7 (fun z1 r H B => ?_)
  have B : WB g (aw N ad sz) s.heap (N + 5) (ap N ad [z1, r 0, r 1, r 2, r 3]) (ap N (va_up f q (.inr (7, [.int 0, .null, .null, .null, .int 0, .int 0]))) [c_ar (g.2.1 2) 4 (fun i => if i < 4 then some (r i) else none), c_row g (0, 0, 0), c_row g (0, 0, 0), c_row g (0, 0, 0), c_row g (0, 0, 0)]) H locs := B
  refine b_putF (q := q) (k := 1) ((ap_lt hq).trans hbq) X hnam hK B rfl in_X4 tyX4_ok nmX4 (by omega) ((ap_lt hq).trans (va_up_self _ _ _)) (by decide) lk_X4_11 rfl rfl rfl rfl rfl rfl (Nat.le_of_ble_eq_true rfl) dX4_init_11 (fun H locs B => ?_)
  have B := WA_lo B hq
  have B : WB g (aw N ad sz) s.heap (N + 5) (ap N ad [z1, r 0, r 1, r 2, r 3]) (ap N (va_up f q (.inr (7, [.int 0, .ref z1, .null, .null, .int 0, .int 0]))) [c_ar (g.2.1 2) 4 (fun i => if i < 4 then some (r i) else none), c_row g (0, 0, 0), c_row g (0, 0, 0), c_row g (0, 0, 0), c_row g (0, 0, 0)]) H locs := B
  refine lv_aload_n hx hb dX4_init_14 rfl (lv_at hl 0 rfl) ?_
  refine g_new (ci := 2) (fs := [.int 0, .null, .int 0]) (k1 := 6) (k2 := 19) X hA hK B rfl in_Jx4a65c tyJx4a65c_ok lk_X4_14 ia_Jx4a65c ii_Jx4a65c (by decide +kernel) (Nat.le_of_ble_eq_true rfl) (Nat.le_of_ble_eq_true rfl) (Nat.le_of_ble_eq_true rfl) (Nat.le_of_ble_eq_true rfl) dX4_init_15 (fun z2 H B => ?_)
  have B := WA_push B (by rfl) (by rfl)
  have B : WB g (aw N ad sz) s.heap (N + 6) (ap N ad [z1, r 0, r 1, r 2, r 3, z2]) (ap N (va_up f q (.inr (7, [.int 0, .ref z1, .null, .null, .int 0, .int 0]))) [c_ar (g.2.1 2) 4 (fun i => if i < 4 then some (r i) else none), c_row g (0, 0, 0), c_row g (0, 0, 0), c_row g (0, 0, 0), c_row g (0, 0, 0), .inr (2, [.int 0, .null, .int 0])]) H locs := B
  refine lv_dup hx hb dX4_init_18 rfl ?_
  refine k_v (k := 6) (n := 19) hA B (b_I (rest := [.ref z2, .ref b]) X (c_Jx4a65c_init_da8c8 l g (N + 6) (ap N ad [z1, r 0, r 1, r 2, r 3, z2]) (ap N (va_up f q (.inr (7, [.int 0, .ref z1, .null, .null, .int 0, .int 0]))) [c_ar (g.2.1 2) 4 (fun i => if i < 4 then some (r i) else none), c_row g (0, 0, 0), c_row g (0, 0, 0), c_row g (0, 0, 0), c_row g (0, 0, 0), .inr (2, [.int 0, .null, .int 0])]) (N + 5) z2 (by omega) (ap_at rfl) (ap_at rfl) H.size) mw_Jx4a65c_init_da8c8 rfl md_Jx4a65c_init_da8c8 rfl lk_X4_16 ⟨(Nat.le_of_ble_eq_true rfl), (Nat.le_of_ble_eq_true rfl)⟩ hA hK hT B hl.1 rfl (Nat.le_of_ble_eq_true rfl) dX4_init_19 (by dsimp only [rm]; omega)) (by dsimp only [rm]; omega) (by dsimp only [rm]; omega) (fun ad' f' H locs hw B => ?_)
  obtain ⟨rfl, rfl⟩ := hw
  have B := WA_set B (Nat.le_of_ble_eq_true rfl)
  have B : WB g (aw N ad sz) s.heap (N + 6) (ap N ad [z1, r 0, r 1, r 2, r 3, z2]) (ap N (va_up f q (.inr (7, [.int 0, .ref z1, .null, .null, .int 0, .int 0]))) [c_ar (g.2.1 2) 4 (fun i => if i < 4 then some (r i) else none), c_row g (0, 0, 0), c_row g (0, 0, 0), c_row g (0, 0, 0), c_row g (0, 0, 0), .inr (2, [.int 0, .ref (g.2.2 3), .int 0])]) H locs := B
  refine b_putF (q := q) (k := 2) ((ap_lt hq).trans hbq) X hnam hK B rfl in_X4 tyX4_ok nmX4 (by omega) ((ap_lt hq).trans (va_up_self _ _ _)) (by decide) lk_X4_17 rfl rfl rfl rfl rfl rfl (Nat.le_of_ble_eq_true rfl) dX4_init_22 (fun H locs B => ?_)
  have B := WA_lo B hq
  have B : WB g (aw N ad sz) s.heap (N + 6) (ap N ad [z1, r 0, r 1, r 2, r 3, z2]) (ap N (va_up f q (.inr (7, [.int 0, .ref z1, .ref z2, .null, .int 0, .int 0]))) [c_ar (g.2.1 2) 4 (fun i => if i < 4 then some (r i) else none), c_row g (0, 0, 0), c_row g (0, 0, 0), c_row g (0, 0, 0), c_row g (0, 0, 0), .inr (2, [.int 0, .ref (g.2.2 3), .int 0])]) H locs := B
  refine lv_aload_n hx hb dX4_init_25 rfl (lv_at hl 0 rfl) ?_
  refine lv_iconst (v := 4) hx hb dX4_init_26 (by decide) ?_
  refine p_anewR (k := 4) X hA hK hT B lk_X4_21 (by decide) (by decide) (by decide) (Nat.le_of_ble_eq_true rfl) (Nat.le_of_ble_eq_true rfl) dX4_init_27 (fun z3 H B => ?_)
  have B := WA_push B (by rfl) (by rfl)
  have B : WB g (aw N ad sz) s.heap (N + 7) (ap N ad [z1, r 0, r 1, r 2, r 3, z2, z3]) (ap N (va_up f q (.inr (7, [.int 0, .ref z1, .ref z2, .null, .int 0, .int 0]))) [c_ar (g.2.1 2) 4 (fun i => if i < 4 then some (r i) else none), c_row g (0, 0, 0), c_row g (0, 0, 0), c_row g (0, 0, 0), c_row g (0, 0, 0), .inr (2, [.int 0, .ref (g.2.2 3), .int 0]), c_ar (g.2.1 2) 4 (fun _ => none)]) H locs := B
  refine b_putF (q := q) (k := 3) ((ap_lt hq).trans hbq) X hnam hK B rfl in_X4 tyX4_ok nmX4 (by omega) ((ap_lt hq).trans (va_up_self _ _ _)) (by decide) lk_X4_23 rfl rfl rfl rfl rfl rfl (Nat.le_of_ble_eq_true rfl) dX4_init_30 (fun H locs B => ?_)
  have B := WA_lo B hq
  have B : WB g (aw N ad sz) s.heap (N + 7) (ap N ad [z1, r 0, r 1, r 2, r 3, z2, z3]) (ap N (va_up f q (.inr (7, [.int 0, .ref z1, .ref z2, .ref z3, .int 0, .int 0]))) [c_ar (g.2.1 2) 4 (fun i => if i < 4 then some (r i) else none), c_row g (0, 0, 0), c_row g (0, 0, 0), c_row g (0, 0, 0), c_row g (0, 0, 0), .inr (2, [.int 0, .ref (g.2.2 3), .int 0]), c_ar (g.2.1 2) 4 (fun _ => none)]) H locs := B
  refine lv_iconst (v := 0) hx hb dX4_init_33 (by decide) ?_
  refine lv_istore_n (lv' := [(1, .int 0), (0, .ref b)]) hx hb dX4_init_34 rfl hl (by decide) rfl (fun ls hl => ?_)
  refine lv_iload_n hx hb dX4_init_35 rfl (lv_at hl 0 rfl) ?_
  refine lv_iconst (v := 4) hx hb dX4_init_36 (by decide) ?_
  refine lv_icmp_ge (tgt := 69) hx hb dX4_init_37 (by decide) (fun z => absurd z (by decide)) (fun _ => ?_)
  refine lv_aload_n hx hb dX4_init_40 rfl (lv_at hl 1 rfl) ?_
  refine b_get (q := q) (k := 3) ((ap_lt hq).trans hbq) X hK B rfl in_X4 (by omega) ((ap_lt hq).trans (va_up_self _ _ _)) (by decide) lk_X4_23 rfl rfl dX4_init_41 ?_
  refine lv_iload_n hx hb dX4_init_44 rfl (lv_at hl 0 rfl) ?_
  refine lv_iconst (v := 3) hx hb dX4_init_45 (by decide) ?_
  refine h_new3 (cz := 8) (sz := 26) X hA hK B (Nat.le_of_ble_eq_true rfl) (Nat.le_of_ble_eq_true rfl) (Nat.le_of_ble_eq_true rfl) (Nat.le_of_ble_eq_true rfl) dX4_init_46 (fun z4 H B => ?_)
  have B := WA_push B (by rfl) (by rfl)
  have B : WB g (aw N ad sz) s.heap (N + 8) (ap N ad [z1, r 0, r 1, r 2, r 3, z2, z3, z4]) (ap N (va_up f q (.inr (7, [.int 0, .ref z1, .ref z2, .ref z3, .int 0, .int 0]))) [c_ar (g.2.1 2) 4 (fun i => if i < 4 then some (r i) else none), c_row g (0, 0, 0), c_row g (0, 0, 0), c_row g (0, 0, 0), c_row g (0, 0, 0), .inr (2, [.int 0, .ref (g.2.2 3), .int 0]), c_ar (g.2.1 2) 4 (fun _ => none), c_row g (0, 0, 0)]) H locs := B
  refine lv_dup hx hb dX4_init_48 rfl ?_
  refine lv_iconst (v := 0) hx hb dX4_init_49 (by decide) ?_
  refine lv_sipush (v := 2000) hx hb dX4_init_50 (by decide) ?_
  refine b_iast (q := N + 7) (ap_at rfl) X hK B (by omega) (ap_at rfl) (by unfold vp_in; decide) dX4_init_53 (fun H locs B => ?_)
  rw [show ((0 : Int32)).toNatClampNeg = 0 from rfl, rw3_s0] at B
  have B := WA_set B (Nat.le_of_ble_eq_true rfl)
  have B : WB g (aw N ad sz) s.heap (N + 8) (ap N ad [z1, r 0, r 1, r 2, r 3, z2, z3, z4]) (ap N (va_up f q (.inr (7, [.int 0, .ref z1, .ref z2, .ref z3, .int 0, .int 0]))) [c_ar (g.2.1 2) 4 (fun i => if i < 4 then some (r i) else none), c_row g (0, 0, 0), c_row g (0, 0, 0), c_row g (0, 0, 0), c_row g (0, 0, 0), .inr (2, [.int 0, .ref (g.2.2 3), .int 0]), c_ar (g.2.1 2) 4 (fun _ => none), c_row g (2000, 0, 0)]) H locs := B
  refine lv_dup hx hb dX4_init_54 rfl ?_
  refine lv_iconst (v := 1) hx hb dX4_init_55 (by decide) ?_
  refine lv_iconst (v := 1) hx hb dX4_init_56 (by decide) ?_
  refine b_iast (q := N + 7) (ap_at rfl) X hK B (by omega) (ap_at rfl) (by unfold vp_in; decide) dX4_init_57 (fun H locs B => ?_)
  rw [show ((1 : Int32)).toNatClampNeg = 1 from rfl, rw3_s1] at B
  have B := WA_set B (Nat.le_of_ble_eq_true rfl)
  have B : WB g (aw N ad sz) s.heap (N + 8) (ap N ad [z1, r 0, r 1, r 2, r 3, z2, z3, z4]) (ap N (va_up f q (.inr (7, [.int 0, .ref z1, .ref z2, .ref z3, .int 0, .int 0]))) [c_ar (g.2.1 2) 4 (fun i => if i < 4 then some (r i) else none), c_row g (0, 0, 0), c_row g (0, 0, 0), c_row g (0, 0, 0), c_row g (0, 0, 0), .inr (2, [.int 0, .ref (g.2.2 3), .int 0]), c_ar (g.2.1 2) 4 (fun _ => none), c_row g (2000, 1, 0)]) H locs := B
  refine lv_dup hx hb dX4_init_58 rfl ?_
  refine lv_iconst (v := 2) hx hb dX4_init_59 (by decide) ?_
  refine lv_iconst (v := 1) hx hb dX4_init_60 (by decide) ?_
  refine b_iast (q := N + 7) (ap_at rfl) X hK B (by omega) (ap_at rfl) (by unfold vp_in; decide) dX4_init_61 (fun H locs B => ?_)
  rw [show ((2 : Int32)).toNatClampNeg = 2 from rfl, rw3_s2] at B
  have B := WA_set B (Nat.le_of_ble_eq_true rfl)
  have B : WB g (aw N ad sz) s.heap (N + 8) (ap N ad [z1, r 0, r 1, r 2, r 3, z2, z3, z4]) (ap N (va_up f q (.inr (7, [.int 0, .ref z1, .ref z2, .ref z3, .int 0, .int 0]))) [c_ar (g.2.1 2) 4 (fun i => if i < 4 then some (r i) else none), c_row g (0, 0, 0), c_row g (0, 0, 0), c_row g (0, 0, 0), c_row g (0, 0, 0), .inr (2, [.int 0, .ref (g.2.2 3), .int 0]), c_ar (g.2.1 2) 4 (fun _ => none), c_row g (2000, 1, 1)]) H locs := B
  refine b_aast (q := N + 6) (qv := N + 7) (ap_at rfl) X hK hT B (by omega) (ap_at rfl) (by omega) (ap_at rfl) (ap_at rfl) (by unfold vp_in; decide) dX4_init_62 (fun H locs B => ?_)
  have B := WA_set B (Nat.le_of_ble_eq_true rfl)
  have B : WB g (aw N ad sz) s.heap (N + 8) (ap N ad [z1, r 0, r 1, r 2, r 3, z2, z3, z4]) (ap N (va_up f q (.inr (7, [.int 0, .ref z1, .ref z2, .ref z3, .int 0, .int 0]))) [c_ar (g.2.1 2) 4 (fun i => if i < 4 then some (r i) else none), c_row g (0, 0, 0), c_row g (0, 0, 0), c_row g (0, 0, 0), c_row g (0, 0, 0), .inr (2, [.int 0, .ref (g.2.2 3), .int 0]), c_ar (g.2.1 2) 4 (va_up (fun _ => none) 0 (some z4)), c_row g (2000, 1, 1)]) H locs := B
  refine lv_iinc (v := 1) (lv' := [(1, .int 1), (0, .ref b)]) hx hb dX4_init_63 hl (k := 0) rfl rfl (by decide) rfl (fun ls hl => ?_)
  refine lv_goto (tgt := 35) hx hb dX4_init_66 (by decide) ?_
  refine lv_iload_n hx hb dX4_init_35 rfl (lv_at hl 0 rfl) ?_
  refine lv_iconst (v := 4) hx hb dX4_init_36 (by decide) ?_
  refine lv_icmp_ge (tgt := 69) hx hb dX4_init_37 (by decide) (fun z => absurd z (by decide)) (fun _ => ?_)
  refine lv_aload_n hx hb dX4_init_40 rfl (lv_at hl 1 rfl) ?_
  refine b_get (q := q) (k := 3) ((ap_lt hq).trans hbq) X hK B rfl in_X4 (by omega) ((ap_lt hq).trans (va_up_self _ _ _)) (by decide) lk_X4_23 rfl rfl dX4_init_41 ?_
  refine lv_iload_n hx hb dX4_init_44 rfl (lv_at hl 0 rfl) ?_
  refine lv_iconst (v := 3) hx hb dX4_init_45 (by decide) ?_
  refine h_new3 (cz := 9) (sz := 29) X hA hK B (Nat.le_of_ble_eq_true rfl) (Nat.le_of_ble_eq_true rfl) (Nat.le_of_ble_eq_true rfl) (Nat.le_of_ble_eq_true rfl) dX4_init_46 (fun z5 H B => ?_)
  have B := WA_push B (by rfl) (by rfl)
  have B : WB g (aw N ad sz) s.heap (N + 9) (ap N ad [z1, r 0, r 1, r 2, r 3, z2, z3, z4, z5]) (ap N (va_up f q (.inr (7, [.int 0, .ref z1, .ref z2, .ref z3, .int 0, .int 0]))) [c_ar (g.2.1 2) 4 (fun i => if i < 4 then some (r i) else none), c_row g (0, 0, 0), c_row g (0, 0, 0), c_row g (0, 0, 0), c_row g (0, 0, 0), .inr (2, [.int 0, .ref (g.2.2 3), .int 0]), c_ar (g.2.1 2) 4 (va_up (fun _ => none) 0 (some z4)), c_row g (2000, 1, 1), c_row g (0, 0, 0)]) H locs := B
  refine lv_dup hx hb dX4_init_48 rfl ?_
  refine lv_iconst (v := 0) hx hb dX4_init_49 (by decide) ?_
  refine lv_sipush (v := 2000) hx hb dX4_init_50 (by decide) ?_
  refine b_iast (q := N + 8) (ap_at rfl) X hK B (by omega) (ap_at rfl) (by unfold vp_in; decide) dX4_init_53 (fun H locs B => ?_)
  rw [show ((0 : Int32)).toNatClampNeg = 0 from rfl, rw3_s0] at B
  have B := WA_set B (Nat.le_of_ble_eq_true rfl)
  have B : WB g (aw N ad sz) s.heap (N + 9) (ap N ad [z1, r 0, r 1, r 2, r 3, z2, z3, z4, z5]) (ap N (va_up f q (.inr (7, [.int 0, .ref z1, .ref z2, .ref z3, .int 0, .int 0]))) [c_ar (g.2.1 2) 4 (fun i => if i < 4 then some (r i) else none), c_row g (0, 0, 0), c_row g (0, 0, 0), c_row g (0, 0, 0), c_row g (0, 0, 0), .inr (2, [.int 0, .ref (g.2.2 3), .int 0]), c_ar (g.2.1 2) 4 (va_up (fun _ => none) 0 (some z4)), c_row g (2000, 1, 1), c_row g (2000, 0, 0)]) H locs := B
  refine lv_dup hx hb dX4_init_54 rfl ?_
  refine lv_iconst (v := 1) hx hb dX4_init_55 (by decide) ?_
  refine lv_iconst (v := 1) hx hb dX4_init_56 (by decide) ?_
  refine b_iast (q := N + 8) (ap_at rfl) X hK B (by omega) (ap_at rfl) (by unfold vp_in; decide) dX4_init_57 (fun H locs B => ?_)
  rw [show ((1 : Int32)).toNatClampNeg = 1 from rfl, rw3_s1] at B
  have B := WA_set B (Nat.le_of_ble_eq_true rfl)
  have B : WB g (aw N ad sz) s.heap (N + 9) (ap N ad [z1, r 0, r 1, r 2, r 3, z2, z3, z4, z5]) (ap N (va_up f q (.inr (7, [.int 0, .ref z1, .ref z2, .ref z3, .int 0, .int 0]))) [c_ar (g.2.1 2) 4 (fun i => if i < 4 then some (r i) else none), c_row g (0, 0, 0), c_row g (0, 0, 0), c_row g (0, 0, 0), c_row g (0, 0, 0), .inr (2, [.int 0, .ref (g.2.2 3), .int 0]), c_ar (g.2.1 2) 4 (va_up (fun _ => none) 0 (some z4)), c_row g (2000, 1, 1), c_row g (2000, 1, 0)]) H locs := B
  refine lv_dup hx hb dX4_init_58 rfl ?_
  refine lv_iconst (v := 2) hx hb dX4_init_59 (by decide) ?_
  refine lv_iconst (v := 1) hx hb dX4_init_60 (by decide) ?_
  refine b_iast (q := N + 8) (ap_at rfl) X hK B (by omega) (ap_at rfl) (by unfold vp_in; decide) dX4_init_61 (fun H locs B => ?_)
  rw [show ((2 : Int32)).toNatClampNeg = 2 from rfl, rw3_s2] at B
  have B := WA_set B (Nat.le_of_ble_eq_true rfl)
  have B : WB g (aw N ad sz) s.heap (N + 9) (ap N ad [z1, r 0, r 1, r 2, r 3, z2, z3, z4, z5]) (ap N (va_up f q (.inr (7, [.int 0, .ref z1, .ref z2, .ref z3, .int 0, .int 0]))) [c_ar (g.2.1 2) 4 (fun i => if i < 4 then some (r i) else none), c_row g (0, 0, 0), c_row g (0, 0, 0), c_row g (0, 0, 0), c_row g (0, 0, 0), .inr (2, [.int 0, .ref (g.2.2 3), .int 0]), c_ar (g.2.1 2) 4 (va_up (fun _ => none) 0 (some z4)), c_row g (2000, 1, 1), c_row g (2000, 1, 1)]) H locs := B
  refine b_aast (q := N + 6) (qv := N + 8) (ap_at rfl) X hK hT B (by omega) (ap_at rfl) (by omega) (ap_at rfl) (ap_at rfl) (by unfold vp_in; decide) dX4_init_62 (fun H locs B => ?_)
  have B := WA_set B (Nat.le_of_ble_eq_true rfl)
  have B : WB g (aw N ad sz) s.heap (N + 9) (ap N ad [z1, r 0, r 1, r 2, r 3, z2, z3, z4, z5]) (ap N (va_up f q (.inr (7, [.int 0, .ref z1, .ref z2, .ref z3, .int 0, .int 0]))) [c_ar (g.2.1 2) 4 (fun i => if i < 4 then some (r i) else none), c_row g (0, 0, 0), c_row g (0, 0, 0), c_row g (0, 0, 0), c_row g (0, 0, 0), .inr (2, [.int 0, .ref (g.2.2 3), .int 0]), c_ar (g.2.1 2) 4 (va_up (va_up (fun _ => none) 0 (some z4)) 1 (some z5)), c_row g (2000, 1, 1), c_row g (2000, 1, 1)]) H locs := B
  refine lv_iinc (v := 2) (lv' := [(1, .int 2), (0, .ref b)]) hx hb dX4_init_63 hl (k := 0) rfl rfl (by decide) rfl (fun ls hl => ?_)
  refine lv_goto (tgt := 35) hx hb dX4_init_66 (by decide) ?_
  refine lv_iload_n hx hb dX4_init_35 rfl (lv_at hl 0 rfl) ?_
  refine lv_iconst (v := 4) hx hb dX4_init_36 (by decide) ?_
  refine lv_icmp_ge (tgt := 69) hx hb dX4_init_37 (by decide) (fun z => absurd z (by decide)) (fun _ => ?_)
  refine lv_aload_n hx hb dX4_init_40 rfl (lv_at hl 1 rfl) ?_
  refine b_get (q := q) (k := 3) ((ap_lt hq).trans hbq) X hK B rfl in_X4 (by omega) ((ap_lt hq).trans (va_up_self _ _ _)) (by decide) lk_X4_23 rfl rfl dX4_init_41 ?_
  refine lv_iload_n hx hb dX4_init_44 rfl (lv_at hl 0 rfl) ?_
  refine lv_iconst (v := 3) hx hb dX4_init_45 (by decide) ?_
  refine h_new3 (cz := 10) (sz := 32) X hA hK B (Nat.le_of_ble_eq_true rfl) (Nat.le_of_ble_eq_true rfl) (Nat.le_of_ble_eq_true rfl) (Nat.le_of_ble_eq_true rfl) dX4_init_46 (fun z6 H B => ?_)
  have B := WA_push B (by rfl) (by rfl)
  have B : WB g (aw N ad sz) s.heap (N + 10) (ap N ad [z1, r 0, r 1, r 2, r 3, z2, z3, z4, z5, z6]) (ap N (va_up f q (.inr (7, [.int 0, .ref z1, .ref z2, .ref z3, .int 0, .int 0]))) [c_ar (g.2.1 2) 4 (fun i => if i < 4 then some (r i) else none), c_row g (0, 0, 0), c_row g (0, 0, 0), c_row g (0, 0, 0), c_row g (0, 0, 0), .inr (2, [.int 0, .ref (g.2.2 3), .int 0]), c_ar (g.2.1 2) 4 (va_up (va_up (fun _ => none) 0 (some z4)) 1 (some z5)), c_row g (2000, 1, 1), c_row g (2000, 1, 1), c_row g (0, 0, 0)]) H locs := B
  refine lv_dup hx hb dX4_init_48 rfl ?_
  refine lv_iconst (v := 0) hx hb dX4_init_49 (by decide) ?_
  refine lv_sipush (v := 2000) hx hb dX4_init_50 (by decide) ?_
  refine b_iast (q := N + 9) (ap_at rfl) X hK B (by omega) (ap_at rfl) (by unfold vp_in; decide) dX4_init_53 (fun H locs B => ?_)
  rw [show ((0 : Int32)).toNatClampNeg = 0 from rfl, rw3_s0] at B
  have B := WA_set B (Nat.le_of_ble_eq_true rfl)
  have B : WB g (aw N ad sz) s.heap (N + 10) (ap N ad [z1, r 0, r 1, r 2, r 3, z2, z3, z4, z5, z6]) (ap N (va_up f q (.inr (7, [.int 0, .ref z1, .ref z2, .ref z3, .int 0, .int 0]))) [c_ar (g.2.1 2) 4 (fun i => if i < 4 then some (r i) else none), c_row g (0, 0, 0), c_row g (0, 0, 0), c_row g (0, 0, 0), c_row g (0, 0, 0), .inr (2, [.int 0, .ref (g.2.2 3), .int 0]), c_ar (g.2.1 2) 4 (va_up (va_up (fun _ => none) 0 (some z4)) 1 (some z5)), c_row g (2000, 1, 1), c_row g (2000, 1, 1), c_row g (2000, 0, 0)]) H locs := B
  refine lv_dup hx hb dX4_init_54 rfl ?_
  refine lv_iconst (v := 1) hx hb dX4_init_55 (by decide) ?_
  refine lv_iconst (v := 1) hx hb dX4_init_56 (by decide) ?_
  refine b_iast (q := N + 9) (ap_at rfl) X hK B (by omega) (ap_at rfl) (by unfold vp_in; decide) dX4_init_57 (fun H locs B => ?_)
  rw [show ((1 : Int32)).toNatClampNeg = 1 from rfl, rw3_s1] at B
  have B := WA_set B (Nat.le_of_ble_eq_true rfl)
  have B : WB g (aw N ad sz) s.heap (N + 10) (ap N ad [z1, r 0, r 1, r 2, r 3, z2, z3, z4, z5, z6]) (ap N (va_up f q (.inr (7, [.int 0, .ref z1, .ref z2, .ref z3, .int 0, .int 0]))) [c_ar (g.2.1 2) 4 (fun i => if i < 4 then some (r i) else none), c_row g (0, 0, 0), c_row g (0, 0, 0), c_row g (0, 0, 0), c_row g (0, 0, 0), .inr (2, [.int 0, .ref (g.2.2 3), .int 0]), c_ar (g.2.1 2) 4 (va_up (va_up (fun _ => none) 0 (some z4)) 1 (some z5)), c_row g (2000, 1, 1), c_row g (2000, 1, 1), c_row g (2000, 1, 0)]) H locs := B
  refine lv_dup hx hb dX4_init_58 rfl ?_
  refine lv_iconst (v := 2) hx hb dX4_init_59 (by decide) ?_
  refine lv_iconst (v := 1) hx hb dX4_init_60 (by decide) ?_
  refine b_iast (q := N + 9) (ap_at rfl) X hK B (by omega) (ap_at rfl) (by unfold vp_in; decide) dX4_init_61 (fun H locs B => ?_)
  rw [show ((2 : Int32)).toNatClampNeg = 2 from rfl, rw3_s2] at B
  have B := WA_set B (Nat.le_of_ble_eq_true rfl)
  have B : WB g (aw N ad sz) s.heap (N + 10) (ap N ad [z1, r 0, r 1, r 2, r 3, z2, z3, z4, z5, z6]) (ap N (va_up f q (.inr (7, [.int 0, .ref z1, .ref z2, .ref z3, .int 0, .int 0]))) [c_ar (g.2.1 2) 4 (fun i => if i < 4 then some (r i) else none), c_row g (0, 0, 0), c_row g (0, 0, 0), c_row g (0, 0, 0), c_row g (0, 0, 0), .inr (2, [.int 0, .ref (g.2.2 3), .int 0]), c_ar (g.2.1 2) 4 (va_up (va_up (fun _ => none) 0 (some z4)) 1 (some z5)), c_row g (2000, 1, 1), c_row g (2000, 1, 1), c_row g (2000, 1, 1)]) H locs := B
  refine b_aast (q := N + 6) (qv := N + 9) (ap_at rfl) X hK hT B (by omega) (ap_at rfl) (by omega) (ap_at rfl) (ap_at rfl) (by unfold vp_in; decide) dX4_init_62 (fun H locs B => ?_)
  have B := WA_set B (Nat.le_of_ble_eq_true rfl)
  have B : WB g (aw N ad sz) s.heap (N + 10) (ap N ad [z1, r 0, r 1, r 2, r 3, z2, z3, z4, z5, z6]) (ap N (va_up f q (.inr (7, [.int 0, .ref z1, .ref z2, .ref z3, .int 0, .int 0]))) [c_ar (g.2.1 2) 4 (fun i => if i < 4 then some (r i) else none), c_row g (0, 0, 0), c_row g (0, 0, 0), c_row g (0, 0, 0), c_row g (0, 0, 0), .inr (2, [.int 0, .ref (g.2.2 3), .int 0]), c_ar (g.2.1 2) 4 (va_up (va_up (va_up (fun _ => none) 0 (some z4)) 1 (some z5)) 2 (some z6)), c_row g (2000, 1, 1), c_row g (2000, 1, 1), c_row g (2000, 1, 1)]) H locs := B
  refine lv_iinc (v := 3) (lv' := [(1, .int 3), (0, .ref b)]) hx hb dX4_init_63 hl (k := 0) rfl rfl (by decide) rfl (fun ls hl => ?_)
  refine lv_goto (tgt := 35) hx hb dX4_init_66 (by decide) ?_
  refine lv_iload_n hx hb dX4_init_35 rfl (lv_at hl 0 rfl) ?_
  refine lv_iconst (v := 4) hx hb dX4_init_36 (by decide) ?_
  refine lv_icmp_ge (tgt := 69) hx hb dX4_init_37 (by decide) (fun z => absurd z (by decide)) (fun _ => ?_)
  refine lv_aload_n hx hb dX4_init_40 rfl (lv_at hl 1 rfl) ?_
  refine b_get (q := q) (k := 3) ((ap_lt hq).trans hbq) X hK B rfl in_X4 (by omega) ((ap_lt hq).trans (va_up_self _ _ _)) (by decide) lk_X4_23 rfl rfl dX4_init_41 ?_
  refine lv_iload_n hx hb dX4_init_44 rfl (lv_at hl 0 rfl) ?_
  refine lv_iconst (v := 3) hx hb dX4_init_45 (by decide) ?_
  refine h_new3 (cz := 11) (sz := 35) X hA hK B (Nat.le_of_ble_eq_true rfl) (Nat.le_of_ble_eq_true rfl) (Nat.le_of_ble_eq_true rfl) (Nat.le_of_ble_eq_true rfl) dX4_init_46 (fun z7 H B => ?_)
  have B := WA_push B (by rfl) (by rfl)
  have B : WB g (aw N ad sz) s.heap (N + 11) (ap N ad [z1, r 0, r 1, r 2, r 3, z2, z3, z4, z5, z6, z7]) (ap N (va_up f q (.inr (7, [.int 0, .ref z1, .ref z2, .ref z3, .int 0, .int 0]))) [c_ar (g.2.1 2) 4 (fun i => if i < 4 then some (r i) else none), c_row g (0, 0, 0), c_row g (0, 0, 0), c_row g (0, 0, 0), c_row g (0, 0, 0), .inr (2, [.int 0, .ref (g.2.2 3), .int 0]), c_ar (g.2.1 2) 4 (va_up (va_up (va_up (fun _ => none) 0 (some z4)) 1 (some z5)) 2 (some z6)), c_row g (2000, 1, 1), c_row g (2000, 1, 1), c_row g (2000, 1, 1), c_row g (0, 0, 0)]) H locs := B
  refine lv_dup hx hb dX4_init_48 rfl ?_
  refine lv_iconst (v := 0) hx hb dX4_init_49 (by decide) ?_
  refine lv_sipush (v := 2000) hx hb dX4_init_50 (by decide) ?_
  refine b_iast (q := N + 10) (ap_at rfl) X hK B (by omega) (ap_at rfl) (by unfold vp_in; decide) dX4_init_53 (fun H locs B => ?_)
  rw [show ((0 : Int32)).toNatClampNeg = 0 from rfl, rw3_s0] at B
  have B := WA_set B (Nat.le_of_ble_eq_true rfl)
  have B : WB g (aw N ad sz) s.heap (N + 11) (ap N ad [z1, r 0, r 1, r 2, r 3, z2, z3, z4, z5, z6, z7]) (ap N (va_up f q (.inr (7, [.int 0, .ref z1, .ref z2, .ref z3, .int 0, .int 0]))) [c_ar (g.2.1 2) 4 (fun i => if i < 4 then some (r i) else none), c_row g (0, 0, 0), c_row g (0, 0, 0), c_row g (0, 0, 0), c_row g (0, 0, 0), .inr (2, [.int 0, .ref (g.2.2 3), .int 0]), c_ar (g.2.1 2) 4 (va_up (va_up (va_up (fun _ => none) 0 (some z4)) 1 (some z5)) 2 (some z6)), c_row g (2000, 1, 1), c_row g (2000, 1, 1), c_row g (2000, 1, 1), c_row g (2000, 0, 0)]) H locs := B
  refine lv_dup hx hb dX4_init_54 rfl ?_
  refine lv_iconst (v := 1) hx hb dX4_init_55 (by decide) ?_
  refine lv_iconst (v := 1) hx hb dX4_init_56 (by decide) ?_
  refine b_iast (q := N + 10) (ap_at rfl) X hK B (by omega) (ap_at rfl) (by unfold vp_in; decide) dX4_init_57 (fun H locs B => ?_)
  rw [show ((1 : Int32)).toNatClampNeg = 1 from rfl, rw3_s1] at B
  have B := WA_set B (Nat.le_of_ble_eq_true rfl)
  have B : WB g (aw N ad sz) s.heap (N + 11) (ap N ad [z1, r 0, r 1, r 2, r 3, z2, z3, z4, z5, z6, z7]) (ap N (va_up f q (.inr (7, [.int 0, .ref z1, .ref z2, .ref z3, .int 0, .int 0]))) [c_ar (g.2.1 2) 4 (fun i => if i < 4 then some (r i) else none), c_row g (0, 0, 0), c_row g (0, 0, 0), c_row g (0, 0, 0), c_row g (0, 0, 0), .inr (2, [.int 0, .ref (g.2.2 3), .int 0]), c_ar (g.2.1 2) 4 (va_up (va_up (va_up (fun _ => none) 0 (some z4)) 1 (some z5)) 2 (some z6)), c_row g (2000, 1, 1), c_row g (2000, 1, 1), c_row g (2000, 1, 1), c_row g (2000, 1, 0)]) H locs := B
  refine lv_dup hx hb dX4_init_58 rfl ?_
  refine lv_iconst (v := 2) hx hb dX4_init_59 (by decide) ?_
  refine lv_iconst (v := 1) hx hb dX4_init_60 (by decide) ?_
  refine b_iast (q := N + 10) (ap_at rfl) X hK B (by omega) (ap_at rfl) (by unfold vp_in; decide) dX4_init_61 (fun H locs B => ?_)
  rw [show ((2 : Int32)).toNatClampNeg = 2 from rfl, rw3_s2] at B
  have B := WA_set B (Nat.le_of_ble_eq_true rfl)
  have B : WB g (aw N ad sz) s.heap (N + 11) (ap N ad [z1, r 0, r 1, r 2, r 3, z2, z3, z4, z5, z6, z7]) (ap N (va_up f q (.inr (7, [.int 0, .ref z1, .ref z2, .ref z3, .int 0, .int 0]))) [c_ar (g.2.1 2) 4 (fun i => if i < 4 then some (r i) else none), c_row g (0, 0, 0), c_row g (0, 0, 0), c_row g (0, 0, 0), c_row g (0, 0, 0), .inr (2, [.int 0, .ref (g.2.2 3), .int 0]), c_ar (g.2.1 2) 4 (va_up (va_up (va_up (fun _ => none) 0 (some z4)) 1 (some z5)) 2 (some z6)), c_row g (2000, 1, 1), c_row g (2000, 1, 1), c_row g (2000, 1, 1), c_row g (2000, 1, 1)]) H locs := B
  refine b_aast (q := N + 6) (qv := N + 10) (ap_at rfl) X hK hT B (by omega) (ap_at rfl) (by omega) (ap_at rfl) (ap_at rfl) (by unfold vp_in; decide) dX4_init_62 (fun H locs B => ?_)
  have B := WA_set B (Nat.le_of_ble_eq_true rfl)
  have B : WB g (aw N ad sz) s.heap (N + 11) (ap N ad [z1, r 0, r 1, r 2, r 3, z2, z3, z4, z5, z6, z7]) (ap N (va_up f q (.inr (7, [.int 0, .ref z1, .ref z2, .ref z3, .int 0, .int 0]))) [c_ar (g.2.1 2) 4 (fun i => if i < 4 then some (r i) else none), c_row g (0, 0, 0), c_row g (0, 0, 0), c_row g (0, 0, 0), c_row g (0, 0, 0), .inr (2, [.int 0, .ref (g.2.2 3), .int 0]), c_ar (g.2.1 2) 4 (va_up (va_up (va_up (va_up (fun _ => none) 0 (some z4)) 1 (some z5)) 2 (some z6)) 3 (some z7)), c_row g (2000, 1, 1), c_row g (2000, 1, 1), c_row g (2000, 1, 1), c_row g (2000, 1, 1)]) H locs := B
  refine lv_iinc (v := 4) (lv' := [(1, .int 4), (0, .ref b)]) hx hb dX4_init_63 hl (k := 0) rfl rfl (by decide) rfl (fun ls hl => ?_)
  refine lv_goto (tgt := 35) hx hb dX4_init_66 (by decide) ?_
  refine lv_iload_n hx hb dX4_init_35 rfl (lv_at hl 0 rfl) ?_
  refine lv_iconst (v := 4) hx hb dX4_init_36 (by decide) ?_
  refine lv_icmp_ge (tgt := 69) hx hb dX4_init_37 (by decide) (fun _ => ?_) (fun z => absurd (by decide) z)
  exact rt_v X hr (ap N ad [z1, r 0, r 1, r 2, r 3, z2, z3, z4, z5, z6, z7], ap N (va_up f q (.inr (7, [.int 0, .ref z1, .ref z2, .ref z3, .int 0, .int 0]))) [c_ar (g.2.1 2) 4 (fun i => if i < 4 then some (r i) else none), c_row g (0, 0, 0), c_row g (0, 0, 0), c_row g (0, 0, 0), c_row g (0, 0, 0), .inr (2, [.int 0, .ref (g.2.2 3), .int 0]), c_ar (g.2.1 2) 4 (va_up (va_up (va_up (va_up (fun _ => none) 0 (some z4)) 1 (some z5)) 2 (some z6)) 3 (some z7)), c_row g (2000, 1, 1), c_row g (2000, 1, 1), c_row g (2000, 1, 1), c_row g (2000, 1, 1)]) B (PO_of B) ⟨(fun i => [z1, r 0, r 1, r 2, r 3, z2, z3, z4, z5, z6, z7].getD i 0), _, md_r4 (z := (fun i => [z1, r 0, r 1, r 2, r 3, z2, z3, z4, z5, z6, z7].getD i 0)) r rfl rfl rfl rfl, rfl, rfl⟩ (Nat.le_of_ble_eq_true rfl) (Nat.le_of_ble_eq_true rfl) dX4_init_69
end
section
/-! the calendar of both sides: lengths, days to a year, numbers -/
theorem dom_len (y : Int32) (m : Nat) (hm : m < 12) : v_X2_daysOfMonth y (nI (m + 1)) = v_X4_length y (nI (m + 1)) := by
  rw [len_at y m hm]
  unfold v_X2_daysOfMonth
  by_cases h : m = 1
  · subst h
    rw [if_pos (by decide)]
    unfold v_X4_isLong
    by_cases h1 : y - y / 4 * 4 = 0
    · rw [if_pos h1, if_pos h1]
      by_cases h2 : y - y / 100 * 100 = 0
      · rw [if_pos h2, if_pos h2]
        by_cases h3 : y - y / 400 * 400 = 0
        · rw [if_pos h3, if_pos h3]; rfl
        · rw [if_neg h3, if_neg h3]; rfl
      · rw [if_neg h2, if_neg h2]; rfl
    · rw [if_neg h1, if_neg h1]; rfl
  · have e : ∀ m : Nat, m < 12 → ¬ m = 1 → ¬ nI (m + 1) = 2 := by decide +kernel
    rw [if_neg (e m hm h)]
    generalize decide (v_X4_isLong y = 0) = b
    revert m b
    decide +kernel
theorem i32_mo {m : Int32} (h1 : 1 ≤ m.toInt) (h2 : m.toInt ≤ 12) : ∃ k : Nat, k < 12 ∧ m = nI (k + 1) := by
  obtain ⟨k, hk⟩ : ∃ k : Nat, m.toInt = k + 1 := ⟨(m.toInt - 1).toNat, by omega⟩
  exact ⟨k, by omega, Int32.toInt_inj.mp (by rw [nI_toInt (by omega)]; omega)⟩
theorem i32_yr {y : Int32} (h1 : 1600 ≤ y.toInt) (h2 : y.toInt ≤ 2401) : ∃ j : Nat, j ≤ 801 ∧ y = nI (1600 + j) := by
  obtain ⟨k, hk⟩ : ∃ k : Nat, y.toInt = k + 1600 := ⟨(y.toInt - 1600).toNat, by omega⟩
  exact ⟨k, by omega, Int32.toInt_inj.mp (by rw [nI_toInt (by omega)]; omega)⟩
theorem dom_len' {y m : Int32} (h1 : 1 ≤ m.toInt) (h2 : m.toInt ≤ 12) : v_X2_daysOfMonth y m = v_X4_length y m := by
  obtain ⟨k, hk, rfl⟩ := i32_mo h1 h2
  exact dom_len y k hk
theorem dty_step : ∀ j : Nat, j < 801 → (v_X2_daysToYear (nI (1600 + (j + 1)))).toInt = (v_X2_daysToYear (nI (1600 + j))).toInt + yl j := by decide +kernel
theorem dty_S : ∀ j : Nat, j ≤ 801 → (v_X2_daysToYear (nI (1600 + j))).toInt = yS j := by
  intro j
  induction j with
  | zero => intro _; decide
  | succ j ih =>
    intro h
    rw [dty_step j (by omega), ih (by omega)]
    rfl
theorem dty_eq {y : Int32} (h1 : 1600 ≤ y.toInt) (h2 : y.toInt ≤ 2401) : v_X2_daysToYear y = v_X4_daysTo y := by
  obtain ⟨j, hj, rfl⟩ := i32_yr h1 h2
  refine Int32.toInt_inj.mp ?_
  rw [dty_S j hj, dT_S (k := j) (by rw [nI_toInt (by omega)]; omega) hj]
theorem dT_1970 : v_X4_daysTo 1970 = 135140 := by
  rw [← dty_eq (by decide) (by decide)]
  decide
theorem dT_2401 : v_X4_daysTo 2401 = 292560 := by
  rw [← dty_eq (by decide) (by decide)]
  decide
theorem yS_370 : yS 370 = 135140 := by
  have h := dT_S (a := 1970) (k := 370) (by decide) (by decide)
  rw [dT_1970] at h
  exact h.symm
theorem yS_801 : yS 801 = 292560 := by
  have h := dT_S (a := 2401) (k := 801) (by decide) (by decide)
  rw [dT_2401] at h
  exact h.symm
theorem num_w {y mo d : Int32} (hm : mo.toInt ≤ 12) : ∀ (n : Nat) (mm ds : Int32), 1 ≤ mm.toInt → wX2_numberOf_12 y mo d n mm ds = wX4_number_22 (y, mo, d) n mm (ds + d - 1) := by
  intro n
  induction n with
  | zero => intro mm ds _; rfl
  | succ n ih =>
    intro mm ds h1
    rw [wX2_numberOf_12, wX4_number_22]
    by_cases c : mo ≤ mm
    · rw [if_pos c, if_pos c]
    · rw [if_neg c, if_neg c]
      rw [Int32.le_iff_toInt_le] at c
      have e1 : (1 : Int32).toInt = 1 := rfl
      have em : (mm + 1).toInt = mm.toInt + 1 := add_i (by omega) (by omega)
      rw [ih _ _ (by omega), dom_len' h1 (by omega)]
      congr 1
      show ds + v_X4_length y mm + d - 1 = ds + d - 1 + v_X4_length y mm
      generalize v_X4_length y mm = x
      grind
/-- both numbers are one -/
theorem num_eq {y mo d : Int32} (h1 : 1600 ≤ y.toInt) (h2 : y.toInt ≤ 2401) (hm : mo.toInt ≤ 12) : v_X2_numberOf y mo d = v_X4_number (y, mo, d) := by
  unfold v_X2_numberOf v_X4_number
  rw [num_w hm _ _ _ (by decide), dty_eq h1 h2, dT_1970]
theorem num_t {t : TR} (h : okd t) : v_X2_numberOf t.1 t.2.1 t.2.2 = v_X4_number t := num_eq h.1 (by have := h.2.1; omega) h.2.2.2.1
end
section
/-! a date's number as a sum; the date of a number -/
def dms (b : Bool) : Nat → Nat
  | 0 => 0
  | k + 1 => dms b k + ylen b k
abbrev dbt (y : Int32) : Bool := decide (v_X4_isLong y = 0)
theorem dms_r : ∀ (b : Bool) (k : Nat), k ≤ 12 → dms b k + yrest b k = (if b then 365 else 366) := by decide
theorem dms_l : ∀ (b : Bool) (k : Nat), k < 12 → dms b k ≤ 366 ∧ 28 ≤ ylen b k ∧ ylen b k ≤ 31 := by decide
theorem dms_m {b : Bool} {i k : Nat} (h : i ≤ k) : dms b i ≤ dms b k := by
  induction k with
  | zero => have : i = 0 := by omega
            subst this; exact Nat.le_refl _
  | succ k ih =>
    by_cases h2 : i = k + 1
    · subst h2; exact Nat.le_refl _
    · have := ih (by omega)
      show dms b i ≤ dms b k + ylen b k
      omega
theorem yl_dbt (j : Nat) : yl j = ((if dbt (nI (1600 + j)) then 365 else 366 : Nat) : Int) := by
  unfold yl v_X4_one dbt
  by_cases h : v_X4_isLong (nI (1600 + j)) = 0
  · rw [if_pos h, decide_eq_true h]; rfl
  · rw [if_neg h, decide_eq_false h]; rfl
theorem len_Z (y : Int32) {m : Nat} (hm : m < 12) : (v_X4_length y (nI (m + 1))).toInt = (ylen (dbt y) m : Int) := by
  have h := (dms_l (dbt y) m hm).2
  rw [len_at y m hm]
  show (nI (ylen (dbt y) m)).toInt = _
  generalize ylen (dbt y) m = z at h
  exact nI_toInt (by omega)
theorem nw_Z {y d : Int32} {k : Nat} (hk : k < 12) : ∀ (n m : Nat) (ds : Int32), m ≤ k → k - m < n → -1000000 ≤ ds.toInt → ds.toInt ≤ 1000000 + dms (dbt y) m → (wX4_number_22 (y, nI (k + 1), d) n (nI (m + 1)) ds).toInt = ds.toInt + (dms (dbt y) k : Int) - dms (dbt y) m := by
  intro n
  induction n with
  | zero => intro m ds _ h; omega
  | succ n ih =>
    intro m ds hm hn h0 h1
    rw [wX4_number_22]
    show (if nI (k + 1) ≤ nI (m + 1) then ds else wX4_number_22 (y, nI (k + 1), d) n (nI (m + 1) + 1) (ds + v_X4_length y (nI (m + 1)))).toInt = _
    by_cases c : nI (k + 1) ≤ nI (m + 1)
    · rw [if_pos c]
      have := (nI_leI (a := k + 1) (b := m + 1) (by omega) (by omega)).mp c
      have e : k = m := by omega
      subst e
      omega
    · rw [if_neg c]
      have c2 : ¬ k + 1 ≤ m + 1 := fun q => c ((nI_leI (a := k + 1) (b := m + 1) (by omega) (by omega)).mpr q)
      have hl := len_Z y (m := m) (by omega)
      have hb := dms_l (dbt y) m (by omega)
      have e := add_i (x := ds) (y := v_X4_length y (nI (m + 1))) (by omega) (by omega)
      have es : dms (dbt y) (m + 1) = dms (dbt y) m + ylen (dbt y) m := rfl
      rw [nI_1, ih (m + 1) _ (by omega) (by omega) (by omega) (by omega)]
      omega
theorem num_Z {j k : Nat} {d : Int32} (hj : j ≤ 800) (hk : k < 12) (h1 : 1 ≤ d.toInt) (h2 : d.toInt ≤ 31) : (v_X4_number (nI (1600 + j), nI (k + 1), d)).toInt = yS j - 135140 + dms (dbt (nI (1600 + j))) k + d.toInt - 1 := by
  unfold v_X4_number
  rw [dT_1970]
  show (wX4_number_22 (nI (1600 + j), nI (k + 1), d) (((nI (k + 1)).toInt - (1 : Int32).toInt).toNat + 1) (nI (0 + 1)) (v_X4_daysTo (nI (1600 + j)) - 135140 + d - 1)).toInt = _
  have b := yS_b j
  have hT := dT_S (a := nI (1600 + j)) (k := j) (by rw [nI_toInt (by omega)]; omega) (by omega)
  have e0 : (135140 : Int32).toInt = 135140 := rfl
  have e1 : (1 : Int32).toInt = 1 := rfl
  have b1 := sub_i (x := v_X4_daysTo (nI (1600 + j))) (y := 135140) (by omega) (by omega)
  have b2 := add_i (x := v_X4_daysTo (nI (1600 + j)) - 135140) (y := d) (by omega) (by omega)
  have b3 := sub_i (x := v_X4_daysTo (nI (1600 + j)) - 135140 + d) (y := 1) (by omega) (by omega)
  have hk1 : (nI (k + 1)).toInt = ((k + 1 : Nat) : Int) := nI_toInt (by omega)
  have z : dms (dbt (nI (1600 + j))) 0 = 0 := rfl
  rw [nw_Z hk _ 0 _ (by omega) (by omega) (by omega) (by omega), z]
  omega
/-- a day of the calendar -/
def okv (t : TR) : Prop := okd t ∧ t.2.2.toInt ≤ (v_X4_length t.1 t.2.1).toInt
theorem okv_of {t : TR} (h : okv t) : ∃ j k : Nat, j ≤ 800 ∧ k < 12 ∧ t.1 = nI (1600 + j) ∧ t.2.1 = nI (k + 1) ∧ 1 ≤ t.2.2.toInt ∧ t.2.2.toInt ≤ ylen (dbt (nI (1600 + j))) k := by
  obtain ⟨⟨h1, h2, h3, h4, h5, h6⟩, h7⟩ := h
  obtain ⟨j, hj, ej⟩ := i32_yr h1 (by omega)
  obtain ⟨k, hk, ek⟩ := i32_mo h3 h4
  rw [ej, nI_toInt (by omega)] at h2
  rw [ek, len_Z _ hk, ej] at h7
  exact ⟨j, k, by omega, hk, ej, ek, h5, h7⟩
theorem okv_mk {j k : Nat} {d : Int32} (hj : j ≤ 800) (hk : k < 12) (h1 : 1 ≤ d.toInt) (h2 : d.toInt ≤ ylen (dbt (nI (1600 + j))) k) : okv (nI (1600 + j), nI (k + 1), d) := by
  have b := dms_l (dbt (nI (1600 + j))) k hk
  have e1 : (nI (1600 + j)).toInt = ((1600 + j : Nat) : Int) := nI_toInt (by omega)
  have e2 : (nI (k + 1)).toInt = ((k + 1 : Nat) : Int) := nI_toInt (by omega)
  refine ⟨⟨?_, ?_, ?_, ?_, h1, ?_⟩, ?_⟩
  · show _ ≤ (nI (1600 + j)).toInt; omega
  · show (nI (1600 + j)).toInt ≤ _; omega
  · show _ ≤ (nI (k + 1)).toInt; omega
  · show (nI (k + 1)).toInt ≤ _; omega
  · show d.toInt ≤ 31; omega
  · show d.toInt ≤ (v_X4_length (nI (1600 + j)) (nI (k + 1))).toInt
    rw [len_Z _ hk]; exact h2
theorem okv_d {t : TR} (h : okv t) : okd t := h.1
/-- where a count of days lies -/
theorem yr_at : ∀ (n : Nat) (x : Int), 0 ≤ x → x < yS n → ∃ j, j < n ∧ yS j ≤ x ∧ x < yS (j + 1) := by
  intro n
  induction n with
  | zero => intro x h0 h; have e : yS 0 = 0 := rfl
            omega
  | succ n ih =>
    intro x h0 h
    by_cases c : x < yS n
    · obtain ⟨j, hj, q⟩ := ih x h0 c
      exact ⟨j, by omega, q⟩
    · exact ⟨n, by omega, by omega, h⟩
theorem mo_at (b : Bool) : ∀ (n x : Nat), x < dms b n → ∃ k, k < n ∧ dms b k ≤ x ∧ x < dms b (k + 1) := by
  intro n
  induction n with
  | zero => intro x h; exact absurd h (Nat.not_lt_zero _)
  | succ n ih =>
    intro x h
    by_cases c : x < dms b n
    · obtain ⟨j, hj, q⟩ := ih x c
      exact ⟨j, by omega, q⟩
    · exact ⟨n, by omega, by omega, h⟩
theorem yS_lt {i j : Nat} {x : Int} (h1 : yS i ≤ x) (h2 : x < yS (j + 1)) : i ≤ j := by
  rcases Nat.lt_or_ge j i with q | q
  · have := yS_m (i := j + 1) (j := i) q
    omega
  · exact q
theorem dms_lt {b : Bool} {i j x : Nat} (h1 : dms b i ≤ x) (h2 : x < dms b (j + 1)) : i ≤ j := by
  rcases Nat.lt_or_ge j i with q | q
  · have := dms_m (b := b) (i := j + 1) (k := i) q
    omega
  · exact q
theorem dms_12 (b : Bool) : dms b 12 = (if b then 365 else 366) := by cases b <;> rfl
/-- one number, one day -/
theorem num_inj {t u : TR} (ht : okv t) (hu : okv u) (h : v_X4_number t = v_X4_number u) : t = u := by
  obtain ⟨j, k, hj, hk, e1, e2, d1, d2⟩ := okv_of ht
  obtain ⟨j', k', hj', hk', e1', e2', d1', d2'⟩ := okv_of hu
  obtain ⟨t1, t2, t3⟩ := t
  obtain ⟨u1, u2, u3⟩ := u
  subst e1 e2 e1' e2'
  have d1 : 1 ≤ t3.toInt := d1
  have d1' : 1 ≤ u3.toInt := d1'
  have d2 : t3.toInt ≤ ylen (dbt (nI (1600 + j))) k := d2
  have d2' : u3.toInt ≤ ylen (dbt (nI (1600 + j'))) k' := d2'
  have b := dms_l (dbt (nI (1600 + j))) k hk
  have b' := dms_l (dbt (nI (1600 + j'))) k' hk'
  have n := num_Z (d := t3) hj hk d1 (by omega)
  have n' := num_Z (d := u3) hj' hk' d1' (by omega)
  rw [h] at n
  have s := yl_dbt j
  have s' := yl_dbt j'
  have q : yS (j + 1) = yS j + yl j := rfl
  have q' : yS (j' + 1) = yS j' + yl j' := rfl
  have m : dms (dbt (nI (1600 + j))) (k + 1) = dms (dbt (nI (1600 + j))) k + ylen (dbt (nI (1600 + j))) k := rfl
  have m' : dms (dbt (nI (1600 + j'))) (k' + 1) = dms (dbt (nI (1600 + j'))) k' + ylen (dbt (nI (1600 + j'))) k' := rfl
  have r := dms_m (b := dbt (nI (1600 + j))) (i := k + 1) (k := 12) (by omega)
  have r' := dms_m (b := dbt (nI (1600 + j'))) (i := k' + 1) (k := 12) (by omega)
  rw [dms_12] at r r'
  have ej : j = j' := by
    have a1 := yS_lt (i := j) (j := j') (x := yS j + dms (dbt (nI (1600 + j))) k + t3.toInt - 1) (by omega) (by omega)
    have a2 := yS_lt (i := j') (j := j) (x := yS j + dms (dbt (nI (1600 + j))) k + t3.toInt - 1) (by omega) (by omega)
    omega
  subst ej
  have ek : k = k' := by
    obtain ⟨x, hx⟩ : ∃ x : Nat, (x : Int) = dms (dbt (nI (1600 + j))) k + t3.toInt - 1 := ⟨(dms (dbt (nI (1600 + j))) k + t3.toInt - 1).toNat, by omega⟩
    have a1 := dms_lt (b := dbt (nI (1600 + j))) (i := k) (j := k') (x := x) (by omega) (by omega)
    have a2 := dms_lt (b := dbt (nI (1600 + j))) (i := k') (j := k) (x := x) (by omega) (by omega)
    omega
  subst ek
  have e3 : t3 = u3 := Int32.toInt_inj.mp (by omega)
  rw [e3]
end
section
/-! the date of a number, on both sides -/
theorem dms_ge : ∀ (b : Bool) (k : Nat), k < 12 → k ≤ dms b k := by decide
theorem fu_12 : ((12 : Int32).toInt - (1 : Int32).toInt).toNat + 1 = 12 := by decide
theorem i32_1 : (1 : Int32) = nI (0 + 1) := rfl
theorem i32_1600 : (1600 : Int32) = nI (1600 + 0) := rfl
theorem d77_at {y : Int32} {k x : Nat} (hk : k < 12) (h1 : dms (dbt y) k ≤ x) (h2 : x < dms (dbt y) (k + 1)) : ∀ (n m : Nat) (lg : Int64), m ≤ k → lg.toInt = (x : Int) - dms (dbt y) m → k - m < n → wX4_dateOf_77 y n (nI (m + 1)) lg = some (y, nI (k + 1), nI (x - dms (dbt y) k + 1)) := by
  intro n
  induction n with
  | zero => intro m lg _ _ h; omega
  | succ n ih =>
    intro m lg hm hl hn
    rw [wX4_dateOf_77]
    have hb := dms_l (dbt y) m (by omega)
    have hk2 := dms_l (dbt y) k hk
    have es : dms (dbt y) (m + 1) = dms (dbt y) m + ylen (dbt y) m := rfl
    have ek : dms (dbt y) (k + 1) = dms (dbt y) k + ylen (dbt y) k := rfl
    have eL : (v_X4_length y (nI (m + 1))).toInt64.toInt = (ylen (dbt y) m : Int) := by rw [Int32.toInt_toInt64, len_Z y (by omega)]
    by_cases c : lg_cmp lg (v_X4_length y (nI (m + 1))).toInt64 < 0
    · rw [if_pos c]
      have c1 := (lg_cmp_lt _ _).mp c
      rw [Int64.lt_iff_toInt_lt, eL] at c1
      have e : m = k := by
        rcases Nat.lt_or_ge m k with q | q
        · have := dms_m (b := dbt y) (i := m + 1) (k := k) q
          omega
        · omega
      subst e
      have e32 : lg.toInt32 = nI (x - dms (dbt y) m) := Int32.toInt_inj.mp (by
        rw [Int64.toInt_toInt32, nI_toInt (by omega), Int.bmod_eq_of_le (by omega) (by omega)]
        omega)
      rw [e32, nI_1]
    · rw [if_neg c]
      have c1 : ¬ lg < (v_X4_length y (nI (m + 1))).toInt64 := fun q => c ((lg_cmp_lt _ _).mpr q)
      rw [Int64.lt_iff_toInt_lt, eL] at c1
      have e : m ≠ k := by
        intro q
        subst q
        omega
      have es2 := sub_l (x := lg) (y := (v_X4_length y (nI (m + 1))).toInt64) (by omega) (by omega)
      rw [nI_1]
      exact ih (m + 1) _ (by omega) (by omega) (by omega)
theorem p48_at {y : Int32} {k x : Nat} {dy : Nat → TR} {j0 : Nat} (hk : k < 12) (h1 : dms (dbt y) k ≤ x) (h2 : x < dms (dbt y) (k + 1)) : ∀ (n m : Nat) (rs : Int32), m ≤ k → rs.toInt = (x : Int) - dms (dbt y) m → k - m < n → wX0_putDayNumber_48 dy j0 y n (nI (m + 1)) rs = va_up dy j0 (y, nI (k + 1), nI (x - dms (dbt y) k + 1)) := by
  intro n
  induction n with
  | zero => intro m lg _ _ h; omega
  | succ n ih =>
    intro m rs hm hl hn
    rw [wX0_putDayNumber_48, dom_len y m (by omega)]
    have hb := dms_l (dbt y) m (by omega)
    have hk2 := dms_l (dbt y) k hk
    have es : dms (dbt y) (m + 1) = dms (dbt y) m + ylen (dbt y) m := rfl
    have ek : dms (dbt y) (k + 1) = dms (dbt y) k + ylen (dbt y) k := rfl
    have eL := len_Z y (m := m) (by omega)
    have fin : m = k → v_X0_put dy j0 y (nI (m + 1)) (rs + 1) = va_up dy j0 (y, nI (k + 1), nI (x - dms (dbt y) k + 1)) := by
      intro e
      subst e
      have e32 : rs = nI (x - dms (dbt y) m) := Int32.toInt_inj.mp (by rw [nI_toInt (by omega)]; omega)
      rw [e32, nI_1]
      rfl
    by_cases c0 : 12 ≤ nI (m + 1)
    · rw [if_pos c0]
      have c1 := (nI_leI (a := 12) (b := m + 1) (by omega) (by omega)).mp c0
      exact fin (by omega)
    · rw [if_neg c0]
      by_cases c : rs < v_X4_length y (nI (m + 1))
      · rw [if_pos c]
        rw [Int32.lt_iff_toInt_lt, eL] at c
        refine fin ?_
        rcases Nat.lt_or_ge m k with q | q
        · have := dms_m (b := dbt y) (i := m + 1) (k := k) q
          omega
        · omega
      · rw [if_neg c]
        rw [Int32.lt_iff_toInt_lt, eL] at c
        have e : m ≠ k := by
          intro q
          subst q
          omega
        have es2 := sub_i (x := rs) (y := v_X4_length y (nI (m + 1))) (by omega) (by omega)
        rw [nI_1]
        exact ih (m + 1) _ (by omega) (by omega) (by omega)
end
section
theorem d34_at {X : Int} {j k x : Nat} (hj : j ≤ 800) (h1 : yS j ≤ X) (h2 : X < yS (j + 1)) (hx : X - yS j = x) (hk : k < 12) (g1 : dms (dbt (nI (1600 + j))) k ≤ x) (g2 : x < dms (dbt (nI (1600 + j))) (k + 1)) : ∀ (n i : Nat) (lf : Int64), i ≤ j → lf.toInt = X - yS i → lf.toInt.toNat < n → wX4_dateOf_34 n (nI (1600 + i)) lf = some (nI (1600 + j), nI (k + 1), nI (x - dms (dbt (nI (1600 + j))) k + 1)) := by
  intro n
  induction n with
  | zero => intro i lf _ _ h; omega
  | succ n ih =>
    intro i lf hi hl hn
    rw [wX4_dateOf_34]
    have el : (365 + v_X4_one (v_X4_isLong (nI (1600 + i)))).toInt64.toInt = yl i := by rw [Int32.toInt_toInt64]; rfl
    have b := yl_b i
    have bb := yS_b i
    have bj := yS_b (j + 1)
    have es : yS (i + 1) = yS i + yl i := rfl
    by_cases c : lg_cmp lf (365 + v_X4_one (v_X4_isLong (nI (1600 + i)))).toInt64 < 0
    · rw [if_pos c]
      have c1 := (lg_cmp_lt _ _).mp c
      rw [Int64.lt_iff_toInt_lt, el] at c1
      have e : i = j := by
        rcases Nat.lt_or_ge i j with q | q
        · have := yS_m (i := i + 1) (j := j) q
          omega
        · omega
      subst e
      have hz : lf.toInt = (x : Int) - dms (dbt (nI (1600 + i))) 0 := by
        have z : dms (dbt (nI (1600 + i))) 0 = 0 := rfl
        omega
      have hm := dms_m (b := dbt (nI (1600 + i))) (i := k) (k := k) (by omega)
      rw [i32_1]
      refine d77_at hk g1 g2 _ 0 lf (by omega) hz ?_
      have := dms_ge (dbt (nI (1600 + i))) k hk
      omega
    · rw [if_neg c]
      have c1 : ¬ lf < _ := fun q => c ((lg_cmp_lt _ _).mpr q)
      rw [Int64.lt_iff_toInt_lt, el] at c1
      have e : i ≠ j := by
        intro q
        subst q
        omega
      have e2 := sub_l (x := lf) (y := (365 + v_X4_one (v_X4_isLong (nI (1600 + i)))).toInt64) (by omega) (by omega)
      rw [nI_1]
      exact ih (i + 1) _ (by omega) (by omega) (by omega)
end
