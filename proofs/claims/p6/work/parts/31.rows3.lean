/-! more rows: bytes, references, lists -/
theorem sf_mod : Cond.sameField "java/util/ArrayList" "java/util/AbstractList" "modCount" "I" ∈ tb_all := tb_in (lw_at 1143 (by decide +kernel)) rfl
theorem ca_row : Cond.castable "[I" "java/lang/Object" ∈ lw_tbl := lw_at 1686 (by decide +kernel)
section RB
variable {p : Program} {l : Launch} {e : Env} {R : Room} {s : State} {m : MethodId} {args : Array Value} {below : List Frame} {meth : Method} {c : Code} {H : Heap} {locs : List Loc} {cells slots : Nat} {Q : State → Prop}
variable {cc : ByteArray} {nL : Nat} {own : String} {cw : Cond} {pc : Nat} {ls : Array Slot} {rest st0 : List Value} {g : GG} {A : Nat → Prop} {H0 : Heap} {N : Nat} {ad : Nat → Nat} {f : Nat → va_E}
/-- a row into an array of objects -/
theorem b_aastO {q b qv bv n : Nat} {h : Nat → Option Nat} {t : TR} {i : Int32} (hbq : ad q = b) (X : CX p s m args meth c cc nL own cw) (hK : KK g s) (hT : ST g.2.2 A s s.heap) (B : WB g A s.heap N ad f H locs) (hq : q < N) (hf : f q = c_ar (g.2.1 5) n h) (hqv : qv < N) (hbv : ad qv = bv) (hfv : f qv = c_row g t) (hi : vp_in i n) (hdg : decode cc pc = .ok (.aastore, 1))
    (kk : ∀ (H1 : Heap) (locs1 : List Loc), WB g A s.heap N ad (va_up f q (c_ar (g.2.1 5) n (va_up h i.toNatClampNeg (some bv)))) H1 locs1 → W p l e R s m args below meth c H1 locs1 cells slots Q (F0 m (pc + 1) ls rest)) : W p l e R s m args below meth c H locs cells slots Q (F0 m pc ls (.ref bv :: .int i :: .ref b :: rest)) := by
  subst hbq hbv
  have hcv := wd_P.mp B.1 qv hqv
  rw [hfv] at hcv
  have hcv : H[ad qv]? = some (vp_cell (g.2.1 0) (3, .inl (rw3 t))) := hcv
  obtain ⟨-, kv, hkv, -⟩ := (hK.2 0 (g.2.1 0, .int) rfl).1 3 (fun j => .int (rw3 t j))
  obtain ⟨c0, t1, f1, f2, f3⟩ := Cond.castable_spec (va_Nw.use (A := args) rfl (hT.1.1 _ ca_row rfl))
  have e2 : c0 = g.2.1 0 := Option.some.inj (f1.symm.trans (hK.2 0 (g.2.1 0, .int) rfl).2)
  subst e2
  refine va_astqM X.1 X.2.1 hK B.1 B.2.1 B.2.2 q 5 (by rw [wd_get hq, hf]) rfl ⟨_, hcv, rfl, ⟨kv, hkv⟩, fun comp hc => ?_⟩ hi hdg fun H1 locs1 hP hD hS => ?_
  · have e3 : comp = t1 := Option.some.inj (hc.symm.trans f2)
    rw [e3]
    exact f3
  · rw [wd_set hq] at hP hD
    exact kk H1 locs1 ⟨hP, hD, hS⟩
theorem b_aastN {q b n : Nat} {h : Nat → Option Nat} {i : Int32} (hbq : ad q = b) (X : CX p s m args meth c cc nL own cw) (hK : KK g s) (B : WB g A s.heap N ad f H locs) (hq : q < N) (hf : f q = c_ar (g.2.1 5) n h) (hi : vp_in i n) (hdg : decode cc pc = .ok (.aastore, 1))
    (kk : ∀ (H1 : Heap) (locs1 : List Loc), WB g A s.heap N ad (va_up f q (c_ar (g.2.1 5) n (va_up h i.toNatClampNeg none))) H1 locs1 → W p l e R s m args below meth c H1 locs1 cells slots Q (F0 m (pc + 1) ls rest)) : W p l e R s m args below meth c H locs cells slots Q (F0 m pc ls (.null :: .int i :: .ref b :: rest)) := by
  subst hbq
  refine va_astqN X.1 X.2.1 hK B.1 B.2.1 B.2.2 q 5 (by rw [wd_get hq, hf]) rfl hi hdg fun H1 locs1 hP hD hS => ?_
  rw [wd_set hq] at hP hD
  exact kk H1 locs1 ⟨hP, hD, hS⟩
theorem b_anew {n : Int32} {k cz sz index : Nat} (X : CX p s m args meth c cc nL own cw) (hA : ∀ q, s.heap.size ≤ q → A q) (hK : KK g s) (hT : ST g.2.2 A s s.heap) (B : WB g A s.heap N ad f H locs) (hcl : Cond.classLink own index "java/lang/Object" ∈ tb_all) (hn : ¬ n < 0) (hk : n.toNatClampNeg = k) (hk2 : k * 4 ≤ 536870912) (hc : cells + 1 ≤ R.cells) (hs : slots + k ≤ R.slots) (h1 : cells + 1 ≤ cz) (h2 : slots + k ≤ sz) (hdg : decode cc pc = .ok (.anewarray index, 3))
    (kk : ∀ (a : Nat) (H1 : Heap), WB g A s.heap (N + 1) (va_up ad N a) (va_up f N (c_ar (g.2.1 5) k (fun _ => none))) H1 locs → W p l e R s m args below meth c H1 locs cz sz Q (F0 m (pc + 3) ls (.ref a :: rest))) : W p l e R s m args below meth c H locs cells slots Q (F0 m pc ls (.int n :: rest)) := by
  obtain ⟨hx, hb, hml, hown, hts, -⟩ := X
  refine va_newq hx hb hown (hts _ (List.mem_cons_of_mem _ hcl)) hT.1.2.2.2.1 hK B.1 B.2.1 B.2.2 hA hn hk hk2 hc hs hdg fun a cA H1 hK1 hP hD hS => W.widen h1 h2 ?_
  obtain ⟨_, _, -, -, -, e1⟩ := (hK1.2 6 (cA, .object "java/lang/Object") rfl).2
  obtain ⟨_, _, -, -, -, e2⟩ := (hK.2 5 (g.2.1 5, .object "java/lang/Object") rfl).2
  have e3 : cA = g.2.1 5 := Option.some.inj (e1.symm.trans e2)
  subst e3
  rw [wd_push] at hP hD
  exact kk a H1 ⟨hP, hD, hS⟩
/-- the cast of a row -/
theorem b_castR {q b index : Nat} {t : TR} (hbq : ad q = b) (X : CX p s m args meth c cc nL own cw) (hK : KK g s) (B : WB g A s.heap N ad f H locs) (hq : q < N) (hf : f q = c_row g t) (hcl : Cond.classLink own index "[I" ∈ tb_all) (hdg : decode cc pc = .ok (.checkcast index, 3))
    (kk : W p l e R s m args below meth c H locs cells slots Q (F0 m (pc + 3) ls (.ref b :: rest))) : W p l e R s m args below meth c H locs cells slots Q (F0 m pc ls (.ref b :: rest)) := by
  subst hbq
  obtain ⟨hx, hb, hml, hown, hts, -⟩ := X
  exact va_castA hx hb hown (hts _ (List.mem_cons_of_mem _ hcl)) B.1 q (by rw [wd_get hq, hf]) (hK.2 0 (g.2.1 0, .int) rfl).2 hdg kk
theorem b_alen {q t0 b : Nat} {cA : ClassId} {x : vp_A} {ty : FieldType} {v : Int32} (hbq : ad q = b) (X : CX p s m args meth c cc nL own cw) (hK : KK g s) (B : WB g A s.heap N ad f H locs) (hq : q < N) (hf : f q = .inl (cA, x)) (ht : (TY g.2.1)[t0]? = some (cA, ty)) (hv : Int32.ofNat x.1 = v) (hdg : decode cc pc = .ok (.arraylength, 1))
    (kk : W p l e R s m args below meth c H locs cells slots Q (F0 m (pc + 1) ls (.int v :: rest))) : W p l e R s m args below meth c H locs cells slots Q (F0 m pc ls (.ref b :: rest)) := by
  subst hbq
  exact g_alen X hK B hq hf ht hv hdg kk
theorem b_iald {q b n : Nat} {h : Nat → Int32} {i : Int32} (hbq : ad q = b) (X : CX p s m args meth c cc nL own cw) (hK : KK g s) (B : WB g A s.heap N ad f H locs) (hq : q < N) (hf : f q = .inl (g.2.1 0, n, .inl h)) (hi : vp_in i n) (hdg : decode cc pc = .ok (.iaload, 1))
    (kk : W p l e R s m args below meth c H locs cells slots Q (F0 m (pc + 1) ls (.int (h i.toNatClampNeg) :: rest))) : W p l e R s m args below meth c H locs cells slots Q (F0 m pc ls (.int i :: .ref b :: rest)) := by
  subst hbq
  exact g_iald (t0 := 0) X hK B hq hf rfl hi hdg kk
theorem b_iast {q b n : Nat} {h : Nat → Int32} {i x : Int32} (hbq : ad q = b) (X : CX p s m args meth c cc nL own cw) (hK : KK g s) (B : WB g A s.heap N ad f H locs) (hq : q < N) (hf : f q = .inl (g.2.1 0, n, .inl h)) (hi : vp_in i n) (hdg : decode cc pc = .ok (.iastore, 1))
    (kk : ∀ (H1 : Heap) (locs1 : List Loc), WB g A s.heap N ad (va_up f q (.inl (g.2.1 0, n, .inl (upd h i.toNatClampNeg x)))) H1 locs1 → W p l e R s m args below meth c H1 locs1 cells slots Q (F0 m (pc + 1) ls rest)) : W p l e R s m args below meth c H locs cells slots Q (F0 m pc ls (.int x :: .int i :: .ref b :: rest)) := by
  subst hbq
  exact g_iast X hK B hq hf rfl hi hdg kk
theorem b_bald {q b n : Nat} {h : Nat → Int32} {i : Int32} (hbq : ad q = b) (X : CX p s m args meth c cc nL own cw) (hK : KK g s) (B : WB g A s.heap N ad f H locs) (hq : q < N) (hf : f q = .inl (g.2.1 1, n, .inl h)) (hi : vp_in i n) (hdg : decode cc pc = .ok (.baload, 1))
    (kk : W p l e R s m args below meth c H locs cells slots Q (F0 m (pc + 1) ls (.int (h i.toNatClampNeg) :: rest))) : W p l e R s m args below meth c H locs cells slots Q (F0 m pc ls (.int i :: .ref b :: rest)) := by
  subst hbq
  exact va_bald X.1 X.2.1 hK B.1 q 1 (by rw [wd_get hq, hf]) rfl hi hdg kk
theorem b_bast {q b n : Nat} {h : Nat → Int32} {i x : Int32} (hbq : ad q = b) (X : CX p s m args meth c cc nL own cw) (hK : KK g s) (B : WB g A s.heap N ad f H locs) (hq : q < N) (hf : f q = .inl (g.2.1 1, n, .inl h)) (hi : vp_in i n) (hdg : decode cc pc = .ok (.bastore, 1))
    (kk : ∀ (H1 : Heap) (locs1 : List Loc), WB g A s.heap N ad (va_up f q (.inl (g.2.1 1, n, .inl (upd h i.toNatClampNeg (vp_nar .byte x))))) H1 locs1 → W p l e R s m args below meth c H1 locs1 cells slots Q (F0 m (pc + 1) ls rest)) : W p l e R s m args below meth c H locs cells slots Q (F0 m pc ls (.int x :: .int i :: .ref b :: rest)) := by
  subst hbq
  refine va_bast X.1 X.2.1 hK B.1 B.2.1 B.2.2 q 1 (by rw [wd_get hq, hf]) rfl hi hdg fun H1 locs1 hP hD hS => ?_
  rw [wd_set hq] at hP hD
  exact kk H1 locs1 ⟨hP, hD, hS⟩
theorem b_newb {n : Int32} {k cz sz : Nat} (X : CX p s m args meth c cc nL own cw) (hA : ∀ q, s.heap.size ≤ q → A q) (hK : KK g s) (B : WB g A s.heap N ad f H locs) (hn : ¬ n < 0) (hk : n.toNatClampNeg = k) (hk2 : k * 1 ≤ 536870912) (hc : cells + 1 ≤ R.cells) (hs : slots + k ≤ R.slots) (h1 : cells + 1 ≤ cz) (h2 : slots + k ≤ sz) (hdg : decode cc pc = .ok (.newarray .byte, 2))
    (kk : ∀ (a : Nat) (H1 : Heap), WB g A s.heap (N + 1) (va_up ad N a) (va_up f N (.inl (g.2.1 1, k, .inl (fun _ => 0)))) H1 locs → W p l e R s m args below meth c H1 locs cz sz Q (F0 m (pc + 2) ls (.ref a :: rest))) : W p l e R s m args below meth c H locs cells slots Q (F0 m pc ls (.int n :: rest)) := by
  obtain ⟨hx, hb, hml, hown, hts, -⟩ := X
  refine va_newa (atype := .byte) (ty := .byte) (a0 := (k, .inl (fun _ => 0))) hx hb (hts _ (List.mem_cons_of_mem _ ac_byte)) rfl hK B.1 B.2.1 B.2.2 hA (fun _ => rfl) hn hk hk2 hc hs hdg fun a cA H1 hK1 hP hD hS => W.widen h1 h2 ?_
  have e1 := (hK1.2 6 (cA, .byte) rfl).2
  have e2 := (hK.2 1 (g.2.1 1, .byte) rfl).2
  have e3 : cA = g.2.1 1 := Option.some.inj (e1.symm.trans e2)
  subst e3
  rw [wd_push] at hP hD
  exact kk a H1 ⟨hP, hD, hS⟩
/-- a call, the receiver at a known address -/
theorem b_I {y : MethodName} {bytes : ByteArray} {maxL index n : Nat} {rm : Room} {As : List Value} {b : Nat} {Qc : Array Value → State → Outcome → State → Prop} {free : Addr → Prop}
    (X : CX p s m args meth c cc nL own cw) (hM : Met l y (Cond.code y bytes maxL none :: tb_all) rm (va_Pc (.ref b :: As) (PR g N ad f H.size)) Qc rm.cells rm.slots free)
    (hy : Cond.code y bytes maxL none ∈ tb_all ∧ Cond.instanceMethod y ∈ tb_all ∧ Cond.initialized y.cls ∈ tb_all) (hy1 : y.name = "<init>") (hd : y.cls ≠ "java/lang/invoke/MethodHandle" ∧ y.cls ≠ "java/lang/invoke/VarHandle" ∧ (parseMethodDescriptor y.desc).map (fun d => d.parameters.length) = some n) (hn : As.length = n) (hlk : Cond.methodLink own index y ∈ tb_all)
    (hR : rm.frames + 1 ≤ R.frames ∧ 8 + (maxL + 11) + rm.locals ≤ R.locals) (hA : ∀ q, s.heap.size ≤ q → A q) (hK : KK g s) (hT : ST g.2.2 A s s.heap) (B : WB g A s.heap N ad f H locs) (hls : ls.size = nL)
    (hst : st0 = As.reverse ++ .ref b :: rest) (hW : (rest.map fun v => v.category).sum ≤ 8) (hdg : decode cc pc = .ok (.invokespecial index, 3)) (hf2 : cells + rm.cells ≤ R.cells ∧ slots + rm.slots ≤ R.slots) :
    va_Run p l e R s m args below meth c H locs cells slots rm.cells rm.slots (F0 m pc ls st0) rest (Qc (Value.ref b :: As).toArray) free := by
  obtain ⟨hx, hb, hml, hown, hts, -⟩ := X
  have hm : ∀ w ∈ tb_all, w.before args s = true := fun w h => hts w (List.mem_cons_of_mem _ h)
  exact va_runI ⟨hx, hb, hml, hown, hts⟩ hM ⟨callB_of n hts (tb_good hy.1) rfl rfl rfl (hm _ hy.2.2) (hm _ hlk) hd hR, hy1, hm _ hy.2.1⟩ (pS hA hK hT B) rfl hn hls hst (lv_room hW) hdg hf2
/-- a field that a class inherits, by the name of the class itself -/
theorem b_getS {ref : String} {ci index q k b : Nat} {C : String} {T : u_T} {n : Nat} {fs : List Value} {v : Value} (hbq : ad q = b) (X : CX p s m args meth c cc nL own cw) (hK : KK g s) (B : WB g A s.heap N ad f H locs) (hc : vwCl[ci]? = some (C, T, n)) (hin : ∀ w ∈ u_ws C T n, w ∈ tb_all) (hq : q < N) (hf : f q = .inr (ci, fs)) (hk : k < n) (hlink : Cond.fieldLink own index ref (T k).2.1 (T k).2.2.1 ∈ tb_all) (hsf : Cond.sameField ref (T k).1 (T k).2.1 (T k).2.2.1 ∈ tb_all) (hv : fs[k]? = some v) (hdg : decode cc pc = .ok (.getfield index, 3))
    (kk : W p l e R s m args below meth c H locs cells slots Q (F0 m (pc + 3) ls (v :: rest))) : W p l e R s m args below meth c H locs cells slots Q (F0 m pc ls (.ref b :: rest)) := by
  subst hbq
  obtain ⟨hx, hb, hml, hown, hts, -⟩ := X
  exact va_get hx hb hts (fun w h => List.mem_cons_of_mem _ (hin w h)) hown hK B.1 q (by rw [wd_get hq, hf]) hc k hk (hts _ (List.mem_cons_of_mem _ hlink)) (u_same (hts _ (List.mem_cons_of_mem _ hsf))) hv hdg kk
theorem b_putS {ref : String} {ci index q k b : Nat} {C : String} {T : u_T} {n : Nat} {fs : List Value} {v : Value} {ty : FieldType} {ty0 : Nat → FieldType} (hbq : ad q = b) (X : CX p s m args meth c cc nL own cw) (hK : KK g s) (B : WB g A s.heap N ad f H locs) (hc : vwCl[ci]? = some (C, T, n)) (hin : ∀ w ∈ u_ws C T n, w ∈ tb_all) (hty : ∀ k, k < n → parseFieldDescriptor (T k).2.2.1 = some (ty0 k)) (hnm : ∀ a, a < n → ∀ b, b < n → a ≠ b → (T a).2.1 ≠ (T b).2.1) (hq : q < N) (hf : f q = .inr (ci, fs)) (hk : k < n) (hlink : Cond.fieldLink own index ref (T k).2.1 (T k).2.2.1 ∈ tb_all) (hsf : Cond.sameField ref (T k).1 (T k).2.1 (T k).2.2.1 ∈ tb_all) (hfin : (T k).2.2.2 = false) (hd : ty0 k = ty) (hn : narrow ty v = v) (hfit : fits ty v = true) (hl : k < fs.length) (hdg : decode cc pc = .ok (.putfield index, 3))
    (kk : ∀ (H1 : Heap) (locs1 : List Loc), WB g A s.heap N ad (va_up f q (.inr (ci, fs.set k v))) H1 locs1 → W p l e R s m args below meth c H1 locs1 cells slots Q (F0 m (pc + 3) ls rest)) : W p l e R s m args below meth c H locs cells slots Q (F0 m pc ls (v :: .ref b :: rest)) := by
  subst hbq hd
  obtain ⟨hx, hb, hml, hown, hts, -⟩ := X
  refine va_put hx hb hts (fun w h => List.mem_cons_of_mem _ (hin w h)) ty0 hty hnm hown hK B.1 B.2.1 B.2.2 q (by rw [wd_get hq, hf]) hc k hk (hts _ (List.mem_cons_of_mem _ hlink)) (u_same (hts _ (List.mem_cons_of_mem _ hsf))) hfin (hty k hk) hn hfit hl hdg fun H1 locs1 hP hD hS => ?_
  rw [wd_set hq] at hP hD
  exact kk H1 locs1 ⟨hP, hD, hS⟩
end RB
