/-! the walk's start, its ends, its calls, over a world of places -/
abbrev WS : Type := (Nat → Nat) × (Nat → va_E)
/-- what a walk has at hand -/
def CX (p : Program) (s : State) (m : MethodId) (args : Array Value) (meth : Method) (c : Code) (cc : ByteArray) (nL : Nat) (own : String) (cw : Cond) : Prop :=
  p.tables.exec = Jvm.exec ∧ c.code = cc ∧ c.maxLocals = nL ∧ s.vm.findClass own = some m.cls ∧ (∀ w ∈ cw :: tb_all, w.before args s = true) ∧ meth.locks = false
theorem mt_start {l : Launch} {y : MethodName} {cc : ByteArray} {maxL : Nat} {ret : Option FieldType} {rm : Room} {av : List Value} {g : GG} {N : Nat} {ad : Nat → Nat} {f : Nat → va_E} {sz : Nat} {Qc : Array Value → State → Outcome → State → Prop} {mc ms : Nat}
    (hy : plainName y.cls = true) (hav : (lg_sl av).length ≤ maxL)
    (body : ∀ (p : Program) (e : Env) (s : State) (m : MethodId) (args : Array Value) (below : List Frame) (meth : Method) (c : Code), sz = s.heap.size → CX p s m args meth c cc maxL y.cls (Cond.code y cc maxL ret) → meth.sig.returnType = ret → meth.name = y.name → (∀ q, s.heap.size ≤ q → aw N ad sz q) → KK g s → ST g.2.2 (aw N ad sz) s s.heap → ∀ (H : Heap) (locs : List Loc), WB g (aw N ad sz) s.heap N ad f H locs →
      ∀ ls : Array Slot, lv_has ls maxL (lv_args 0 av) → W p l e rm s m args below meth c H locs 0 0 (MQ below Qc args s mc ms (aw N ad sz)) (F0 m 0 ls [])) :
    Met l y (Cond.code y cc maxL ret :: tb_all) rm (va_Pc av (PR g N ad f sz)) Qc mc ms (aw N ad sz) := by
  refine Met.ofW (cc := cc) (maxL := maxL) (ret := ret) hy rfl ?_
  intro p e s m args below meth c s₁ B hml hv
  obtain ⟨rfl, hsz, hP, hK, hD, hT⟩ := hv
  have hl := lv_entry av (n := maxL) hav
  rw [lg_entry_eq]
  subst hsz
  exact body p e s m _ below meth c rfl ⟨B.exec, B.bytes, hml, findClass_of_methodNamed B.named, atoms_spec (ws := Cond.code y cc maxL ret :: tb_all) B.pre, B.notSynchronized⟩ B.returns (name_of_methodNamed B.named B.method).1 (fun q h => Or.inr h) hK hT
    s.heap [] ⟨hP, wd_D.mpr ⟨(wd_D.mp hD).1, fun k hk => Or.inl ⟨k, hk, rfl⟩⟩, va_S.rf⟩ _ hl
theorem mx_start {l : Launch} {y : MethodName} {cc : ByteArray} {maxL : Nat} {ret : Option FieldType} {rm : Room} {av : List Value} {g : GG} {N : Nat} {ad : Nat → Nat} {f : Nat → va_E} {sz : Nat} {Qc : Array Value → State → Outcome → State → Prop} {XC : String → State → State → Prop} {mc ms : Nat}
    (hy : plainName y.cls = true) (hav : (lg_sl av).length ≤ maxL)
    (body : ∀ (p : Program) (e : Env) (s : State) (m : MethodId) (args : Array Value) (below : List Frame) (meth : Method) (c : Code), sz = s.heap.size → CX p s m args meth c cc maxL y.cls (Cond.code y cc maxL ret) → meth.sig.returnType = ret → (∀ x ∈ c.exceptionTable.toList, False) → (∀ q, s.heap.size ≤ q → aw N ad sz q) → KK g s → ST g.2.2 (aw N ad sz) s s.heap → ∀ (H : Heap) (locs : List Loc), WB g (aw N ad sz) s.heap N ad f H locs →
      ∀ ls : Array Slot, lv_has ls maxL (lv_args 0 av) → W p l e rm s m args below meth c H locs 0 0 (vx_MQ below Qc XC args s mc ms (aw N ad sz)) (F0 m 0 ls [])) :
    vx_Met l y (Cond.code y cc maxL ret :: tb_all) rm (va_Pc av (PR g N ad f sz)) Qc XC mc ms (aw N ad sz) := by
  refine vx_ofW (cc := cc) (maxL := maxL) (ret := ret) hy rfl ?_
  intro p e s m args below meth c s₁ B hml hex hv
  obtain ⟨rfl, hsz, hP, hK, hD, hT⟩ := hv
  have hl := lv_entry av (n := maxL) hav
  rw [lg_entry_eq]
  subst hsz
  exact body p e s m _ below meth c rfl ⟨B.exec, B.bytes, hml, findClass_of_methodNamed B.named, atoms_spec (ws := Cond.code y cc maxL ret :: tb_all) B.pre, B.notSynchronized⟩ B.returns hex (fun q h => Or.inr h) hK hT
    s.heap [] ⟨hP, wd_D.mpr ⟨(wd_D.mp hD).1, fun k hk => Or.inl ⟨k, hk, rfl⟩⟩, va_S.rf⟩ _ hl
/-! contracts: an int, a boolean; a long; nothing; a reference; the world has N' places behind it -/
def KI (l : Launch) (y : MethodName) (cc : ByteArray) (maxL : Nat) (ret : Option FieldType) (rm : Room) (g : GG) (av : List Value) (N : Nat) (ad : Nat → Nat) (f : Nat → va_E) (N' : Nat) (post : Int32 → (Nat → Nat) → (Nat → va_E) → Prop) : Prop :=
  ∀ sz : Nat, Met l y (Cond.code y cc maxL ret :: tb_all) rm (va_Pc av (PR g N ad f sz)) (va_Qi (fun r (u : WS) => post r u.1 u.2) (fun u t => PO g N' u.1 u.2 (aw N ad sz) t) (aw N ad sz)) rm.cells rm.slots (aw N ad sz)
def KL (l : Launch) (y : MethodName) (cc : ByteArray) (maxL : Nat) (rm : Room) (g : GG) (av : List Value) (N : Nat) (ad : Nat → Nat) (f : Nat → va_E) (N' : Nat) (post : Int64 → (Nat → Nat) → (Nat → va_E) → Prop) : Prop :=
  ∀ sz : Nat, Met l y (Cond.code y cc maxL (some .long) :: tb_all) rm (va_Pc av (PR g N ad f sz)) (va_Ql (fun r (u : WS) => post r u.1 u.2) (fun u t => PO g N' u.1 u.2 (aw N ad sz) t) (aw N ad sz)) rm.cells rm.slots (aw N ad sz)
def KV (l : Launch) (y : MethodName) (cc : ByteArray) (maxL : Nat) (rm : Room) (g : GG) (av : List Value) (N : Nat) (ad : Nat → Nat) (f : Nat → va_E) (N' : Nat) (post : (Nat → Nat) → (Nat → va_E) → Prop) : Prop :=
  ∀ sz : Nat, Met l y (Cond.code y cc maxL none :: tb_all) rm (va_Pc av (PR g N ad f sz)) (va_Qv (fun (u : WS) => post u.1 u.2) (fun u t => PO g N' u.1 u.2 (aw N ad sz) t) (aw N ad sz)) rm.cells rm.slots (aw N ad sz)
def KR (l : Launch) (y : MethodName) (cc : ByteArray) (maxL : Nat) (ret : FieldType) (rm : Room) (g : GG) (av : List Value) (N : Nat) (ad : Nat → Nat) (f : Nat → va_E) (N' : Nat) (post : Option Nat → (Nat → Nat) → (Nat → va_E) → Prop) : Prop :=
  ∀ sz : Nat, Met l y (Cond.code y cc maxL (some ret) :: tb_all) rm (va_Pc av (PR g N ad f sz)) (va_Qq (fun r (u : WS) => post r u.1 u.2) (fun u t => PO g N' u.1 u.2 (aw N ad sz) t) (aw N ad sz)) rm.cells rm.slots (aw N ad sz)
/-- what is thrown: the class by its name, and the world as it then is -/
abbrev XS (g : GG) (N : Nat) (ad : Nat → Nat) (f : Nat → va_E) (sz : Nat) (px : String → Prop) : String → State → State → Prop := vx_X (fun _ : Unit => True) (fun E _ t => px E ∧ PO g N ad f (aw N ad sz) t) (aw N ad sz)
def XI (l : Launch) (y : MethodName) (cc : ByteArray) (maxL : Nat) (ret : Option FieldType) (rm : Room) (g : GG) (av : List Value) (N : Nat) (ad : Nat → Nat) (f : Nat → va_E) (N' : Nat) (px : String → Prop) (post : Int32 → (Nat → Nat) → (Nat → va_E) → Prop) : Prop :=
  ∀ sz : Nat, vx_Met l y (Cond.code y cc maxL ret :: tb_all) rm (va_Pc av (PR g N ad f sz)) (va_Qi (fun r (u : WS) => post r u.1 u.2) (fun u t => PO g N' u.1 u.2 (aw N ad sz) t) (aw N ad sz)) (XS g N ad f sz px) rm.cells rm.slots (aw N ad sz)
def XV (l : Launch) (y : MethodName) (cc : ByteArray) (maxL : Nat) (rm : Room) (g : GG) (av : List Value) (N : Nat) (ad : Nat → Nat) (f : Nat → va_E) (N' : Nat) (px : String → Prop) (post : (Nat → Nat) → (Nat → va_E) → Prop) : Prop :=
  ∀ sz : Nat, vx_Met l y (Cond.code y cc maxL none :: tb_all) rm (va_Pc av (PR g N ad f sz)) (va_Qv (fun (u : WS) => post u.1 u.2) (fun u t => PO g N' u.1 u.2 (aw N ad sz) t) (aw N ad sz)) (XS g N ad f sz px) rm.cells rm.slots (aw N ad sz)
def XR (l : Launch) (y : MethodName) (cc : ByteArray) (maxL : Nat) (ret : FieldType) (rm : Room) (g : GG) (av : List Value) (N : Nat) (ad : Nat → Nat) (f : Nat → va_E) (N' : Nat) (px : String → Prop) (post : Option Nat → (Nat → Nat) → (Nat → va_E) → Prop) : Prop :=
  ∀ sz : Nat, vx_Met l y (Cond.code y cc maxL (some ret) :: tb_all) rm (va_Pc av (PR g N ad f sz)) (va_Qq (fun r (u : WS) => post r u.1 u.2) (fun u t => PO g N' u.1 u.2 (aw N ad sz) t) (aw N ad sz)) (XS g N ad f sz px) rm.cells rm.slots (aw N ad sz)
theorem WB.drop {g : GG} {A : Nat → Prop} {H0 H : Heap} {N N' : Nat} {ad ad' : Nat → Nat} {f f' : Nat → va_E} {locs : List Loc} (B : WB g A H0 N' ad' f' H locs) (hN : N ≤ N') (h1 : ∀ k, k < N → ad' k = ad k) (h2 : ∀ k, k < N → f' k = f k) : WB g A H0 N ad f H locs := by
  obtain ⟨hP, hD, hS⟩ := B
  refine ⟨wd_P.mpr fun k hk => ?_, wd_D.mpr ⟨fun i j hi hj e => ?_, fun k hk => ?_⟩, hS⟩
  · have := wd_P.mp hP k (by omega)
    rwa [h1 k hk, h2 k hk] at this
  · exact (wd_D.mp hD).1 i j (by omega) (by omega) (by rw [h1 i hi, h1 j hj]; exact e)
  · have := (wd_D.mp hD).2 k (by omega)
    rwa [h1 k hk] at this
theorem WB.cast {g : GG} {A : Nat → Prop} {H0 H : Heap} {N : Nat} {ad : Nat → Nat} {f f' : Nat → va_E} {locs : List Loc} (B : WB g A H0 N ad f H locs) (h2 : ∀ k, k < N → f k = f' k) : WB g A H0 N ad f' H locs := B.drop (Nat.le_refl N) (fun _ _ => rfl) h2
theorem WB.inj {g : GG} {A : Nat → Prop} {H0 H : Heap} {N : Nat} {ad : Nat → Nat} {f : Nat → va_E} {locs : List Loc} (B : WB g A H0 N ad f H locs) {i j : Nat} (hi : i < N) (hj : j < N) (h : ad i = ad j) : i = j := (wd_D.mp B.2.1).1 i j hi hj h
section RW
variable {p : Program} {l : Launch} {e : Env} {R : Room} {s : State} {m : MethodId} {args : Array Value} {below : List Frame} {meth : Method} {c : Code} {H : Heap} {locs : List Loc} {cells slots : Nat} {Q : State → Prop}
variable {cc : ByteArray} {nL : Nat} {own : String} {cw : Cond} {pc : Nat} {ls : Array Slot} {rest st0 : List Value} {g : GG} {A : Nat → Prop} {H0 : Heap} {N : Nat} {ad : Nat → Nat} {f : Nat → va_E}
theorem PO_of (B : WB g A H0 N ad f H locs) : ∀ t : State, t.heap = H → PO g N ad f A t := fun t ht => ⟨by rw [ht]; exact B.1, B.2.1⟩
/-- the end: an int or a boolean -/
theorem rt_i {S : Type} {post : Int32 → S → Prop} {Bf : S → State → Prop} {v : Int32} {mc ms : Nat} {ty : FieldType} (X : CX p s m args meth c cc nL own cw) (hr : meth.sig.returnType = some ty) (u : S) (B : WB g A s.heap N ad f H locs) (hBf : ∀ t : State, t.heap = H → Bf u t) (hp : post v u) (hn : narrow ty (.int v) = .int v) (h1 : cells ≤ mc) (h2 : slots ≤ ms) (hdg : decode cc pc = .ok (.ireturn, 1)) :
    W p l e R s m args below meth c H locs cells slots (MQ below (va_Qi post Bf A) args s mc ms A) (F0 m pc ls [.int v]) := by
  refine W.widen h1 h2 ?_
  have hlocks := X.2.2.2.2.2
  exact W.zret X.1 X.2.1 hr hn (fun t ht hW => ⟨⟨v, u, rfl, hp, hBf t ht⟩, B.2.2.F ht⟩) B.2.2.2.2 hdg
theorem rt_l {S : Type} {post : Int64 → S → Prop} {Bf : S → State → Prop} {v : Int64} {mc ms : Nat} (X : CX p s m args meth c cc nL own cw) (hr : meth.sig.returnType = some .long) (u : S) (B : WB g A s.heap N ad f H locs) (hBf : ∀ t : State, t.heap = H → Bf u t) (hp : post v u) (h1 : cells ≤ mc) (h2 : slots ≤ ms) (hdg : decode cc pc = .ok (.lreturn, 1)) :
    W p l e R s m args below meth c H locs cells slots (MQ below (va_Ql post Bf A) args s mc ms A) (F0 m pc ls [.long v]) := by
  refine W.widen h1 h2 ?_
  have hlocks := X.2.2.2.2.2
  exact W.lret X.1 X.2.1 hr (fun t ht hW => ⟨⟨v, u, rfl, hp, hBf t ht⟩, B.2.2.F ht⟩) B.2.2.2.2 hdg
theorem rt_v {S : Type} {post : S → Prop} {Bf : S → State → Prop} {mc ms : Nat} (X : CX p s m args meth c cc nL own cw) (hr : meth.sig.returnType = none) (u : S) (B : WB g A s.heap N ad f H locs) (hBf : ∀ t : State, t.heap = H → Bf u t) (hp : post u) (h1 : cells ≤ mc) (h2 : slots ≤ ms) (hdg : decode cc pc = .ok (.return_, 1)) :
    W p l e R s m args below meth c H locs cells slots (MQ below (va_Qv post Bf A) args s mc ms A) (F0 m pc ls []) := by
  refine W.widen h1 h2 ?_
  have hlocks := X.2.2.2.2.2
  exact W.vret X.1 X.2.1 hr (fun t ht hW => ⟨⟨u, rfl, hp, hBf t ht⟩, B.2.2.F ht⟩) B.2.2.2.2 hdg
theorem rt_r {S : Type} {post : Option Nat → S → Prop} {Bf : S → State → Prop} {r : Option Nat} {mc ms : Nat} {rt : FieldType} {v : Value} (hv : v = va_rf r) (X : CX p s m args meth c cc nL own cw) (hr : meth.sig.returnType = some rt) (hrt : (∃ n, rt = .object n) ∨ ∃ t, rt = .array t) (u : S) (B : WB g A s.heap N ad f H locs) (hBf : ∀ t : State, t.heap = H → Bf u t) (hp : post r u) (h1 : cells ≤ mc) (h2 : slots ≤ ms) (hdg : decode cc pc = .ok (.areturn, 1)) :
    W p l e R s m args below meth c H locs cells slots (MQ below (va_Qq post Bf A) args s mc ms A) (F0 m pc ls [v]) := by
  subst hv
  refine W.widen h1 h2 ?_
  have hlocks := X.2.2.2.2.2
  exact W.aret X.1 X.2.1 hr hrt (by cases r <;> simp [va_rf]) (fun t ht hW => ⟨⟨r, u, rfl, hp, hBf t ht⟩, B.2.2.F ht⟩) B.2.2.2.2 hdg
/-! the ways of calling: what the callee's contract gives as a run -/
theorem u_V {y : MethodName} {bytes : ByteArray} {maxL index n : Nat} {ret : Option FieldType} {rm : Room} {As : List Value} {Qc : Array Value → State → Outcome → State → Prop} {free : Addr → Prop} {q ci : Nat} {fs : List Value} {r : vw_C}
    (X : CX p s m args meth c cc nL own cw) (hM : Met l y (Cond.code y bytes maxL ret :: tb_all) rm (va_Pc (.ref (ad q) :: As) (PR g N ad f H.size)) Qc rm.cells rm.slots free)
    (hy : Cond.code y bytes maxL ret ∈ tb_all ∧ Cond.instanceMethod y ∈ tb_all ∧ Cond.selects y.cls y y ∈ tb_all ∧ Cond.initialized y.cls ∈ tb_all) (hd : y.cls ≠ "java/lang/invoke/MethodHandle" ∧ y.cls ≠ "java/lang/invoke/VarHandle" ∧ (parseMethodDescriptor y.desc).map (fun d => d.parameters.length) = some n) (hn : As.length = n) (hlk : Cond.methodLink own index y ∈ tb_all)
    (hR : rm.frames + 1 ≤ R.frames ∧ 8 + (maxL + 11) + rm.locals ≤ R.locals) (hA : ∀ q, s.heap.size ≤ q → A q) (hK : KK g s) (hT : ST g.2.2 A s s.heap) (B : WB g A s.heap N ad f H locs) (hq : q < N) (hf : f q = .inr (ci, fs)) (hc : vwCl[ci]? = some r) (hyc : y.cls = r.1) (hls : ls.size = nL)
    (hst : st0 = As.reverse ++ .ref (ad q) :: rest) (hW : (rest.map fun v => v.category).sum ≤ 8) (hdg : decode cc pc = .ok (.invokevirtual index, 3)) (hf2 : cells + rm.cells ≤ R.cells ∧ slots + rm.slots ≤ R.slots) :
    va_Run p l e R s m args below meth c H locs cells slots rm.cells rm.slots (F0 m pc ls st0) rest (Qc (Value.ref (ad q) :: As).toArray) free := by
  obtain ⟨hx, hb, hml, hown, hts, -⟩ := X
  have hm : ∀ w ∈ tb_all, w.before args s = true := fun w h => hts w (List.mem_cons_of_mem _ h)
  have hp := pV (As := As) hA hK hT B hq hf hc
  rw [← hyc] at hp
  exact va_runV ⟨hx, hb, hml, hown, hts⟩ hM ⟨callB_of n hts (tb_good hy.1) rfl rfl rfl (hm _ hy.2.2.2) (hm _ hlk) hd hR, hm _ hy.2.1, hm _ hy.2.2.1⟩ hp rfl hn hls hst (lv_room hW) hdg hf2
theorem u_S {y : MethodName} {bytes : ByteArray} {maxL index n : Nat} {ret : Option FieldType} {rm : Room} {As : List Value} {Qc : Array Value → State → Outcome → State → Prop} {free : Addr → Prop}
    (X : CX p s m args meth c cc nL own cw) (hM : Met l y (Cond.code y bytes maxL ret :: tb_all) rm (va_Pc As (PR g N ad f H.size)) Qc rm.cells rm.slots free)
    (hy : Cond.code y bytes maxL ret ∈ tb_all ∧ Cond.static y ∈ tb_all ∧ Cond.initialized y.cls ∈ tb_all) (hd : y.cls ≠ "java/lang/invoke/MethodHandle" ∧ y.cls ≠ "java/lang/invoke/VarHandle" ∧ (parseMethodDescriptor y.desc).map (fun d => d.parameters.length) = some n) (hn : As.length = n) (hlk : Cond.methodLink own index y ∈ tb_all)
    (hR : rm.frames + 1 ≤ R.frames ∧ 8 + (maxL + 11) + rm.locals ≤ R.locals) (hA : ∀ q, s.heap.size ≤ q → A q) (hK : KK g s) (hT : ST g.2.2 A s s.heap) (B : WB g A s.heap N ad f H locs) (hls : ls.size = nL)
    (hst : st0 = As.reverse ++ rest) (hW : (rest.map fun v => v.category).sum ≤ 8) (hdg : decode cc pc = .ok (.invokestatic index, 3)) (hf2 : cells + rm.cells ≤ R.cells ∧ slots + rm.slots ≤ R.slots) :
    va_Run p l e R s m args below meth c H locs cells slots rm.cells rm.slots (F0 m pc ls st0) rest (Qc As.toArray) free := by
  obtain ⟨hx, hb, hml, hown, hts, -⟩ := X
  have hm : ∀ w ∈ tb_all, w.before args s = true := fun w h => hts w (List.mem_cons_of_mem _ h)
  exact va_runS ⟨hx, hb, hml, hown, hts⟩ hM ⟨callB_of n hts (tb_good hy.1) rfl rfl rfl (hm _ hy.2.2) (hm _ hlk) hd hR, hm _ hy.2.1⟩ (pS hA hK hT B) rfl hn hls hst (lv_room hW) hdg hf2
theorem u_I {y : MethodName} {bytes : ByteArray} {maxL index n : Nat} {rm : Room} {As : List Value} {b : Nat} {Qc : Array Value → State → Outcome → State → Prop} {free : Addr → Prop}
    (X : CX p s m args meth c cc nL own cw) (hM : Met l y (Cond.code y bytes maxL none :: tb_all) rm (va_Pc (.ref b :: As) (PR g N ad f H.size)) Qc rm.cells rm.slots free)
    (hy : Cond.code y bytes maxL none ∈ tb_all ∧ Cond.instanceMethod y ∈ tb_all ∧ Cond.initialized y.cls ∈ tb_all) (hy1 : y.name = "<init>") (hd : y.cls ≠ "java/lang/invoke/MethodHandle" ∧ y.cls ≠ "java/lang/invoke/VarHandle" ∧ (parseMethodDescriptor y.desc).map (fun d => d.parameters.length) = some n) (hn : As.length = n) (hlk : Cond.methodLink own index y ∈ tb_all)
    (hR : rm.frames + 1 ≤ R.frames ∧ 8 + (maxL + 11) + rm.locals ≤ R.locals) (hA : ∀ q, s.heap.size ≤ q → A q) (hK : KK g s) (hT : ST g.2.2 A s s.heap) (B : WB g A s.heap N ad f H locs) (hls : ls.size = nL)
    (hst : st0 = As.reverse ++ .ref b :: rest) (hW : (rest.map fun v => v.category).sum ≤ 8) (hdg : decode cc pc = .ok (.invokespecial index, 3)) (hf2 : cells + rm.cells ≤ R.cells ∧ slots + rm.slots ≤ R.slots) :
    va_Run p l e R s m args below meth c H locs cells slots rm.cells rm.slots (F0 m pc ls st0) rest (Qc (Value.ref b :: As).toArray) free := by
  obtain ⟨hx, hb, hml, hown, hts, -⟩ := X
  have hm : ∀ w ∈ tb_all, w.before args s = true := fun w h => hts w (List.mem_cons_of_mem _ h)
  exact va_runI ⟨hx, hb, hml, hown, hts⟩ hM ⟨callB_of n hts (tb_good hy.1) rfl rfl rfl (hm _ hy.2.2) (hm _ hlk) hd hR, hy1, hm _ hy.2.1⟩ (pS hA hK hT B) rfl hn hls hst (lv_room hW) hdg hf2
theorem u_VN {y : MethodName} {host : String} {bytes : ByteArray} {maxL index n : Nat} {ret : Option FieldType} {rm : Room} {As : List Value} {Qc : Array Value → State → Outcome → State → Prop} {free : Addr → Prop} {q ci : Nat} {fs : List Value} {r : vw_C}
    (X : CX p s m args meth c cc nL own cw) (hM : Met l y (Cond.code y bytes maxL ret :: tb_all) rm (va_Pc (.ref (ad q) :: As) (PR g N ad f H.size)) Qc rm.cells rm.slots free)
    (hy : Cond.code y bytes maxL ret ∈ tb_all ∧ Cond.instanceMethod y ∈ tb_all ∧ Cond.selects y.cls y y ∈ tb_all ∧ Cond.initialized y.cls ∈ tb_all) (hd : y.cls ≠ "java/lang/invoke/MethodHandle" ∧ y.cls ≠ "java/lang/invoke/VarHandle" ∧ (parseMethodDescriptor y.desc).map (fun d => d.parameters.length) = some n) (hn : As.length = n) (hlk : Cond.methodLinkNest own index y host ∈ lw_tbl)
    (hR : rm.frames + 1 ≤ R.frames ∧ 8 + (maxL + 11) + rm.locals ≤ R.locals) (hA : ∀ q, s.heap.size ≤ q → A q) (hK : KK g s) (hT : ST g.2.2 A s s.heap) (B : WB g A s.heap N ad f H locs) (hq : q < N) (hf : f q = .inr (ci, fs)) (hc : vwCl[ci]? = some r) (hyc : y.cls = r.1) (hls : ls.size = nL)
    (hst : st0 = As.reverse ++ .ref (ad q) :: rest) (hW : (rest.map fun v => v.category).sum ≤ 8) (hdg : decode cc pc = .ok (.invokevirtual index, 3)) (hf2 : cells + rm.cells ≤ R.cells ∧ slots + rm.slots ≤ R.slots) :
    va_Run p l e R s m args below meth c H locs cells slots rm.cells rm.slots (F0 m pc ls st0) rest (Qc (Value.ref (ad q) :: As).toArray) free := by
  obtain ⟨hx, hb, hml, hown, hts, -⟩ := X
  have hm : ∀ w ∈ tb_all, w.before args s = true := fun w h => hts w (List.mem_cons_of_mem _ h)
  have hp := pV (As := As) hA hK hT B hq hf hc
  rw [← hyc] at hp
  exact va_runVN ⟨hx, hb, hml, hown, hts⟩ hM ⟨va_cnB n hts (tb_good hy.1) rfl rfl rfl (hT.1.1 _ hlk rfl) (hm _ hy.2.2.2) hd hR, hm _ hy.2.1, hm _ hy.2.2.1⟩ hp rfl hn hls hst (lv_room hW) hdg hf2
theorem u_SN {y : MethodName} {host : String} {bytes : ByteArray} {maxL index n : Nat} {ret : Option FieldType} {rm : Room} {As : List Value} {Qc : Array Value → State → Outcome → State → Prop} {free : Addr → Prop}
    (X : CX p s m args meth c cc nL own cw) (hM : Met l y (Cond.code y bytes maxL ret :: tb_all) rm (va_Pc As (PR g N ad f H.size)) Qc rm.cells rm.slots free)
    (hy : Cond.code y bytes maxL ret ∈ tb_all ∧ Cond.static y ∈ tb_all ∧ Cond.initialized y.cls ∈ tb_all) (hd : y.cls ≠ "java/lang/invoke/MethodHandle" ∧ y.cls ≠ "java/lang/invoke/VarHandle" ∧ (parseMethodDescriptor y.desc).map (fun d => d.parameters.length) = some n) (hn : As.length = n) (hlk : Cond.methodLinkNest own index y host ∈ lw_tbl)
    (hR : rm.frames + 1 ≤ R.frames ∧ 8 + (maxL + 11) + rm.locals ≤ R.locals) (hA : ∀ q, s.heap.size ≤ q → A q) (hK : KK g s) (hT : ST g.2.2 A s s.heap) (B : WB g A s.heap N ad f H locs) (hls : ls.size = nL)
    (hst : st0 = As.reverse ++ rest) (hW : (rest.map fun v => v.category).sum ≤ 8) (hdg : decode cc pc = .ok (.invokestatic index, 3)) (hf2 : cells + rm.cells ≤ R.cells ∧ slots + rm.slots ≤ R.slots) :
    va_Run p l e R s m args below meth c H locs cells slots rm.cells rm.slots (F0 m pc ls st0) rest (Qc As.toArray) free := by
  obtain ⟨hx, hb, hml, hown, hts, -⟩ := X
  have hm : ∀ w ∈ tb_all, w.before args s = true := fun w h => hts w (List.mem_cons_of_mem _ h)
  exact va_runSN ⟨hx, hb, hml, hown, hts⟩ hM ⟨va_cnB n hts (tb_good hy.1) rfl rfl rfl (hT.1.1 _ hlk rfl) (hm _ hy.2.2) hd hR, hm _ hy.2.1, trivial⟩ (pS hA hK hT B) rfl hn hls hst (lv_room hW) hdg hf2
/-! behind a call -/
theorem k_i {post : Int32 → WS → Prop} {mc ms N' k n : Nat} {a : Array Value} (hA : ∀ q, s.heap.size ≤ q → A q) (B : WB g A s.heap N ad f H locs) (hr : va_Run p l e R s m args below meth c H locs cells slots mc ms (F0 m pc ls st0) rest (va_Qi post (fun u t => PO g N' u.1 u.2 (aw N ad H.size) t) (aw N ad H.size) a) (aw N ad H.size)) (h1 : cells + mc ≤ k) (h2 : slots + ms ≤ n)
    (kk : ∀ (r : Int32) (ad' : Nat → Nat) (f' : Nat → va_E) (H1 : Heap) (locs1 : List Loc), post r (ad', f') → WB g A s.heap N' ad' f' H1 locs1 → W p l e R s m args below meth c H1 locs1 k n Q (F0 m (pc + 3) ls (.int r :: rest))) : W p l e R s m args below meth c H locs cells slots Q (F0 m pc ls st0) :=
  va_calli hr B.2.2 (fun q _ h => aw_of hA B q h) (aw_of hA B) fun r u t H1 locs1 ht _ hp hB _ _ hS => W.widen h1 h2 (kk r u.1 u.2 H1 locs1 hp ⟨by rw [← ht]; exact hB.1, hB.2.weaken (fun _ _ _ h => aw_of hA B _ h), hS⟩)
theorem k_l {post : Int64 → WS → Prop} {mc ms N' k n : Nat} {a : Array Value} (hA : ∀ q, s.heap.size ≤ q → A q) (B : WB g A s.heap N ad f H locs) (hr : va_Run p l e R s m args below meth c H locs cells slots mc ms (F0 m pc ls st0) rest (va_Ql post (fun u t => PO g N' u.1 u.2 (aw N ad H.size) t) (aw N ad H.size) a) (aw N ad H.size)) (h1 : cells + mc ≤ k) (h2 : slots + ms ≤ n)
    (kk : ∀ (r : Int64) (ad' : Nat → Nat) (f' : Nat → va_E) (H1 : Heap) (locs1 : List Loc), post r (ad', f') → WB g A s.heap N' ad' f' H1 locs1 → W p l e R s m args below meth c H1 locs1 k n Q (F0 m (pc + 3) ls (.long r :: rest))) : W p l e R s m args below meth c H locs cells slots Q (F0 m pc ls st0) :=
  va_calll hr B.2.2 (fun q _ h => aw_of hA B q h) (aw_of hA B) fun r u t H1 locs1 ht _ hp hB _ _ hS => W.widen h1 h2 (kk r u.1 u.2 H1 locs1 hp ⟨by rw [← ht]; exact hB.1, hB.2.weaken (fun _ _ _ h => aw_of hA B _ h), hS⟩)
theorem k_v {post : WS → Prop} {mc ms N' k n : Nat} {a : Array Value} (hA : ∀ q, s.heap.size ≤ q → A q) (B : WB g A s.heap N ad f H locs) (hr : va_Run p l e R s m args below meth c H locs cells slots mc ms (F0 m pc ls st0) rest (va_Qv post (fun u t => PO g N' u.1 u.2 (aw N ad H.size) t) (aw N ad H.size) a) (aw N ad H.size)) (h1 : cells + mc ≤ k) (h2 : slots + ms ≤ n)
    (kk : ∀ (ad' : Nat → Nat) (f' : Nat → va_E) (H1 : Heap) (locs1 : List Loc), post (ad', f') → WB g A s.heap N' ad' f' H1 locs1 → W p l e R s m args below meth c H1 locs1 k n Q (F0 m (pc + 3) ls rest)) : W p l e R s m args below meth c H locs cells slots Q (F0 m pc ls st0) :=
  va_callv hr B.2.2 (fun q _ h => aw_of hA B q h) (aw_of hA B) fun u t H1 locs1 ht _ hp hB _ _ hS => W.widen h1 h2 (kk u.1 u.2 H1 locs1 hp ⟨by rw [← ht]; exact hB.1, hB.2.weaken (fun _ _ _ h => aw_of hA B _ h), hS⟩)
theorem k_r {post : Option Nat → WS → Prop} {mc ms N' k n : Nat} {a : Array Value} (hA : ∀ q, s.heap.size ≤ q → A q) (B : WB g A s.heap N ad f H locs) (hr : va_Run p l e R s m args below meth c H locs cells slots mc ms (F0 m pc ls st0) rest (va_Qq post (fun u t => PO g N' u.1 u.2 (aw N ad H.size) t) (aw N ad H.size) a) (aw N ad H.size)) (h1 : cells + mc ≤ k) (h2 : slots + ms ≤ n)
    (kk : ∀ (r : Option Nat) (ad' : Nat → Nat) (f' : Nat → va_E) (H1 : Heap) (locs1 : List Loc), post r (ad', f') → WB g A s.heap N' ad' f' H1 locs1 → W p l e R s m args below meth c H1 locs1 k n Q (F0 m (pc + 3) ls (va_rf r :: rest))) : W p l e R s m args below meth c H locs cells slots Q (F0 m pc ls st0) :=
  va_callq hr B.2.2 (fun q _ h => aw_of hA B q h) (aw_of hA B) fun r u t H1 locs1 ht _ hp hB _ _ hS => W.widen h1 h2 (kk r u.1 u.2 H1 locs1 hp ⟨by rw [← ht]; exact hB.1, hB.2.weaken (fun _ _ _ h => aw_of hA B _ h), hS⟩)
/-! fields and arrays of a place -/
theorem g_get {ref : String} {ci index q k : Nat} {C : String} {T : u_T} {n : Nat} {fs : List Value} {v : Value} (X : CX p s m args meth c cc nL own cw) (hK : KK g s) (B : WB g A s.heap N ad f H locs) (hc : vwCl[ci]? = some (C, T, n)) (hin : ∀ w ∈ u_ws C T n, w ∈ tb_all) (hq : q < N) (hf : f q = .inr (ci, fs)) (hk : k < n) (hlink : Cond.fieldLink own index ref (T k).2.1 (T k).2.2.1 ∈ tb_all) (hsame : (T k).1 = ref) (hv : fs[k]? = some v) (hdg : decode cc pc = .ok (.getfield index, 3))
    (kk : W p l e R s m args below meth c H locs cells slots Q (F0 m (pc + 3) ls (v :: rest))) : W p l e R s m args below meth c H locs cells slots Q (F0 m pc ls (.ref (ad q) :: rest)) := by
  obtain ⟨hx, hb, hml, hown, hts, -⟩ := X
  subst hsame
  exact va_get hx hb hts (fun w h => List.mem_cons_of_mem _ (hin w h)) hown hK B.1 q (by rw [wd_get hq, hf]) hc k hk (hts _ (List.mem_cons_of_mem _ hlink)) (fun _ h => h) hv hdg kk
theorem g_getN {ref host : String} {ci index q k : Nat} {C : String} {T : u_T} {n : Nat} {fs : List Value} {v : Value} (X : CX p s m args meth c cc nL own cw) (hK : KK g s) (hT : ST g.2.2 A s s.heap) (B : WB g A s.heap N ad f H locs) (hc : vwCl[ci]? = some (C, T, n)) (hin : ∀ w ∈ u_ws C T n, w ∈ tb_all) (hq : q < N) (hf : f q = .inr (ci, fs)) (hk : k < n) (hlink : Cond.fieldLinkNest own index ref (T k).2.1 (T k).2.2.1 host ∈ lw_tbl) (hsame : (T k).1 = ref) (hv : fs[k]? = some v) (hdg : decode cc pc = .ok (.getfield index, 3))
    (kk : W p l e R s m args below meth c H locs cells slots Q (F0 m (pc + 3) ls (v :: rest))) : W p l e R s m args below meth c H locs cells slots Q (F0 m pc ls (.ref (ad q) :: rest)) := by
  obtain ⟨hx, hb, hml, hown, hts, -⟩ := X
  subst hsame
  exact va_getN hx hb hts (fun w h => List.mem_cons_of_mem _ (hin w h)) hown hK B.1 q (by rw [wd_get hq, hf]) hc k hk ((hT.1.1 _ hlink rfl).use rfl) (fun _ h => h) hv hdg kk
theorem g_put {ref : String} {ci index q k : Nat} {C : String} {T : u_T} {n : Nat} {fs : List Value} {v : Value} {ty : FieldType} {ty0 : Nat → FieldType} (X : CX p s m args meth c cc nL own cw) (hK : KK g s) (B : WB g A s.heap N ad f H locs) (hc : vwCl[ci]? = some (C, T, n)) (hin : ∀ w ∈ u_ws C T n, w ∈ tb_all) (hty : ∀ k, k < n → parseFieldDescriptor (T k).2.2.1 = some (ty0 k)) (hnm : ∀ a, a < n → ∀ b, b < n → a ≠ b → (T a).2.1 ≠ (T b).2.1) (hq : q < N) (hf : f q = .inr (ci, fs)) (hk : k < n) (hlink : Cond.fieldLink own index ref (T k).2.1 (T k).2.2.1 ∈ tb_all) (hsame : (T k).1 = ref) (hfin : (T k).2.2.2 = false) (hd : ty0 k = ty) (hn : narrow ty v = v) (hfit : fits ty v = true) (hl : k < fs.length) (hdg : decode cc pc = .ok (.putfield index, 3))
    (kk : ∀ (H1 : Heap) (locs1 : List Loc), WB g A s.heap N ad (va_up f q (.inr (ci, fs.set k v))) H1 locs1 → W p l e R s m args below meth c H1 locs1 cells slots Q (F0 m (pc + 3) ls rest)) : W p l e R s m args below meth c H locs cells slots Q (F0 m pc ls (v :: .ref (ad q) :: rest)) := by
  obtain ⟨hx, hb, hml, hown, hts, -⟩ := X
  subst hsame hd
  refine va_put hx hb hts (fun w h => List.mem_cons_of_mem _ (hin w h)) ty0 hty hnm hown hK B.1 B.2.1 B.2.2 q (by rw [wd_get hq, hf]) hc k hk (hts _ (List.mem_cons_of_mem _ hlink)) (fun _ h => h) hfin (hty k hk) hn hfit hl hdg fun H1 locs1 hP hD hS => ?_
  rw [wd_set hq] at hP hD
  exact kk H1 locs1 ⟨hP, hD, hS⟩
theorem g_putF {ref : String} {ci index q k : Nat} {C : String} {T : u_T} {n : Nat} {fs : List Value} {v : Value} {ty : FieldType} {ty0 : Nat → FieldType} (X : CX p s m args meth c cc nL own cw) (hnam : meth.name = "<init>") (hK : KK g s) (B : WB g A s.heap N ad f H locs) (hc : vwCl[ci]? = some (C, T, n)) (hin : ∀ w ∈ u_ws C T n, w ∈ tb_all) (hty : ∀ k, k < n → parseFieldDescriptor (T k).2.2.1 = some (ty0 k)) (hnm : ∀ a, a < n → ∀ b, b < n → a ≠ b → (T a).2.1 ≠ (T b).2.1) (hq : q < N) (hf : f q = .inr (ci, fs)) (hk : k < n) (hlink : Cond.fieldLink own index ref (T k).2.1 (T k).2.2.1 ∈ tb_all) (hsame : (T k).1 = ref) (hown2 : (T k).1 = own) (hfin : (T k).2.2.2 = true) (hd : ty0 k = ty) (hn : narrow ty v = v) (hfit : fits ty v = true) (hl : k < fs.length) (hdg : decode cc pc = .ok (.putfield index, 3))
    (kk : ∀ (H1 : Heap) (locs1 : List Loc), WB g A s.heap N ad (va_up f q (.inr (ci, fs.set k v))) H1 locs1 → W p l e R s m args below meth c H1 locs1 cells slots Q (F0 m (pc + 3) ls rest)) : W p l e R s m args below meth c H locs cells slots Q (F0 m pc ls (v :: .ref (ad q) :: rest)) := by
  obtain ⟨hx, hb, hml, hown, hts, -⟩ := X
  subst hsame hd
  refine va_putF hx hb hts (fun w h => List.mem_cons_of_mem _ (hin w h)) ty0 hty hnm hown hK B.1 B.2.1 B.2.2 q (by rw [wd_get hq, hf]) hc k hk (hts _ (List.mem_cons_of_mem _ hlink)) (fun _ h => h) hfin hnam hown2 (hty k hk) hn hfit hl hdg fun H1 locs1 hP hD hS => ?_
  rw [wd_set hq] at hP hD
  exact kk H1 locs1 ⟨hP, hD, hS⟩
theorem g_new {ci index : Nat} {C : String} {T : u_T} {n : Nat} {fs : List Value} {ty0 : Nat → FieldType} (X : CX p s m args meth c cc nL own cw) (hA : ∀ q, s.heap.size ≤ q → A q) (hK : KK g s) (B : WB g A s.heap N ad f H locs) (hc : vwCl[ci]? = some (C, T, n)) (hin : ∀ w ∈ u_ws C T n, w ∈ tb_all) (hty : ∀ k, k < n → parseFieldDescriptor (T k).2.2.1 = some (ty0 k)) (hcl : Cond.classLink own index C ∈ tb_all) (hinst : Cond.instantiable C n ∈ tb_all) (hini : Cond.initialized C ∈ tb_all) (hfs : (List.range n).all (fun j => decide (defaultValue (ty0 j) = vp_V fs j)) = true) {k1 k2 : Nat} (hcells : cells + 1 ≤ R.cells) (hslots : slots + n ≤ R.slots) (h1 : cells + 1 ≤ k1) (h2 : slots + n ≤ k2) (hdg : decode cc pc = .ok (.new index, 3))
    (kk : ∀ (a : Nat) (H1 : Heap), WB g A s.heap (N + 1) (va_up ad N a) (va_up f N (.inr (ci, fs))) H1 locs → W p l e R s m args below meth c H1 locs k1 k2 Q (F0 m (pc + 3) ls (.ref a :: rest))) : W p l e R s m args below meth c H locs cells slots Q (F0 m pc ls rest) := by
  obtain ⟨hx, hb, hml, hown, hts, -⟩ := X
  have hm : ∀ w ∈ tb_all, w.before args s = true := fun w h => hts w (List.mem_cons_of_mem _ h)
  refine va_new hx hb hts (fun w h => List.mem_cons_of_mem _ (hin w h)) ty0 hty hown (hm _ hcl) (hm _ hinst) (hm _ hini) hK B.1 B.2.1 B.2.2 hA hc (fs := fs) (fun j hj => by have := List.all_eq_true.mp hfs j (List.mem_range.mpr hj); exact of_decide_eq_true this) hcells hslots hdg fun a H1 hP hD hS => W.widen h1 h2 ?_
  rw [wd_push] at hP hD
  exact kk a H1 ⟨hP, hD, hS⟩
theorem g_iald {q t0 n : Nat} {cA : ClassId} {h : Nat → Int32} {i : Int32} (X : CX p s m args meth c cc nL own cw) (hK : KK g s) (B : WB g A s.heap N ad f H locs) (hq : q < N) (hf : f q = .inl (cA, n, .inl h)) (ht : cA = g.2.1 0) (hi : vp_in i n) (hdg : decode cc pc = .ok (.iaload, 1))
    (kk : W p l e R s m args below meth c H locs cells slots Q (F0 m (pc + 1) ls (.int (h i.toNatClampNeg) :: rest))) : W p l e R s m args below meth c H locs cells slots Q (F0 m pc ls (.int i :: .ref (ad q) :: rest)) := by
  subst ht
  exact va_iald X.1 X.2.1 hK B.1 q 0 (by rw [wd_get hq, hf]) rfl hi hdg kk
theorem g_iast {q n : Nat} {cA : ClassId} {h : Nat → Int32} {i x : Int32} (X : CX p s m args meth c cc nL own cw) (hK : KK g s) (B : WB g A s.heap N ad f H locs) (hq : q < N) (hf : f q = .inl (cA, n, .inl h)) (ht : cA = g.2.1 0) (hi : vp_in i n) (hdg : decode cc pc = .ok (.iastore, 1))
    (kk : ∀ (H1 : Heap) (locs1 : List Loc), WB g A s.heap N ad (va_up f q (.inl (cA, n, .inl (upd h i.toNatClampNeg x)))) H1 locs1 → W p l e R s m args below meth c H1 locs1 cells slots Q (F0 m (pc + 1) ls rest)) : W p l e R s m args below meth c H locs cells slots Q (F0 m pc ls (.int x :: .int i :: .ref (ad q) :: rest)) := by
  subst ht
  refine va_iast X.1 X.2.1 hK B.1 B.2.1 B.2.2 q 0 (by rw [wd_get hq, hf]) rfl hi hdg fun H1 locs1 hP hD hS => ?_
  rw [wd_set hq] at hP hD
  exact kk H1 locs1 ⟨hP, hD, hS⟩
theorem g_aald {q t0 n : Nat} {cA : ClassId} {h : Nat → Option Nat} {i : Int32} {ty : FieldType} (X : CX p s m args meth c cc nL own cw) (hK : KK g s) (B : WB g A s.heap N ad f H locs) (hq : q < N) (hf : f q = .inl (cA, n, .inr (.inr (.inr (.inr h))))) (ht : (TY g.2.1)[t0]? = some (cA, ty)) (hty : ty.isReference = true) (hi : vp_in i n) (hdg : decode cc pc = .ok (.aaload, 1))
    (kk : W p l e R s m args below meth c H locs cells slots Q (F0 m (pc + 1) ls (va_rf (h i.toNatClampNeg) :: rest))) : W p l e R s m args below meth c H locs cells slots Q (F0 m pc ls (.int i :: .ref (ad q) :: rest)) := by
  have hlt : i.toNatClampNeg < n := Nat.not_le.mp fun q => hi (Or.inr q)
  have hc := wd_P.mp B.1 q hq
  rw [hf] at hc
  exact W.aald (v := va_rf (h i.toNatClampNeg)) (ty := ty) X.1 X.2.1 hc ((hK.2 t0 _ ht).1 n (fun j => va_rf (h j))) hty (fun q => by cases q) (by show ¬ (i < 0 ∨ (arrV _ _ _).slots.size ≤ _); rw [arrV_size]; exact hi) (by show (arrV _ _ _).slots[_]? = _; rw [arrV_read _ _ hlt]) rfl rfl hdg kk
theorem g_alen {q t0 : Nat} {cA : ClassId} {x : vp_A} {ty : FieldType} {v : Int32} (X : CX p s m args meth c cc nL own cw) (hK : KK g s) (B : WB g A s.heap N ad f H locs) (hq : q < N) (hf : f q = .inl (cA, x)) (ht : (TY g.2.1)[t0]? = some (cA, ty)) (hv : Int32.ofNat x.1 = v) (hdg : decode cc pc = .ok (.arraylength, 1))
    (kk : W p l e R s m args below meth c H locs cells slots Q (F0 m (pc + 1) ls (.int v :: rest))) : W p l e R s m args below meth c H locs cells slots Q (F0 m pc ls (.ref (ad q) :: rest)) :=
  va_alen X.1 X.2.1 hK B.1 q t0 (by rw [wd_get hq, hf]) ht hv hdg kk
end RW
