/-! more rows: calls that may throw, throwing, a nest mate's constructor -/
theorem at_of {args : Array Value} {s : State} {cw : Cond} {L : List Cond} (h : L.all (fun w => decide (w ∈ lw_tbl) && (goodWord w || ng_ok w)) = true) (hts : ∀ w ∈ cw :: tb_all, w.before args s = true) (hng : ng_all s) : ∀ w ∈ L, w.before args s = true := by
  intro w hw
  have h1 := List.all_eq_true.mp h w hw
  simp only [Bool.and_eq_true, decide_eq_true_eq, Bool.or_eq_true] at h1
  rcases h1.2 with h2 | h2
  · exact hts w (List.mem_cons_of_mem _ (tb_in h1.1 h2))
  · have h3 := hng w h1.1 h2
    cases w <;> first | exact va_Nw.use rfl h3 | exact Cond.privateMethod_warm (State.WarmedH.refl s) h3 | (simp [ng_ok] at h2)
section RX
variable {p : Program} {l : Launch} {e : Env} {R : Room} {s : State} {m : MethodId} {args : Array Value} {below : List Frame} {meth : Method} {c : Code} {H : Heap} {locs : List Loc} {cells slots : Nat} {Q : State → Prop}
variable {cc : ByteArray} {nL : Nat} {own : String} {cw : Cond} {pc : Nat} {ls : Array Slot} {rest st0 : List Value} {g : GG} {A : Nat → Prop} {H0 : Heap} {N : Nat} {ad : Nat → Nat} {f : Nat → va_E}
theorem u_IN {y : MethodName} {host : String} {bytes : ByteArray} {maxL index n : Nat} {rm : Room} {As : List Value} {b : Nat} {Qc : Array Value → State → Outcome → State → Prop} {free : Addr → Prop}
    (X : CX p s m args meth c cc nL own cw) (hM : Met l y (Cond.code y bytes maxL none :: tb_all) rm (va_Pc (.ref b :: As) (PR g N ad f H.size)) Qc rm.cells rm.slots free)
    (hy : Cond.code y bytes maxL none ∈ tb_all ∧ Cond.instanceMethod y ∈ tb_all ∧ Cond.initialized y.cls ∈ tb_all) (hy1 : y.name = "<init>") (hd : y.cls ≠ "java/lang/invoke/MethodHandle" ∧ y.cls ≠ "java/lang/invoke/VarHandle" ∧ (parseMethodDescriptor y.desc).map (fun d => d.parameters.length) = some n) (hn : As.length = n) (hlk : Cond.methodLinkNest own index y host ∈ lw_tbl)
    (hR : rm.frames + 1 ≤ R.frames ∧ 8 + (maxL + 11) + rm.locals ≤ R.locals) (hA : ∀ q, s.heap.size ≤ q → A q) (hK : KK g s) (hT : ST g.2.2 A s s.heap) (B : WB g A s.heap N ad f H locs) (hls : ls.size = nL)
    (hst : st0 = As.reverse ++ .ref b :: rest) (hW : (rest.map fun v => v.category).sum ≤ 8) (hdg : decode cc pc = .ok (.invokespecial index, 3)) (hf2 : cells + rm.cells ≤ R.cells ∧ slots + rm.slots ≤ R.slots) :
    va_Run p l e R s m args below meth c H locs cells slots rm.cells rm.slots (F0 m pc ls st0) rest (Qc (Value.ref b :: As).toArray) free := by
  obtain ⟨hx, hb, hml, hown, hts, -⟩ := X
  have hm : ∀ w ∈ tb_all, w.before args s = true := fun w h => hts w (List.mem_cons_of_mem _ h)
  exact va_runIN ⟨hx, hb, hml, hown, hts⟩ hM ⟨va_cnB n hts (tb_good hy.1) rfl rfl rfl (hT.1.1 _ hlk rfl) (hm _ hy.2.2) hd hR, hy1, hm _ hy.2.1⟩ (pS hA hK hT B) rfl hn hls hst (lv_room hW) hdg hf2
theorem ux_V {y : MethodName} {bytes : ByteArray} {maxL index n : Nat} {ret : Option FieldType} {rm : Room} {As : List Value} {Qc : Array Value → State → Outcome → State → Prop} {XC : String → State → State → Prop} {free : Addr → Prop} {q ci : Nat} {fs : List Value} {r : vw_C}
    (X : CX p s m args meth c cc nL own cw) (hM : vx_Met l y (Cond.code y bytes maxL ret :: tb_all) rm (va_Pc (.ref (ad q) :: As) (PR g N ad f H.size)) Qc XC rm.cells rm.slots free)
    (hy : Cond.code y bytes maxL ret ∈ tb_all ∧ Cond.instanceMethod y ∈ tb_all ∧ Cond.selects y.cls y y ∈ tb_all ∧ Cond.initialized y.cls ∈ tb_all) (hd : y.cls ≠ "java/lang/invoke/MethodHandle" ∧ y.cls ≠ "java/lang/invoke/VarHandle" ∧ (parseMethodDescriptor y.desc).map (fun d => d.parameters.length) = some n) (hn : As.length = n) (hlk : Cond.methodLink own index y ∈ tb_all)
    (hR : rm.frames + 1 ≤ R.frames ∧ 8 + (maxL + 11) + rm.locals ≤ R.locals) (hA : ∀ q, s.heap.size ≤ q → A q) (hK : KK g s) (hT : ST g.2.2 A s s.heap) (B : WB g A s.heap N ad f H locs) (hq : q < N) (hf : f q = .inr (ci, fs)) (hc : vwCl[ci]? = some r) (hyc : y.cls = r.1) (hls : ls.size = nL)
    (hst : st0 = As.reverse ++ .ref (ad q) :: rest) (hW : (rest.map fun v => v.category).sum ≤ 8) (hdg : decode cc pc = .ok (.invokevirtual index, 3)) (hf2 : cells + rm.cells ≤ R.cells ∧ slots + rm.slots ≤ R.slots) :
    vx_Run p l e R s m args below meth c H locs cells slots rm.cells rm.slots (F0 m pc ls st0) rest (Qc (Value.ref (ad q) :: As).toArray) XC free := by
  obtain ⟨hx, hb, hml, hown, hts, -⟩ := X
  have hm : ∀ w ∈ tb_all, w.before args s = true := fun w h => hts w (List.mem_cons_of_mem _ h)
  have hp := pV (As := As) hA hK hT B hq hf hc
  rw [← hyc] at hp
  exact vx_runV ⟨hx, hb, hml, hown, hts⟩ hM ⟨callB_of n hts (tb_good hy.1) rfl rfl rfl (hm _ hy.2.2.2) (hm _ hlk) hd hR, hm _ hy.2.1, hm _ hy.2.2.1⟩ hp rfl hn hls hst (lv_room hW) hdg hf2
theorem ux_S {y : MethodName} {bytes : ByteArray} {maxL index n : Nat} {ret : Option FieldType} {rm : Room} {As : List Value} {Qc : Array Value → State → Outcome → State → Prop} {XC : String → State → State → Prop} {free : Addr → Prop}
    (X : CX p s m args meth c cc nL own cw) (hM : vx_Met l y (Cond.code y bytes maxL ret :: tb_all) rm (va_Pc As (PR g N ad f H.size)) Qc XC rm.cells rm.slots free)
    (hy : Cond.code y bytes maxL ret ∈ tb_all ∧ Cond.static y ∈ tb_all ∧ Cond.initialized y.cls ∈ tb_all) (hd : y.cls ≠ "java/lang/invoke/MethodHandle" ∧ y.cls ≠ "java/lang/invoke/VarHandle" ∧ (parseMethodDescriptor y.desc).map (fun d => d.parameters.length) = some n) (hn : As.length = n) (hlk : Cond.methodLink own index y ∈ tb_all)
    (hR : rm.frames + 1 ≤ R.frames ∧ 8 + (maxL + 11) + rm.locals ≤ R.locals) (hA : ∀ q, s.heap.size ≤ q → A q) (hK : KK g s) (hT : ST g.2.2 A s s.heap) (B : WB g A s.heap N ad f H locs) (hls : ls.size = nL)
    (hst : st0 = As.reverse ++ rest) (hW : (rest.map fun v => v.category).sum ≤ 8) (hdg : decode cc pc = .ok (.invokestatic index, 3)) (hf2 : cells + rm.cells ≤ R.cells ∧ slots + rm.slots ≤ R.slots) :
    vx_Run p l e R s m args below meth c H locs cells slots rm.cells rm.slots (F0 m pc ls st0) rest (Qc As.toArray) XC free := by
  obtain ⟨hx, hb, hml, hown, hts, -⟩ := X
  have hm : ∀ w ∈ tb_all, w.before args s = true := fun w h => hts w (List.mem_cons_of_mem _ h)
  exact vx_runS ⟨hx, hb, hml, hown, hts⟩ hM ⟨callB_of n hts (tb_good hy.1) rfl rfl rfl (hm _ hy.2.2) (hm _ hlk) hd hR, hm _ hy.2.1⟩ (pS hA hK hT B) rfl hn hls hst (lv_room hW) hdg hf2
theorem XS_of {px' : String → Prop} {E : String} {t : State} {H1 : Heap} {locs1 : List Loc} {sz : Nat} {f' : Nat → va_E} (hsz : sz = s.heap.size) (hA : ∀ q, s.heap.size ≤ q → aw N ad sz q) (B : WB g (aw N ad sz) s.heap N ad f H locs) (hB : PO g N ad f' (aw N ad H.size) t) (ht : t.heap = H1) (hS : va_S (aw N ad sz) s.heap H1 locs1) (hp : px' E) : ∀ t' : State, t'.heap = H1 → s.vm.Alike t'.vm → XS g N ad f' sz px' E s t' := by
  intro t' ht' _
  refine ⟨(), trivial, ⟨hp, by rw [ht', ← ht]; exact hB.1, hB.2.weaken (fun _ _ _ h => aw_of hA B _ h)⟩, hS.F ht'⟩
theorem k_xi {post : Int32 → WS → Prop} {Qc : Array Value → State → Outcome → State → Prop} {px px' : String → Prop} {mc ms mc' ms' N' k n sz : Nat} {a : Array Value} (hex : ∀ x ∈ c.exceptionTable.toList, False) (X : CX p s m args meth c cc nL own cw) (hsz : sz = s.heap.size) (hA : ∀ q, s.heap.size ≤ q → aw N ad sz q) (B : WB g (aw N ad sz) s.heap N ad f H locs) (hr : vx_Run p l e R s m args below meth c H locs cells slots mc ms (F0 m pc ls st0) rest (va_Qi post (fun u t => PO g N' u.1 u.2 (aw N ad H.size) t) (aw N ad H.size) a) (XS g N ad f H.size px) (aw N ad H.size)) (h1 : cells + mc ≤ k) (h2 : slots + ms ≤ n) (h3 : k ≤ mc') (h4 : n ≤ ms') (hpx : ∀ E, px E → px' E)
    (kk : ∀ (r : Int32) (ad' : Nat → Nat) (f' : Nat → va_E) (H1 : Heap) (locs1 : List Loc), post r (ad', f') → WB g (aw N ad sz) s.heap N' ad' f' H1 locs1 → W p l e R s m args below meth c H1 locs1 k n (vx_MQ below Qc (XS g N ad f sz px') args s mc' ms' (aw N ad sz)) (F0 m (pc + 3) ls (.int r :: rest))) : W p l e R s m args below meth c H locs cells slots (vx_MQ below Qc (XS g N ad f sz px') args s mc' ms' (aw N ad sz)) (F0 m pc ls st0) :=
  vx_calli hr B.2.2 (fun q _ h => aw_of hA B q h) (aw_of hA B) (fun q _ h => aw_of hA B q h)
    (fun E ce q9 u t H1 locs1 ht _ _ hB _ _ hS hc hv hcl => vx_out (fun x hx => (hex x hx).elim) X.2.2.2.2.2 hc hv hcl (XS_of hsz hA B hB.2 ht hS (hpx E hB.1)) hS.2.2 (by omega) (by omega))
    fun r u t H1 locs1 ht _ hp hB _ _ hS => W.widen h1 h2 (kk r u.1 u.2 H1 locs1 hp ⟨by rw [← ht]; exact hB.1, hB.2.weaken (fun _ _ _ h => aw_of hA B _ h), hS⟩)
theorem k_xv {post : WS → Prop} {Qc : Array Value → State → Outcome → State → Prop} {px px' : String → Prop} {mc ms mc' ms' N' k n sz : Nat} {a : Array Value} (hex : ∀ x ∈ c.exceptionTable.toList, False) (X : CX p s m args meth c cc nL own cw) (hsz : sz = s.heap.size) (hA : ∀ q, s.heap.size ≤ q → aw N ad sz q) (B : WB g (aw N ad sz) s.heap N ad f H locs) (hr : vx_Run p l e R s m args below meth c H locs cells slots mc ms (F0 m pc ls st0) rest (va_Qv post (fun u t => PO g N' u.1 u.2 (aw N ad H.size) t) (aw N ad H.size) a) (XS g N ad f H.size px) (aw N ad H.size)) (h1 : cells + mc ≤ k) (h2 : slots + ms ≤ n) (h3 : k ≤ mc') (h4 : n ≤ ms') (hpx : ∀ E, px E → px' E)
    (kk : ∀ (ad' : Nat → Nat) (f' : Nat → va_E) (H1 : Heap) (locs1 : List Loc), post (ad', f') → WB g (aw N ad sz) s.heap N' ad' f' H1 locs1 → W p l e R s m args below meth c H1 locs1 k n (vx_MQ below Qc (XS g N ad f sz px') args s mc' ms' (aw N ad sz)) (F0 m (pc + 3) ls rest)) : W p l e R s m args below meth c H locs cells slots (vx_MQ below Qc (XS g N ad f sz px') args s mc' ms' (aw N ad sz)) (F0 m pc ls st0) :=
  vx_callv hr B.2.2 (fun q _ h => aw_of hA B q h) (aw_of hA B) (fun q _ h => aw_of hA B q h)
    (fun E ce q9 u t H1 locs1 ht _ _ hB _ _ hS hc hv hcl => vx_out (fun x hx => (hex x hx).elim) X.2.2.2.2.2 hc hv hcl (XS_of hsz hA B hB.2 ht hS (hpx E hB.1)) hS.2.2 (by omega) (by omega))
    fun u t H1 locs1 ht _ hp hB _ _ hS => W.widen h1 h2 (kk u.1 u.2 H1 locs1 hp ⟨by rw [← ht]; exact hB.1, hB.2.weaken (fun _ _ _ h => aw_of hA B _ h), hS⟩)
/-- as va_calli, of a callee that answers a reference and may throw -/
theorem vx_callq {S SX : Type} {post : Option Nat → S → Prop} {px : SX → Prop} {Bf : S → State → Prop} {BX : String → SX → State → Prop} {A0 A1 AX : Nat → Prop} {free : Addr → Prop} {mc ms : Nat} {a : Array Value} (hr : vx_Run p l e R s m args below meth c H locs cells slots mc ms (F0 m pc ls st0) rest (va_Qq post Bf A1 a) (vx_X px BX AX) free) (hS : va_S A0 H0 H locs) (hA : ∀ q, q < H.size → A1 q → A0 q) (hf : ∀ q, free q → A0 q) (hAX : ∀ q, q < H.size → AX q → A0 q)
    (kx : ∀ (E : String) (ce : Cell) (q9 : Addr) (u : SX) (t : State) (H1 : Heap) (locs1 : List Loc), t.heap = H1 → s.vm.Alike t.vm → px u → BX E u t → H.size ≤ H1.size → (∀ q : Nat, q < H.size → ¬ AX q → H1[q]? = H[q]?) → va_S A0 H0 H1 locs1 → H1[q9]? = some ce → ce.vm = .none → s.vm.findClass E = some ce.cls → vx_W p l e R s m args below meth c H1 locs1 (cells + mc) (slots + ms) Q (F0 m pc ls rest) q9)
    (kk : ∀ (r : Option Nat) (u : S) (t : State) (H1 : Heap) (locs1 : List Loc), t.heap = H1 → s.vm.Alike t.vm → post r u → Bf u t → H.size ≤ H1.size → (∀ q : Nat, q < H.size → ¬ A1 q → H1[q]? = H[q]?) → va_S A0 H0 H1 locs1 → W p l e R s m args below meth c H1 locs1 (cells + mc) (slots + ms) Q (F0 m (pc + 3) ls (va_rf r :: rest))) : W p l e R s m args below meth c H locs cells slots Q (F0 m pc ls st0) := by
  intro T hT X
  rcases hr T hT X with ⟨v, st₀, t, T', L, h0, X', hL, e1, e2, hq, hg⟩ | ⟨q, st₀, t, T', L, E, ce, h0, X', hL, e1, e2, hx, hc, hv, hcl, hg⟩
  · obtain ⟨⟨r, u, hr2, hp, hB⟩, hF⟩ := hq
    cases hr2
    obtain ⟨k1, k2, k3⟩ := vx_keep h0 e1 hS hA hf hL hF
    obtain ⟨t', a1, b1⟩ := kk r u t T'.heap (locs ++ L) e1.symm (by rw [← e2]; exact X'.warmed.alike) hp hB k1 k2 k3 T' rfl X'
    exact ⟨t', hg t' a1, b1⟩
  · obtain ⟨u, hp, hB, hF⟩ := hx
    obtain ⟨k1, k2, k3⟩ := vx_keep h0 e1 hS hAX hf hL hF
    obtain ⟨t', a1, b1⟩ := kx E ce q u t T'.heap (locs ++ L) e1.symm (by rw [← e2]; exact X'.warmed.alike) hp hB k1 k2 k3 (by rw [e1]; exact hc) hv hcl T' rfl X'
    exact ⟨t', hg.trans a1, b1⟩
theorem k_xr {post : Option Nat → WS → Prop} {Qc : Array Value → State → Outcome → State → Prop} {px px' : String → Prop} {mc ms mc' ms' N' k n sz : Nat} {a : Array Value} (hex : ∀ x ∈ c.exceptionTable.toList, False) (X : CX p s m args meth c cc nL own cw) (hsz : sz = s.heap.size) (hA : ∀ q, s.heap.size ≤ q → aw N ad sz q) (B : WB g (aw N ad sz) s.heap N ad f H locs) (hr : vx_Run p l e R s m args below meth c H locs cells slots mc ms (F0 m pc ls st0) rest (va_Qq post (fun u t => PO g N' u.1 u.2 (aw N ad H.size) t) (aw N ad H.size) a) (XS g N ad f H.size px) (aw N ad H.size)) (h1 : cells + mc ≤ k) (h2 : slots + ms ≤ n) (h3 : k ≤ mc') (h4 : n ≤ ms') (hpx : ∀ E, px E → px' E)
    (kk : ∀ (r : Option Nat) (ad' : Nat → Nat) (f' : Nat → va_E) (H1 : Heap) (locs1 : List Loc), post r (ad', f') → WB g (aw N ad sz) s.heap N' ad' f' H1 locs1 → W p l e R s m args below meth c H1 locs1 k n (vx_MQ below Qc (XS g N ad f sz px') args s mc' ms' (aw N ad sz)) (F0 m (pc + 3) ls (va_rf r :: rest))) : W p l e R s m args below meth c H locs cells slots (vx_MQ below Qc (XS g N ad f sz px') args s mc' ms' (aw N ad sz)) (F0 m pc ls st0) :=
  vx_callq hr B.2.2 (fun q _ h => aw_of hA B q h) (aw_of hA B) (fun q _ h => aw_of hA B q h)
    (fun E ce q9 u t H1 locs1 ht _ _ hB _ _ hS hc hv hcl => vx_out (fun x hx => (hex x hx).elim) X.2.2.2.2.2 hc hv hcl (XS_of hsz hA B hB.2 ht hS (hpx E hB.1)) hS.2.2 (by omega) (by omega))
    fun r u t H1 locs1 ht _ hp hB _ _ hS => W.widen h1 h2 (kk r u.1 u.2 H1 locs1 hp ⟨by rw [← ht]; exact hB.1, hB.2.weaken (fun _ _ _ h => aw_of hA B _ h), hS⟩)
/-- throw new X(text) -/
theorem g_throw {cls text : String} {names : List String} {ik is ic mc ms sz i : Nat} {px : String → Prop} {Qc : Array Value → State → Outcome → State → Prop} (X : CX p s m args meth c cc nL own cw) (hfl : l.stackTraces = false) (hcls : Bundle.fit cls = true ∧ (∀ n ∈ names, Bundle.fit n = true)) (hk : Cond.classLink own ik cls ∈ tb_all) (hini : Cond.initialized cls ∈ tb_all) (hi : i < st_n) (hs : st_own.getD i ("", 0, "") = (own, is, text))
    (hat : (vx_atS own ic cls names).all (fun w => decide (w ∈ lw_tbl) && (goodWord w || ng_ok w)) = true) (hgood : (vx_atS own ic cls names).all vx_ot = true) (hex : ∀ x ∈ c.exceptionTable.toList, False) (hsz : sz = s.heap.size) (hT : ST g.2.2 (aw N ad sz) s s.heap) (B : WB g (aw N ad sz) s.heap N ad f H locs) (hls : ls.size = nL)
    (d0 : decode cc pc = .ok (.new ik, 3)) (d3 : decode cc (pc + 3) = .ok (.dup, 1)) (d4 : decode cc (pc + 4) = .ok (.ldc is, 2)) (d6 : decode cc (pc + 6) = .ok (.invokespecial ic, 3)) (d9 : decode cc (pc + 9) = .ok (.athrow, 1))
    (hRf : names.length + 3 < R.frames) (hRl : (rest.map fun v => v.category).sum + (13 * (names.length + 1) + 43) ≤ R.locals) (hRc : cells + 1 ≤ R.cells) (hRs : slots + 6 ≤ R.slots) (hp : px cls) (h1 : cells + 1 ≤ mc) (h2 : slots + 6 ≤ ms) :
    W p l e R s m args below meth c H locs cells slots (vx_MQ below Qc (XS g N ad f sz px) args s mc ms (aw N ad sz)) (F0 m pc ls rest) := by
  obtain ⟨hx, hb, hml, hown, hts, hlocks⟩ := X
  have hm : ∀ w ∈ tb_all, w.before args s = true := fun w h => hts w (List.mem_cons_of_mem _ h)
  have hstr := hT.2.2.2.1 i hi
  rw [hs] at hstr
  refine vx_throwS (A := aw N ad sz) hx hb hfl hown hcls.1 hcls.2 (hm _ hk) (hm _ hini) hstr (at_of hat hts hT.1.1) (fun w hw => ?_) hT.2.2.1.1 hT.2.2.1.2 B.2.2 (by rw [hls, hml]) d0 d3 d4 d6 d9 (fun x hx => (hex x hx).elim) hRf hRl hRc hRs hlocks (fun t hal h1 h2 => ?_) B.2.2.2.2 h1 h2
  · rcases List.mem_cons.mp hw with e1 | hw
    · rw [e1]; rfl
    · rcases List.mem_cons.mp hw with e1 | hw
      · rw [e1]; rfl
      · exact List.all_eq_true.mp hgood w hw
  · refine ⟨(), trivial, ⟨hp, B.1.kept (fun k x hx => h2 x.1 ((B.1 k x hx).lt)), B.2.1⟩, Nat.le_trans B.2.2.1 h1, fun x h3 h4 => (h2 x (Nat.lt_of_lt_of_le h3 B.2.2.1)).trans (B.2.2.2.1 x h3 h4)⟩
end RX
/-! what is thrown, one after the other -/
def xo (a b : Option String) : Option String := match a with | some e => some e | none => b
theorem xo_none {a b : Option String} (h : a = none) : xo a b = b := by rw [h]; rfl
theorem xo_some {a b : Option String} {E : String} (h : a = some E) : xo a b = some E := by rw [h]; rfl
def iobN : String := "java/lang/IndexOutOfBoundsException"
def iaeN : String := "java/lang/IllegalArgumentException"
