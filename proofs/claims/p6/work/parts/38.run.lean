/-! calls of an abstract class's own methods by an object of a class that extends it: private ones, those by super, inherited ones -/
theorem self_sub (vm : Vm) (c : ClassId) : vm.isSubclass c c = true := by
  simp [Vm.isSubclass, Vm.isSubclassAux]
section VRP
variable {p : Program} {l : Launch} {e : Env} {R : Room} {s : State} {m : MethodId} {args : Array Value} {below : List Frame} {meth : Method} {c : Code} {H : Heap} {locs : List Loc} {cells slots : Nat}
variable {y : MethodName} {bytes cc : ByteArray} {maxL nL mc ms n index : Nat} {ret : Option FieldType} {ws : List Cond} {rm : Room} {Pc : Array Value → State → Prop} {Qc : Array Value → State → Outcome → State → Prop} {free : Addr → Prop} {Ts : List Cond} {own C : String} {b : Addr} {As rest : List Value} {g : JFrame}
theorem va_runP (S : CallFix p m c cc nL s args Ts own) (hM : Met l y ws rm Pc Qc mc ms free) (cw : CallB R s args own index y bytes maxL ret ws rm mc ms n ∧ (Cond.instanceMethod y).before args s = true ∧ (Cond.selects y.cls y y).before args s = true ∧ s.PrivateAt y) (hp : PreV s H C b Pc As)
    (hg : g.method = m) (hn : As.length = n) (hsize : g.locals.size = nL) (hstack : g.stack = As.reverse ++ .ref b :: rest) (hW : 2 * g.monitorRoom + (rest.map fun v => v.category).sum ≤ 8) (hdg : decode cc g.pc = .ok (.invokevirtual index, 3)) (hf : cells + mc ≤ R.cells ∧ slots + ms ≤ R.slots) :
    va_Run p l e R s m args below meth c H locs cells slots mc ms g rest (Qc (Value.ref b :: As).toArray) (free) := by
  have hK : Back l R p e below s args y 3 8 (PreOf R mc ms Pc) (PostOf Qc mc ms free) := callBack cw.1 hM hp.1
  obtain ⟨⟨-, -, -, -, -, -, hcode, -, hy, hlen, hl⟩, hin, hse, hpr⟩ := cw
  obtain ⟨hx, hb, hml, ho, -⟩ := S
  obtain ⟨-, ⟨cellB, hcB, hoB, hclB⟩, hPc⟩ := hp
  intro T hT X
  obtain ⟨v, vm₁, ⟨U', l2, c2, s2⟩, hW₁, X', ⟨g', mk, t, L, e1, e2, hq, h1, hL, h2, h3⟩, st⟩ := X.privateBack hx (bytes := bytes) (maxL := maxL) (ret := ret) ho hl hin hse hpr hcode hy hK hg (hsize.trans hml.symm) (s₀ := T.setTop g) (Steps.refl _) (a := b) (cell := cellB) (by rw [hT]; exact hcB) (fun z h => by rw [h] at hoB; cases hoB) (argsL := As) (rest := rest) (fun sig h => hn.trans (hlen sig h)) hstack hW (by rw [hb]; exact hdg)
    (fun vm₁ hW₁ => ⟨hf.1, hf.2, hPc (T.setVm vm₁) hT hW₁⟩)
  dsimp only [Pt.U, Pt.locs, Pt.cells, Pt.slots] at X' e1 e2 h1 h2 h3 st
  subst h1; subst h2; subst h3
  exact ⟨v, (T.setVm vm₁).calling g' mk (Value.ref b :: As).toArray, t, U', L, hT, X', hL, e1, e2, hq, fun target h => st.trans h⟩
theorem va_runUp (S : CallFix p m c cc nL s args Ts own) (hM : Met l y ws rm Pc Qc mc ms free) (cw : CallB R s args own index y bytes maxL ret ws rm mc ms n ∧ (Cond.instanceMethod y).before args s = true ∧ (Cond.superclass own y.cls).before args s = true) (hni : y.name ≠ "<init>") (hp : PreV s H C b Pc As)
    (hg : g.method = m) (hn : As.length = n) (hsize : g.locals.size = nL) (hstack : g.stack = As.reverse ++ .ref b :: rest) (hW : 2 * g.monitorRoom + (rest.map fun v => v.category).sum ≤ 8) (hdg : decode cc g.pc = .ok (.invokespecial index, 3)) (hf : cells + mc ≤ R.cells ∧ slots + ms ≤ R.slots) (hnf : ∀ (pc : ClassId) (kp : Class), s.vm.findClass y.cls = some pc → s.vm.classes[pc]? = some kp → kp.isInterface = false) :
    va_Run p l e R s m args below meth c H locs cells slots mc ms g rest (Qc (Value.ref b :: As).toArray) (free) := by
  have hK : Back l R p e below s args y 3 8 (PreOf R mc ms Pc) (PostOf Qc mc ms free) := callBack cw.1 hM hp.1
  obtain ⟨⟨-, -, -, -, -, -, hcode, -, hy, hlen, hl⟩, hin, hsu⟩ := cw
  obtain ⟨hx, hb, hml, ho, -⟩ := S
  obtain ⟨-, ⟨cellB, hcB, hoB, hclB⟩, hPc⟩ := hp
  obtain ⟨pc, k, kp, hpc, hk, hkp, hsup, -, -, hki⟩ := Cond.superclass_spec ho hsu
  obtain ⟨mk0, methM, hnamed, hmethM, hstM, habM⟩ := Cond.instanceMethod_spec hin
  obtain ⟨methM', cM, hmethM', -, -, -, -, -, -, hsigM⟩ := Cond.code_spec hnamed hcode
  cases hmethM.symm.trans hmethM'
  have hfound : s.methodFound? y.cls y.name y.desc = some mk0 := State.methodFound?_of_named hnamed hy
  have hcls : mk0.cls = pc := Option.some.inj ((findClass_of_methodNamed hnamed).symm.trans hpc)
  have hnif := hnf pc kp hpc hkp
  have hsame : (Cond.sameMethod y.cls y.cls y.name y.desc).before args s = true := by
    have hnamed' : s.methodNamed? ⟨y.cls, y.name, y.desc⟩ = some mk0 := hnamed
    simp only [Cond.before, Cond.holds, Cond.value, hpc, hfound, hnamed', hkp]
    simp
    exact hnif
  obtain ⟨kc, hkc, -⟩ := Vm.findClass_spec hclB
  intro T hT X
  obtain ⟨v, vm₁, ⟨U', l2, c2, s2⟩, hW₁, X', ⟨g', mk, t, L, e1, e2, hq, h1, hL, h2, h3⟩, st⟩ := X.specialUpBack hx (own := own) (owner := y.cls) (x := y) ho hl hsame (r0 := mk0) (r := methM) hnamed hmethM hstM habM hni hk hki hpc hsup (by rw [hcls]; exact self_sub _ _) (a := b) (cell := cellB) (kcell := kc) (by rw [hT]; exact hcB) (fun z h => by rw [h] at hoB; cases hoB) hkc hK hg (hsize.trans hml.symm) (s₀ := T.setTop g) (Steps.refl _) (argsL := As) (rest := rest) (hn.trans (hlen _ hsigM)) hstack hW (by rw [hb]; exact hdg)
    (fun vm₁ hW₁ => ⟨hf.1, hf.2, hPc (T.setVm vm₁) hT hW₁⟩)
  dsimp only [Pt.U, Pt.locs, Pt.cells, Pt.slots] at X' e1 e2 h1 h2 h3 st
  subst h1; subst h2; subst h3
  exact ⟨v, (T.setVm vm₁).calling g' mk (Value.ref b :: As).toArray, t, U', L, hT, X', hL, e1, e2, hq, fun target h => st.trans h⟩
end VRP
abbrev asbN : String := "java/lang/AbstractStringBuilder"
theorem su_sb : Cond.superclass "java/lang/StringBuilder" asbN ∈ tb_all := tb_in (lw_at 142 (by decide +kernel)) rfl
theorem se_lat : Cond.selects "java/lang/StringBuilder" yJ5_isLatin1_aae02 yJ5_isLatin1_aae02 ∈ tb_all := tb_in (lw_at 192 (by decide +kernel)) rfl
section RP
variable {p : Program} {l : Launch} {e : Env} {R : Room} {s : State} {m : MethodId} {args : Array Value} {below : List Frame} {meth : Method} {c : Code} {H : Heap} {locs : List Loc} {cells slots : Nat} {Q : State → Prop}
variable {cc : ByteArray} {nL : Nat} {own : String} {cw : Cond} {pc : Nat} {ls : Array Slot} {rest st0 : List Value} {g : GG} {A : Nat → Prop} {H0 : Heap} {N : Nat} {ad : Nat → Nat} {f : Nat → va_E}
theorem asb_ni (hm : ∀ w ∈ tb_all, w.before args s = true) : ∃ (pc : ClassId) (kp : Class), s.vm.findClass asbN = some pc ∧ s.vm.classes[pc]? = some kp ∧ kp.isInterface = false := by
  obtain ⟨c2, r2, m2, -, -, q3, -, kP, hkP, hkPi⟩ := Cond.selects_spec (hm _ se_lat)
  exact ⟨m2.cls, kP, findClass_of_methodNamed q3, hkP, hkPi⟩
theorem u_P {y : MethodName} {bytes : ByteArray} {maxL index n b : Nat} {ret : Option FieldType} {rm : Room} {As : List Value} {Qc : Array Value → State → Outcome → State → Prop} {free : Addr → Prop} {q : Nat} {fs : List Value} (hbq : ad q = b)
    (X : CX p s m args meth c cc nL own cw) (hM : Met l y (Cond.code y bytes maxL ret :: tb_all) rm (va_Pc (.ref b :: As) (PR g N ad f H.size)) Qc rm.cells rm.slots free)
    (hy : Cond.code y bytes maxL ret ∈ tb_all ∧ Cond.instanceMethod y ∈ tb_all ∧ Cond.initialized y.cls ∈ tb_all) (hpr : Cond.privateMethod y ∈ lw_tbl) (hyc : y.cls = asbN) (hd : y.cls ≠ "java/lang/invoke/MethodHandle" ∧ y.cls ≠ "java/lang/invoke/VarHandle" ∧ (parseMethodDescriptor y.desc).map (fun d => d.parameters.length) = some n) (hn : As.length = n) (hlk : Cond.methodLink own index y ∈ tb_all)
    (hR : rm.frames + 1 ≤ R.frames ∧ 8 + (maxL + 11) + rm.locals ≤ R.locals) (hA : ∀ q, s.heap.size ≤ q → A q) (hK : KK g s) (hT : ST g.2.2 A s s.heap) (B : WB g A s.heap N ad f H locs) (hq : q < N) (hf : f q = .inr (1, fs)) (hls : ls.size = nL)
    (hst : st0 = As.reverse ++ .ref b :: rest) (hW : (rest.map fun v => v.category).sum ≤ 8) (hdg : decode cc pc = .ok (.invokevirtual index, 3)) (hf2 : cells + rm.cells ≤ R.cells ∧ slots + rm.slots ≤ R.slots) :
    va_Run p l e R s m args below meth c H locs cells slots rm.cells rm.slots (F0 m pc ls st0) rest (Qc (Value.ref b :: As).toArray) free := by
  subst hbq
  obtain ⟨hx, hb, hml, hown, hts, -⟩ := X
  have hm : ∀ w ∈ tb_all, w.before args s = true := fun w h => hts w (List.mem_cons_of_mem _ h)
  have hp := pV (As := As) hA hK hT B hq hf (r := (RJ4, TJ4, 4)) rfl
  obtain ⟨pc0, kp, h1, h2, h3⟩ := asb_ni hm
  have hpa := Cond.privateMethod_at (args := #[]) (hT.1.1 _ hpr rfl)
  have hse := selects_self_of_private (y := y) (by rw [hyc]; exact h1) h2 h3 hpa (hm _ hy.2.1) ⟨hd.1, hd.2.1⟩
  exact va_runP ⟨hx, hb, hml, hown, hts⟩ hM ⟨callB_of n hts (tb_good hy.1) rfl rfl rfl (hm _ hy.2.2) (hm _ hlk) hd hR, hm _ hy.2.1, hse, hpa⟩ hp rfl hn hls hst (lv_room hW) hdg hf2
theorem u_U {y : MethodName} {bytes : ByteArray} {maxL index n b : Nat} {ret : Option FieldType} {rm : Room} {As : List Value} {Qc : Array Value → State → Outcome → State → Prop} {free : Addr → Prop} {q : Nat} {fs : List Value} (hbq : ad q = b) (howner : own = "java/lang/StringBuilder")
    (X : CX p s m args meth c cc nL own cw) (hM : Met l y (Cond.code y bytes maxL ret :: tb_all) rm (va_Pc (.ref b :: As) (PR g N ad f H.size)) Qc rm.cells rm.slots free)
    (hy : Cond.code y bytes maxL ret ∈ tb_all ∧ Cond.instanceMethod y ∈ tb_all ∧ Cond.initialized y.cls ∈ tb_all) (hni : y.name ≠ "<init>") (hyc : y.cls = asbN) (hd : y.cls ≠ "java/lang/invoke/MethodHandle" ∧ y.cls ≠ "java/lang/invoke/VarHandle" ∧ (parseMethodDescriptor y.desc).map (fun d => d.parameters.length) = some n) (hn : As.length = n) (hlk : Cond.methodLink own index y ∈ tb_all)
    (hR : rm.frames + 1 ≤ R.frames ∧ 8 + (maxL + 11) + rm.locals ≤ R.locals) (hA : ∀ q, s.heap.size ≤ q → A q) (hK : KK g s) (hT : ST g.2.2 A s s.heap) (B : WB g A s.heap N ad f H locs) (hq : q < N) (hf : f q = .inr (1, fs)) (hls : ls.size = nL)
    (hst : st0 = As.reverse ++ .ref b :: rest) (hW : (rest.map fun v => v.category).sum ≤ 8) (hdg : decode cc pc = .ok (.invokespecial index, 3)) (hf2 : cells + rm.cells ≤ R.cells ∧ slots + rm.slots ≤ R.slots) :
    va_Run p l e R s m args below meth c H locs cells slots rm.cells rm.slots (F0 m pc ls st0) rest (Qc (Value.ref b :: As).toArray) free := by
  subst hbq
  obtain ⟨hx, hb, hml, hown, hts, -⟩ := X
  have hm : ∀ w ∈ tb_all, w.before args s = true := fun w h => hts w (List.mem_cons_of_mem _ h)
  have hp := pV (As := As) hA hK hT B hq hf (r := (RJ4, TJ4, 4)) rfl
  obtain ⟨pc0, kp, h1, h2, h3⟩ := asb_ni hm
  refine va_runUp ⟨hx, hb, hml, hown, hts⟩ hM ⟨callB_of n hts (tb_good hy.1) rfl rfl rfl (hm _ hy.2.2) (hm _ hlk) hd hR, hm _ hy.2.1, ?_⟩ hni hp rfl hn hls hst (lv_room hW) hdg hf2 fun pc2 kp2 g1 g2 => ?_
  · rw [hyc, howner]
    exact hm _ su_sb
  · rw [hyc] at g1
    have e1 : pc2 = pc0 := Option.some.inj (g1.symm.trans h1)
    subst e1
    rw [Option.some.inj (g2.symm.trans h2)]
    exact h3
/-- a method that the object's class inherits -/
theorem u_H {x y : MethodName} {bytes : ByteArray} {maxL index n b : Nat} {ret : Option FieldType} {rm : Room} {As : List Value} {Qc : Array Value → State → Outcome → State → Prop} {free : Addr → Prop} {q : Nat} {fs : List Value} {b0 : ByteArray} {m0 : Nat} {r0 : Option FieldType} (hbq : ad q = b)
    (X : CX p s m args meth c cc nL own cw) (hM : Met l y (Cond.code y bytes maxL ret :: tb_all) rm (va_Pc (.ref b :: As) (PR g N ad f H.size)) Qc rm.cells rm.slots free)
    (hy : Cond.code y bytes maxL ret ∈ tb_all ∧ Cond.instanceMethod y ∈ tb_all ∧ Cond.initialized y.cls ∈ tb_all) (hx0 : Cond.code x b0 m0 r0 ∈ tb_all ∧ Cond.instanceMethod x ∈ tb_all) (hsm : Cond.sameMethod x.cls x.cls x.name x.desc ∈ tb_all) (hsel : Cond.selects "java/lang/StringBuilder" x y ∈ tb_all) (hd : x.cls ≠ "java/lang/invoke/MethodHandle" ∧ x.cls ≠ "java/lang/invoke/VarHandle" ∧ (parseMethodDescriptor x.desc).map (fun d => d.parameters.length) = some n) (hn : As.length = n) (hlk : Cond.methodLink own index x ∈ tb_all)
    (hR : rm.frames + 1 ≤ R.frames ∧ 8 + (maxL + 11) + rm.locals ≤ R.locals) (hA : ∀ q, s.heap.size ≤ q → A q) (hK : KK g s) (hT : ST g.2.2 A s s.heap) (B : WB g A s.heap N ad f H locs) (hq : q < N) (hf : f q = .inr (1, fs)) (hls : ls.size = nL)
    (hst : st0 = As.reverse ++ .ref b :: rest) (hW : (rest.map fun v => v.category).sum ≤ 8) (hdg : decode cc pc = .ok (.invokevirtual index, 3)) (hf2 : cells + rm.cells ≤ R.cells ∧ slots + rm.slots ≤ R.slots) :
    va_Run p l e R s m args below meth c H locs cells slots rm.cells rm.slots (F0 m pc ls st0) rest (Qc (Value.ref b :: As).toArray) free := by
  subst hbq
  obtain ⟨hx, hb, hml, hown, hts, -⟩ := X
  have hm : ∀ w ∈ tb_all, w.before args s = true := fun w h => hts w (List.mem_cons_of_mem _ h)
  have hp := pV (As := As) hA hK hT B hq hf (r := (RJ4, TJ4, 4)) rfl
  refine va_runU (C := "java/lang/StringBuilder") (owner := x.cls) (x := x) ⟨hx, hb, hml, hown, hts⟩ hM ⟨?_, hm _ hy.1, hm _ hy.2.2, ⟨hd.1, hd.2.1⟩, fun sig h => ?_, hm _ hlk, hm _ hsm, va_Decl.of (hm _ hx0.2) (hm _ hx0.1), hm _ hsel, hm _ hy.2.1⟩ hp rfl hn hls hst (lv_room hW) hdg hf2
  · exact ⟨rfl, rfl, hR.1, hR.2, pay_in hts (tb_good hy.1), List.mem_cons_self⟩
  · have h2 := hd.2.2
    rw [h] at h2
    exact (Option.some.inj h2).symm
end RP
