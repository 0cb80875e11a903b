/-! what was thrown last -/
theorem md_X4_thrown : yX4_thrown.cls ≠ "java/lang/invoke/MethodHandle" ∧ yX4_thrown.cls ≠ "java/lang/invoke/VarHandle" ∧ (parseMethodDescriptor yX4_thrown.desc).map (fun d => d.parameters.length) = some 0 := by decide +kernel
theorem c_X4_thrown (l : Launch) (g : GG) (N : Nat) (ad : Nat → Nat) (y : Nat → va_E) (cr dr : Nat → TR) (th kn rf : Int32) (pl : Nat → TR) (pz : Nat) (mc : Int32) (hN : 36 + pz ≤ N) (b0 : Nat) (hb0 : ad 24 = b0) : KI l yX4_thrown cX4_thrown 1 (some .int) (rm 0 0 0) g [.ref b0] N ad (mg g ad y cr dr th kn rf pl pz mc) N (fun r ad' f' => ad = ad' ∧ th = r ∧ mg g ad y cr dr th kn rf pl pz mc = f') := by
  intro sz
  refine mt_start (by decide) (Nat.le_of_ble_eq_true rfl) ?_
  intro p e s m args below meth c hsz X hr hnam hA hK hT H locs B ls hl
  obtain ⟨hx, hb, hml, hown, hts, hlocks⟩ := id X
  have hl : lv_has ls 1 [(0, .ref b0)] := hl
  refine lv_aload_n hx hb dX4_thrown_0 rfl (lv_at hl 0 rfl) ?_
  refine b_get (q := 24) (k := 0) hb0 X hK B rfl in_X4 (by omega) mg_24 (by decide) lk_X4_26 rfl rfl dX4_thrown_1 ?_
  exact rt_i X hr (ad, mg g ad y cr dr th kn rf pl pz mc) B (PO_of B) ⟨rfl, rfl, rfl⟩ rfl (Nat.le_of_ble_eq_true rfl) (Nat.le_of_ble_eq_true rfl) dX4_thrown_4
/-! the law's cases, one after the other -/
theorem pSW {g : GG} {A : Nat → Prop} {s : State} {H : Heap} {N : Nat} {ad : Nat → Nat} {f : Nat → va_E} {locs : List Loc} {As : List Value} (hA : ∀ q, s.heap.size ≤ q → A q) (hK : KK g s) (hT : ST g.2.2 A s s.heap) (hnc : va_Nc iaeN iobN s) (B : WB g A s.heap N ad f H locs) : PreS s H (va_Pc As (PRW g N ad f H.size)) As :=
  ⟨PRW_blind, fun _ hU hW => ⟨rfl, PR_of hA hK hT B hU hW, va_Nc.moved hW.alike hnc⟩⟩
/-- what the law has at hand; L ints at b -/
def LwC (p : Program) (l : Launch) (s : State) (m : MethodId) (meth : Method) (c : Code) (cw : Cond) (g : GG) (A : Nat → Prop) (b L : Nat) (xs : Nat → Int32) : Prop :=
  CX p s m #[.ref b] meth c code 7 RL cw ∧ l.stackTraces = false ∧ KK g s ∧ ST g.2.2 A s s.heap ∧ va_Nc iaeN iobN s ∧ va_X b L xs s s.heap ∧ b < s.heap.size ∧ ¬ A b ∧ (∀ q, s.heap.size ≤ q → A q)
/-- where the law stands at its loop's head -/
def LwS (s : State) (g : GG) (A : Nat → Prop) (b : Nat) (i : Int32) (H : Heap) (locs : List Loc) (ls : Array Slot) : Prop :=
  ∃ (ad : Nat → Nat) (n : Int64) (v : Option Nat) (sp dy : Nat → TR) (la kn re : Int32) (cr dr : Nat → TR) (th rf : Int32) (pl : Nat → TR) (pz : Nat) (mc : Int32), Rq sp dy la re cr dr rf pl pz ∧
    WB g A s.heap (36 + pz) ad (LW g ad n v sp dy la kn re cr dr th kn rf pl pz mc) H locs ∧ lv_has ls 7 [(4, .int i), (0, .ref b), (1, .ref (ad 0)), (2, .ref (ad 24)), (3, .ref (ad 23))]
theorem Rq_b {sp dy : Nat → TR} {la re : Int32} {cr dr : Nat → TR} {rf : Int32} {pl : Nat → TR} {pz : Nat} (h : Rq sp dy la re cr dr rf pl pz) : ¬ la < 0 ∧ ¬ 8 < la ∧ pz ≤ 9 ∧ ∀ i, i < 4 → okd (dr i) := by
  obtain ⟨a, b, c, d, e, f, g⟩ := h
  have hla : la = nI (pz - 1) := c
  refine ⟨?_, ?_, f, fun i hi => (g i hi).1⟩
  · rw [hla]; exact nI_pos (by omega)
  · rw [hla]; exact nI_nlt (a := 8) (by omega) (by decide)
theorem xcd_0 (E : String) : ¬ xcd E = 0 := by
  unfold xcd
  by_cases h : E = iobN
  · rw [if_pos h]; decide
  · rw [if_neg h]; decide
/-- a number read as a truth -/
def bz (x : Int32) : Int32 := if x = 0 then 0 else 1
theorem bz_0 {x : Int32} (h : x = 0) : bz x = 0 := if_pos h
theorem bz_1 {x : Int32} (h : ¬ x = 0) : bz x = 1 := if_neg h
section LR
variable {p : Program} {l : Launch} {e : Env} {R : Room} {s : State} {m : MethodId} {args : Array Value} {below : List Frame} {meth : Method} {c : Code} {H : Heap} {locs : List Loc} {cells slots : Nat} {Q : State → Prop}
variable {cc : ByteArray} {nL : Nat} {own : String} {cw : Cond} {pc : Nat} {ls : Array Slot} {rest st0 : List Value} {g : GG} {A : Nat → Prop} {H0 : Heap} {N : Nat} {ad : Nat → Nat} {f : Nat → va_E}
theorem u_SW {y : MethodName} {bytes : ByteArray} {maxL index n : Nat} {ret : Option FieldType} {hh : List (Nat × Nat × Nat × Nat)} {rm : Room} {As : List Value} {Qc : Array Value → State → Outcome → State → Prop} {free : Addr → Prop}
    (X : CX p s m args meth c cc nL own cw) (hM : Met l y (Cond.codeWith y bytes maxL ret hh :: tb_all) rm (va_Pc As (PRW g N ad f H.size)) Qc rm.cells rm.slots free)
    (hy : Cond.codeWith y bytes maxL ret hh ∈ tb_all ∧ Cond.static y ∈ tb_all ∧ Cond.initialized y.cls ∈ tb_all) (hd : y.cls ≠ "java/lang/invoke/MethodHandle" ∧ y.cls ≠ "java/lang/invoke/VarHandle" ∧ (parseMethodDescriptor y.desc).map (fun d => d.parameters.length) = some n) (hn : As.length = n) (hlk : Cond.methodLink own index y ∈ tb_all)
    (hR : rm.frames + 1 ≤ R.frames ∧ 8 + (maxL + 11) + rm.locals ≤ R.locals) (hA : ∀ q, s.heap.size ≤ q → A q) (hK : KK g s) (hT : ST g.2.2 A s s.heap) (hnc : va_Nc iaeN iobN s) (B : WB g A s.heap N ad f H locs) (hls : ls.size = nL)
    (hst : st0 = As.reverse ++ rest) (hW : (rest.map fun v => v.category).sum ≤ 8) (hdg : decode cc pc = .ok (.invokestatic index, 3)) (hf2 : cells + rm.cells ≤ R.cells ∧ slots + rm.slots ≤ R.slots) :
    va_Run p l e R s m args below meth c H locs cells slots rm.cells rm.slots (F0 m pc ls st0) rest (Qc As.toArray) free := by
  obtain ⟨hx, hb, hml, hown, hts, -⟩ := X
  have hm : ∀ w ∈ tb_all, w.before args s = true := fun w h => hts w (List.mem_cons_of_mem _ h)
  refine vx_runSW ⟨hx, hb, hml, hown, hts⟩ hM ⟨⟨rfl, rfl, hR.1, hR.2, pay_in hts (tb_good hy.1), List.mem_cons_self⟩, hm _ hy.1, hm _ hy.2.2, ⟨hd.1, hd.2.1⟩, fun sig h => ?_, hm _ hlk, hm _ hy.2.1⟩ (pSW hA hK hT hnc B) rfl hn hls hst (lv_room hW) hdg hf2
  have h2 := hd.2.2
  rw [h] at h2
  exact (Option.some.inj h2).symm
theorem p_bool {x : Int32} {o1 : Int} {t1 t2 : Nat} (hx : p.tables.exec = Jvm.exec) (hb : c.code = cc) (d0 : decode cc pc = .ok (.ifCond .eq o1, 3)) (h1 : (pc : Int) + o1 = (t1 : Int))
    (k1 : ∀ Y : W p l e R s m args below meth c H locs cells slots Q (F0 m t2 ls (.int 1 :: rest)), W p l e R s m args below meth c H locs cells slots Q (F0 m (pc + 3) ls rest)) (k0 : ∀ Y : W p l e R s m args below meth c H locs cells slots Q (F0 m t2 ls (.int 0 :: rest)), W p l e R s m args below meth c H locs cells slots Q (F0 m t1 ls rest))
    (kk : W p l e R s m args below meth c H locs cells slots Q (F0 m t2 ls (.int (bz x) :: rest))) : W p l e R s m args below meth c H locs cells slots Q (F0 m pc ls (.int x :: rest)) :=
  lv_if_eq (tgt := t1) hx hb d0 h1 (fun h => k0 (by rw [← bz_0 h]; exact kk)) (fun h => k1 (by rw [← bz_1 h]; exact kk))
/-- the same, as a long -/
theorem p_bl {x : Int32} {o1 : Int} {t1 t2 : Nat} (hx : p.tables.exec = Jvm.exec) (hb : c.code = cc) (d0 : decode cc pc = .ok (.ifCond .eq o1, 3)) (h1 : (pc : Int) + o1 = (t1 : Int))
    (k1 : ∀ Y : W p l e R s m args below meth c H locs cells slots Q (F0 m t2 ls (.long 1 :: rest)), W p l e R s m args below meth c H locs cells slots Q (F0 m (pc + 3) ls rest)) (k0 : ∀ Y : W p l e R s m args below meth c H locs cells slots Q (F0 m t2 ls (.long 0 :: rest)), W p l e R s m args below meth c H locs cells slots Q (F0 m t1 ls rest))
    (kk : W p l e R s m args below meth c H locs cells slots Q (F0 m t2 ls (.long (bl x) :: rest))) : W p l e R s m args below meth c H locs cells slots Q (F0 m pc ls (.int x :: rest)) :=
  lv_if_eq (tgt := t1) hx hb d0 h1 (fun h => k0 (by rw [← bl_0 h]; exact kk)) (fun h => k1 (by rw [← bl_1 h]; exact kk))
end LR
theorem ix_k {i k : Int32} {L : Nat} {z : Int} (h0 : ¬ i < 0) (hL : i.toInt + 5 ≤ L) (hL2 : L ≤ 2560) (hk : k.toInt = z) (hz0 : 0 ≤ z) (hz4 : z ≤ 4) : vp_in (i + k) L := by
  rw [Int32.lt_iff_toInt_lt] at h0
  have e0 : (0 : Int32).toInt = 0 := rfl
  have e : (i + k).toInt = i.toInt + z := by
    rw [Int32.toInt_add, hk]
    show (i.toInt + z).bmod (2 ^ 32) = _
    rw [Int.bmod_eq_of_le (by omega) (by omega)]
  intro q
  rcases q with q | q
  · rw [Int32.lt_iff_toInt_lt, e] at q; omega
  · have : (i + k).toNatClampNeg = (i + k).toInt.toNat := rfl
    rw [this, e] at q
    omega
theorem ix_0 {i : Int32} {L : Nat} (h0 : ¬ i < 0) (hL : i.toInt + 5 ≤ L) : vp_in i L := by
  rw [Int32.lt_iff_toInt_lt] at h0
  have e0 : (0 : Int32).toInt = 0 := rfl
  intro q
  rcases q with q | q
  · rw [Int32.lt_iff_toInt_lt] at q; omega
  · have : i.toNatClampNeg = i.toInt.toNat := rfl
    rw [this] at q
    omega
set_option maxHeartbeats 8000000 in
theorem lc_264 {p : Program} {l : Launch} {e : Env} {s : State} {m : MethodId} {below : List Frame} {meth : Method} {c : Code} {cw : Cond} {g : GG} {A : Nat → Prop} {b L : Nat} {xs : Nat → Int32} {C S : Nat} {Q : State → Prop} {H : Heap} {locs : List Loc} {ls : Array Slot} {i : Int32} (Y : LwC p l s m meth c cw g A b L xs) (hi0 : ¬ i < 0) (hiL : i.toInt + 5 ≤ L) (hL : L ≤ 2560) (hrC : C + 1200 ≤ 757246) (hrS : S + 12000 ≤ 6824365) (hS : LwS s g A b i H locs ls)
    (kk : ∀ (H1 : Heap) (locs1 : List Loc) (ls1 : Array Slot), LwS s g A b i H1 locs1 ls1 → W p l e room_1 s m #[.ref b] below meth c H1 locs1 (C + 1200) (S + 12000) Q (F0 m 2441 ls1 [])) : W p l e room_1 s m #[.ref b] below meth c H locs C S Q (F0 m 264 ls []) := by
  obtain ⟨X, hfl, hK, hT, hnc, hXs, hbl, hbA, hA⟩ := Y
  obtain ⟨hx, hb, hml, hown, hts, hlocks⟩ := id X
  obtain ⟨ad, n, v, sp, dy, la, kn, re, cr, dr, th, rf, pl, pz, mc, hR, B, hl⟩ := hS
  obtain ⟨hla, hlb, hz, hdr⟩ := Rq_b hR
  refine lv_aload_n hx hb dL_law_264 rfl (lv_at hl 2 rfl) ?_
  refine lv_aload_n hx hb dL_law_265 rfl (lv_at hl 1 rfl) ?_
  refine lv_iload hx hb dL_law_266 (lv_at hl 0 rfl) ?_
  refine lv_iconst (v := 1) hx hb dL_law_268 (by decide) ?_
  refine lv_iadd hx hb dL_law_269 ?_
  refine va_sld hx hb hXs hbl hbA B.2.2 (ix_k hi0 hiL hL (z := 1) rfl (by decide) (by decide)) dL_law_270 ?_
  refine lv_aload_n hx hb dL_law_271 rfl (lv_at hl 1 rfl) ?_
  refine lv_iload hx hb dL_law_272 (lv_at hl 0 rfl) ?_
  refine lv_iconst (v := 2) hx hb dL_law_274 (by decide) ?_
  refine lv_iadd hx hb dL_law_275 ?_
  refine va_sld hx hb hXs hbl hbA B.2.2 (ix_k hi0 hiL hL (z := 2) rfl (by decide) (by decide)) dL_law_276 ?_
  refine lv_aload_n hx hb dL_law_277 rfl (lv_at hl 1 rfl) ?_
  refine lv_iload hx hb dL_law_278 (lv_at hl 0 rfl) ?_
  refine lv_iconst (v := 3) hx hb dL_law_280 (by decide) ?_
  refine lv_iadd hx hb dL_law_281 ?_
  refine va_sld hx hb hXs hbl hbA B.2.2 (ix_k hi0 hiL hL (z := 3) rfl (by decide) (by decide)) dL_law_282 ?_
  refine lv_aload_n hx hb dL_law_283 rfl (lv_at hl 1 rfl) ?_
  refine lv_iload hx hb dL_law_284 (lv_at hl 0 rfl) ?_
  refine lv_iconst (v := 4) hx hb dL_law_286 (by decide) ?_
  refine lv_iadd hx hb dL_law_287 ?_
  refine va_sld hx hb hXs hbl hbA B.2.2 (ix_k hi0 hiL hL (z := 4) rfl (by decide) (by decide)) dL_law_288 ?_
  refine lv_aload_n hx hb dL_law_289 rfl (lv_at hl 4 rfl) ?_
  have B : WB g A s.heap (36 + pz) ad (cf g ad (LW g ad n v sp dy la kn re cr dr th kn rf pl pz mc) sp dy la kn re) H locs := LW_c ▸ B
  refine k_i (k := C + 1) (n := S + 6) hA B (u_SW (rest := []) X (c_L_write l hfl g (36 + pz) ad (LW g ad n v sp dy la kn re cr dr th kn rf pl pz mc) sp dy la kn re n v (by omega) LW_23 hla hlb (xs (i + 1).toNatClampNeg) (xs (i + 2).toNatClampNeg) (xs (i + 3).toNatClampNeg) (xs (i + 4).toNatClampNeg) H.size) mw_L_write md_L_write rfl lk_L_182 ⟨(Nat.le_of_ble_eq_true rfl), (Nat.le_of_ble_eq_true rfl)⟩ hA hK hT hnc B hl.1 rfl (Nat.le_of_ble_eq_true rfl) dL_law_290 ⟨by show C + _ ≤ 757246; dsimp only [rm]; omega, by show S + _ ≤ 6824365; dsimp only [rm]; omega⟩) (by dsimp only [rm]; omega) (by dsimp only [rm]; omega) (fun r ad' f' H locs hw B => ?_)
  dsimp only at hw
  obtain ⟨rfl, hw⟩ := hw
  obtain ⟨n', v', sp', dy', la', re', B, hr, hv, hR'⟩ : ∃ (n' : Int64) (v' : Option Nat) (sp' dy' : Nat → TR) (la' re' : Int32), WB g A s.heap (36 + pz) ad (LW g ad n' v' sp' dy' la' kn re' cr dr th kn rf pl pz mc) H locs ∧ r = (v_X4_write cr rf (xs (i + 1).toNatClampNeg) (xs (i + 2).toNatClampNeg) (xs (i + 3).toNatClampNeg) (xs (i + 4).toNatClampNeg)).2.2.1 ∧ (r = 0 → n' = ((v_X4_write cr rf (xs (i + 1).toNatClampNeg) (xs (i + 2).toNatClampNeg) (xs (i + 3).toNatClampNeg) (xs (i + 4).toNatClampNeg)).1).toInt64) ∧ Rq sp' dy' la' re' (v_X4_write cr rf (xs (i + 1).toNatClampNeg) (xs (i + 2).toNatClampNeg) (xs (i + 3).toNatClampNeg) (xs (i + 4).toNatClampNeg)).2.1 dr (v_X4_write cr rf (xs (i + 1).toNatClampNeg) (xs (i + 2).toNatClampNeg) (xs (i + 3).toNatClampNeg) (xs (i + 4).toNatClampNeg)).2.2.2 pl (pz) := by
    have h := rl_write (a1 := xs (i + 1).toNatClampNeg) (a2 := xs (i + 2).toNatClampNeg) (a3 := xs (i + 3).toNatClampNeg) (a4 := xs (i + 4).toNatClampNeg) hR
    rcases hw with ⟨hx0, rfl, rfl⟩ | ⟨E, hxE, rfl, rfl⟩
    · have h := h.1 hx0
      exact ⟨_, _, _, _, _, _, LB_c B, h.1.symm, fun _ => by rw [h.2.1], h.2.2⟩
    · have h := h.2 E hxE
      exact ⟨_, _, _, _, _, _, LB_c0 B, h.1.symm, fun q => absurd q (xcd_0 E), h.2⟩
  refine lv_istore (lv' := [(5, .int r), (4, .int i), (0, .ref b), (1, .ref (ad 0)), (2, .ref (ad 24)), (3, .ref (ad 23))]) hx hb dL_law_293 hl (by decide) rfl (fun ls hl => ?_)
  refine lv_aload_n hx hb dL_law_295 rfl (lv_at hl 4 rfl) ?_
  refine lv_aload_n hx hb dL_law_296 rfl (lv_at hl 2 rfl) ?_
  refine lv_iload hx hb dL_law_297 (lv_at hl 1 rfl) ?_
  refine lv_iconst (v := 1) hx hb dL_law_299 (by decide) ?_
  refine lv_iadd hx hb dL_law_300 ?_
  refine va_sld hx hb hXs hbl hbA B.2.2 (ix_k hi0 hiL hL (z := 1) rfl (by decide) (by decide)) dL_law_301 ?_
  refine lv_aload_n hx hb dL_law_302 rfl (lv_at hl 2 rfl) ?_
  refine lv_iload hx hb dL_law_303 (lv_at hl 1 rfl) ?_
  refine lv_iconst (v := 2) hx hb dL_law_305 (by decide) ?_
  refine lv_iadd hx hb dL_law_306 ?_
  refine va_sld hx hb hXs hbl hbA B.2.2 (ix_k hi0 hiL hL (z := 2) rfl (by decide) (by decide)) dL_law_307 ?_
  refine lv_aload_n hx hb dL_law_308 rfl (lv_at hl 2 rfl) ?_
  refine lv_iload hx hb dL_law_309 (lv_at hl 1 rfl) ?_
  refine lv_iconst (v := 3) hx hb dL_law_311 (by decide) ?_
  refine lv_iadd hx hb dL_law_312 ?_
  refine va_sld hx hb hXs hbl hbA B.2.2 (ix_k hi0 hiL hL (z := 3) rfl (by decide) (by decide)) dL_law_313 ?_
  refine lv_aload_n hx hb dL_law_314 rfl (lv_at hl 2 rfl) ?_
  refine lv_iload hx hb dL_law_315 (lv_at hl 1 rfl) ?_
  refine lv_iconst (v := 4) hx hb dL_law_317 (by decide) ?_
  refine lv_iadd hx hb dL_law_318 ?_
  refine va_sld hx hb hXs hbl hbA B.2.2 (ix_k hi0 hiL hL (z := 4) rfl (by decide) (by decide)) dL_law_319 ?_
  refine k_i (k := C + 3) (n := S + 12) hA B (b_V (q := 24) (rest := []) rfl X (c_X4_write l g (36 + pz) ad (yc g ad n' v' sp' dy' la' kn re') cr dr th kn rf pl pz mc (Nat.le_refl _) (ad 24) rfl (xs (i + 1).toNatClampNeg) (xs (i + 2).toNatClampNeg) (xs (i + 3).toNatClampNeg) (xs (i + 4).toNatClampNeg)  H.size) mw_X4_write md_X4_write rfl lk_L_187 ⟨(Nat.le_of_ble_eq_true rfl), (Nat.le_of_ble_eq_true rfl)⟩ hA hK hT B (by omega) mg_24 rfl rfl hl.1 rfl (Nat.le_of_ble_eq_true rfl) dL_law_320 ⟨by show C + 1 + _ ≤ 757246; dsimp only [rm]; omega, by show S + 6 + _ ≤ 6824365; dsimp only [rm]; omega⟩) (by dsimp only [rm]; omega) (by dsimp only [rm]; omega) (fun r2 ad' f' H locs hw B => ?_)
  dsimp only at hw
  obtain ⟨had, hr2, rfl⟩ := hw
  have had : ∀ k, k < 28 → ad' k = ad k := fun k hk => had k (by omega) (Or.inl hk)
  have B := LB_m B had
  have hl : lv_has ls 7 [(5, .int r), (4, .int i), (0, .ref b), (1, .ref (ad' 0)), (2, .ref (ad' 24)), (3, .ref (ad' 23))] := by rw [had 0 (by omega), had 24 (by omega), had 23 (by omega)]; exact hl
  refine lv_istore (lv' := [(6, .int r2), (5, .int r), (4, .int i), (0, .ref b), (1, .ref (ad' 0)), (2, .ref (ad' 24)), (3, .ref (ad' 23))]) hx hb dL_law_323 hl (by decide) rfl (fun ls hl => ?_)
  refine lv_goto (tgt := 2441) hx hb dL_law_325 (by decide) ?_
  refine W.widen (show C + 3 ≤ C + 1200 by omega) (show S + 12 ≤ S + 12000 by omega) ?_
  exact kk H locs ls ⟨ad', n', v', sp', dy', la', kn, re', _, _, _, _, _, _, _, hR', B, lv_sub hl [2, 3, 4, 5, 6] rfl⟩
set_option maxHeartbeats 8000000 in
theorem lc_328 {p : Program} {l : Launch} {e : Env} {s : State} {m : MethodId} {below : List Frame} {meth : Method} {c : Code} {cw : Cond} {g : GG} {A : Nat → Prop} {b L : Nat} {xs : Nat → Int32} {C S : Nat} {Q : State → Prop} {H : Heap} {locs : List Loc} {ls : Array Slot} {i : Int32} (Y : LwC p l s m meth c cw g A b L xs) (hi0 : ¬ i < 0) (hiL : i.toInt + 5 ≤ L) (hL : L ≤ 2560) (hrC : C + 1200 ≤ 757246) (hrS : S + 12000 ≤ 6824365) (hS : LwS s g A b i H locs ls)
    (kk : ∀ (H1 : Heap) (locs1 : List Loc) (ls1 : Array Slot), LwS s g A b i H1 locs1 ls1 → W p l e room_1 s m #[.ref b] below meth c H1 locs1 (C + 1200) (S + 12000) Q (F0 m 2441 ls1 [])) : W p l e room_1 s m #[.ref b] below meth c H locs C S Q (F0 m 328 ls []) := by
  obtain ⟨X, hfl, hK, hT, hnc, hXs, hbl, hbA, hA⟩ := Y
  obtain ⟨hx, hb, hml, hown, hts, hlocks⟩ := id X
  obtain ⟨ad, n, v, sp, dy, la, kn, re, cr, dr, th, rf, pl, pz, mc, hR, B, hl⟩ := hS
  obtain ⟨hla, hlb, hz, hdr⟩ := Rq_b hR
  refine lv_aload_n hx hb dL_law_328 rfl (lv_at hl 2 rfl) ?_
  refine lv_aload_n hx hb dL_law_329 rfl (lv_at hl 1 rfl) ?_
  refine lv_iload hx hb dL_law_330 (lv_at hl 0 rfl) ?_
  refine lv_iconst (v := 1) hx hb dL_law_332 (by decide) ?_
  refine lv_iadd hx hb dL_law_333 ?_
  refine va_sld hx hb hXs hbl hbA B.2.2 (ix_k hi0 hiL hL (z := 1) rfl (by decide) (by decide)) dL_law_334 ?_
  refine lv_aload_n hx hb dL_law_335 rfl (lv_at hl 1 rfl) ?_
  refine lv_iload hx hb dL_law_336 (lv_at hl 0 rfl) ?_
  refine lv_iconst (v := 2) hx hb dL_law_338 (by decide) ?_
  refine lv_iadd hx hb dL_law_339 ?_
  refine va_sld hx hb hXs hbl hbA B.2.2 (ix_k hi0 hiL hL (z := 2) rfl (by decide) (by decide)) dL_law_340 ?_
  refine lv_aload_n hx hb dL_law_341 rfl (lv_at hl 4 rfl) ?_
  have B : WB g A s.heap (36 + pz) ad (cf g ad (LW g ad n v sp dy la kn re cr dr th kn rf pl pz mc) sp dy la kn re) H locs := LW_c ▸ B
  refine k_i (k := C + 1) (n := S + 6) hA B (u_SW (rest := []) X (c_L_ofYears l hfl g (36 + pz) ad (LW g ad n v sp dy la kn re cr dr th kn rf pl pz mc) sp dy la kn re n v (by omega) LW_23 hla hlb (xs (i + 1).toNatClampNeg) (xs (i + 2).toNatClampNeg) H.size) mw_L_ofYears md_L_ofYears rfl lk_L_188 ⟨(Nat.le_of_ble_eq_true rfl), (Nat.le_of_ble_eq_true rfl)⟩ hA hK hT hnc B hl.1 rfl (Nat.le_of_ble_eq_true rfl) dL_law_342 ⟨by show C + _ ≤ 757246; dsimp only [rm]; omega, by show S + _ ≤ 6824365; dsimp only [rm]; omega⟩) (by dsimp only [rm]; omega) (by dsimp only [rm]; omega) (fun r ad' f' H locs hw B => ?_)
  dsimp only at hw
  obtain ⟨rfl, hw⟩ := hw
  obtain ⟨n', v', sp', dy', la', re', B, hr, hv, hR'⟩ : ∃ (n' : Int64) (v' : Option Nat) (sp' dy' : Nat → TR) (la' re' : Int32), WB g A s.heap (36 + pz) ad (LW g ad n' v' sp' dy' la' kn re' cr dr th kn rf pl pz mc) H locs ∧ r = (v_X4_ofYears cr rf (xs (i + 1).toNatClampNeg) (xs (i + 2).toNatClampNeg)).2.2.1 ∧ (r = 0 → n' = ((v_X4_ofYears cr rf (xs (i + 1).toNatClampNeg) (xs (i + 2).toNatClampNeg)).1).toInt64) ∧ Rq sp' dy' la' re' (v_X4_ofYears cr rf (xs (i + 1).toNatClampNeg) (xs (i + 2).toNatClampNeg)).2.1 dr (v_X4_ofYears cr rf (xs (i + 1).toNatClampNeg) (xs (i + 2).toNatClampNeg)).2.2.2 pl (pz) := by
    have h := rl_ofYears (a1 := xs (i + 1).toNatClampNeg) (a2 := xs (i + 2).toNatClampNeg) hR
    rcases hw with ⟨hx0, rfl, rfl⟩ | ⟨E, hxE, rfl, rfl⟩
    · have h := h.1 hx0
      exact ⟨_, _, _, _, _, _, LB_c B, h.1.symm, fun _ => by rw [h.2.1], h.2.2⟩
    · have h := h.2 E hxE
      exact ⟨_, _, _, _, _, _, LB_c0 B, h.1.symm, fun q => absurd q (xcd_0 E), h.2⟩
  refine lv_istore (lv' := [(5, .int r), (4, .int i), (0, .ref b), (1, .ref (ad 0)), (2, .ref (ad 24)), (3, .ref (ad 23))]) hx hb dL_law_345 hl (by decide) rfl (fun ls hl => ?_)
  refine lv_aload_n hx hb dL_law_347 rfl (lv_at hl 4 rfl) ?_
  refine lv_aload_n hx hb dL_law_348 rfl (lv_at hl 2 rfl) ?_
  refine lv_iload hx hb dL_law_349 (lv_at hl 1 rfl) ?_
  refine lv_iconst (v := 1) hx hb dL_law_351 (by decide) ?_
  refine lv_iadd hx hb dL_law_352 ?_
  refine va_sld hx hb hXs hbl hbA B.2.2 (ix_k hi0 hiL hL (z := 1) rfl (by decide) (by decide)) dL_law_353 ?_
  refine lv_aload_n hx hb dL_law_354 rfl (lv_at hl 2 rfl) ?_
  refine lv_iload hx hb dL_law_355 (lv_at hl 1 rfl) ?_
  refine lv_iconst (v := 2) hx hb dL_law_357 (by decide) ?_
  refine lv_iadd hx hb dL_law_358 ?_
  refine va_sld hx hb hXs hbl hbA B.2.2 (ix_k hi0 hiL hL (z := 2) rfl (by decide) (by decide)) dL_law_359 ?_
  refine k_i (k := C + 3) (n := S + 12) hA B (b_V (q := 24) (rest := []) rfl X (c_X4_ofYears l g (36 + pz) ad (yc g ad n' v' sp' dy' la' kn re') cr dr th kn rf pl pz mc (Nat.le_refl _) (ad 24) rfl (xs (i + 1).toNatClampNeg) (xs (i + 2).toNatClampNeg)  H.size) mw_X4_ofYears md_X4_ofYears rfl lk_L_191 ⟨(Nat.le_of_ble_eq_true rfl), (Nat.le_of_ble_eq_true rfl)⟩ hA hK hT B (by omega) mg_24 rfl rfl hl.1 rfl (Nat.le_of_ble_eq_true rfl) dL_law_360 ⟨by show C + 1 + _ ≤ 757246; dsimp only [rm]; omega, by show S + 6 + _ ≤ 6824365; dsimp only [rm]; omega⟩) (by dsimp only [rm]; omega) (by dsimp only [rm]; omega) (fun r2 ad' f' H locs hw B => ?_)
  dsimp only at hw
  obtain ⟨had, hr2, rfl⟩ := hw
  have had : ∀ k, k < 28 → ad' k = ad k := fun k hk => had k (by omega) (Or.inl hk)
  have B := LB_m B had
  have hl : lv_has ls 7 [(5, .int r), (4, .int i), (0, .ref b), (1, .ref (ad' 0)), (2, .ref (ad' 24)), (3, .ref (ad' 23))] := by rw [had 0 (by omega), had 24 (by omega), had 23 (by omega)]; exact hl
  refine lv_istore (lv' := [(6, .int r2), (5, .int r), (4, .int i), (0, .ref b), (1, .ref (ad' 0)), (2, .ref (ad' 24)), (3, .ref (ad' 23))]) hx hb dL_law_363 hl (by decide) rfl (fun ls hl => ?_)
  refine lv_goto (tgt := 2441) hx hb dL_law_365 (by decide) ?_
  refine W.widen (show C + 3 ≤ C + 1200 by omega) (show S + 12 ≤ S + 12000 by omega) ?_
  exact kk H locs ls ⟨ad', n', v', sp', dy', la', kn, re', _, _, _, _, _, _, _, hR', B, lv_sub hl [2, 3, 4, 5, 6] rfl⟩
set_option maxHeartbeats 8000000 in
theorem lc_368 {p : Program} {l : Launch} {e : Env} {s : State} {m : MethodId} {below : List Frame} {meth : Method} {c : Code} {cw : Cond} {g : GG} {A : Nat → Prop} {b L : Nat} {xs : Nat → Int32} {C S : Nat} {Q : State → Prop} {H : Heap} {locs : List Loc} {ls : Array Slot} {i : Int32} (Y : LwC p l s m meth c cw g A b L xs) (hi0 : ¬ i < 0) (hiL : i.toInt + 5 ≤ L) (hL : L ≤ 2560) (hrC : C + 1200 ≤ 757246) (hrS : S + 12000 ≤ 6824365) (hS : LwS s g A b i H locs ls)
    (kk : ∀ (H1 : Heap) (locs1 : List Loc) (ls1 : Array Slot), LwS s g A b i H1 locs1 ls1 → W p l e room_1 s m #[.ref b] below meth c H1 locs1 (C + 1200) (S + 12000) Q (F0 m 2441 ls1 [])) : W p l e room_1 s m #[.ref b] below meth c H locs C S Q (F0 m 368 ls []) := by
  obtain ⟨X, hfl, hK, hT, hnc, hXs, hbl, hbA, hA⟩ := Y
  obtain ⟨hx, hb, hml, hown, hts, hlocks⟩ := id X
  obtain ⟨ad, n, v, sp, dy, la, kn, re, cr, dr, th, rf, pl, pz, mc, hR, B, hl⟩ := hS
  obtain ⟨hla, hlb, hz, hdr⟩ := Rq_b hR
  refine lv_aload_n hx hb dL_law_368 rfl (lv_at hl 2 rfl) ?_
  refine lv_aload_n hx hb dL_law_369 rfl (lv_at hl 1 rfl) ?_
  refine lv_iload hx hb dL_law_370 (lv_at hl 0 rfl) ?_
  refine lv_iconst (v := 1) hx hb dL_law_372 (by decide) ?_
  refine lv_iadd hx hb dL_law_373 ?_
  refine va_sld hx hb hXs hbl hbA B.2.2 (ix_k hi0 hiL hL (z := 1) rfl (by decide) (by decide)) dL_law_374 ?_
  refine lv_aload_n hx hb dL_law_375 rfl (lv_at hl 1 rfl) ?_
  refine lv_iload hx hb dL_law_376 (lv_at hl 0 rfl) ?_
  refine lv_iconst (v := 2) hx hb dL_law_378 (by decide) ?_
  refine lv_iadd hx hb dL_law_379 ?_
  refine va_sld hx hb hXs hbl hbA B.2.2 (ix_k hi0 hiL hL (z := 2) rfl (by decide) (by decide)) dL_law_380 ?_
  refine lv_aload_n hx hb dL_law_381 rfl (lv_at hl 4 rfl) ?_
  have B : WB g A s.heap (36 + pz) ad (cf g ad (LW g ad n v sp dy la kn re cr dr th kn rf pl pz mc) sp dy la kn re) H locs := LW_c ▸ B
  refine k_i (k := C + 1) (n := S + 6) hA B (u_SW (rest := []) X (c_L_ofMonths l hfl g (36 + pz) ad (LW g ad n v sp dy la kn re cr dr th kn rf pl pz mc) sp dy la kn re n v (by omega) LW_23 hla hlb (xs (i + 1).toNatClampNeg) (xs (i + 2).toNatClampNeg) H.size) mw_L_ofMonths md_L_ofMonths rfl lk_L_192 ⟨(Nat.le_of_ble_eq_true rfl), (Nat.le_of_ble_eq_true rfl)⟩ hA hK hT hnc B hl.1 rfl (Nat.le_of_ble_eq_true rfl) dL_law_382 ⟨by show C + _ ≤ 757246; dsimp only [rm]; omega, by show S + _ ≤ 6824365; dsimp only [rm]; omega⟩) (by dsimp only [rm]; omega) (by dsimp only [rm]; omega) (fun r ad' f' H locs hw B => ?_)
  dsimp only at hw
  obtain ⟨rfl, hw⟩ := hw
  obtain ⟨n', v', sp', dy', la', re', B, hr, hv, hR'⟩ : ∃ (n' : Int64) (v' : Option Nat) (sp' dy' : Nat → TR) (la' re' : Int32), WB g A s.heap (36 + pz) ad (LW g ad n' v' sp' dy' la' kn re' cr dr th kn rf pl pz mc) H locs ∧ r = (v_X4_ofMonths cr rf (xs (i + 1).toNatClampNeg) (xs (i + 2).toNatClampNeg)).2.2.1 ∧ (r = 0 → n' = ((v_X4_ofMonths cr rf (xs (i + 1).toNatClampNeg) (xs (i + 2).toNatClampNeg)).1).toInt64) ∧ Rq sp' dy' la' re' (v_X4_ofMonths cr rf (xs (i + 1).toNatClampNeg) (xs (i + 2).toNatClampNeg)).2.1 dr (v_X4_ofMonths cr rf (xs (i + 1).toNatClampNeg) (xs (i + 2).toNatClampNeg)).2.2.2 pl (pz) := by
    have h := rl_ofMonths (a1 := xs (i + 1).toNatClampNeg) (a2 := xs (i + 2).toNatClampNeg) hR
    rcases hw with ⟨hx0, rfl, rfl⟩ | ⟨E, hxE, rfl, rfl⟩
    · have h := h.1 hx0
      exact ⟨_, _, _, _, _, _, LB_c B, h.1.symm, fun _ => by rw [h.2.1], h.2.2⟩
    · have h := h.2 E hxE
      exact ⟨_, _, _, _, _, _, LB_c0 B, h.1.symm, fun q => absurd q (xcd_0 E), h.2⟩
  refine lv_istore (lv' := [(5, .int r), (4, .int i), (0, .ref b), (1, .ref (ad 0)), (2, .ref (ad 24)), (3, .ref (ad 23))]) hx hb dL_law_385 hl (by decide) rfl (fun ls hl => ?_)
  refine lv_aload_n hx hb dL_law_387 rfl (lv_at hl 4 rfl) ?_
  refine lv_aload_n hx hb dL_law_388 rfl (lv_at hl 2 rfl) ?_
  refine lv_iload hx hb dL_law_389 (lv_at hl 1 rfl) ?_
  refine lv_iconst (v := 1) hx hb dL_law_391 (by decide) ?_
  refine lv_iadd hx hb dL_law_392 ?_
  refine va_sld hx hb hXs hbl hbA B.2.2 (ix_k hi0 hiL hL (z := 1) rfl (by decide) (by decide)) dL_law_393 ?_
  refine lv_aload_n hx hb dL_law_394 rfl (lv_at hl 2 rfl) ?_
  refine lv_iload hx hb dL_law_395 (lv_at hl 1 rfl) ?_
  refine lv_iconst (v := 2) hx hb dL_law_397 (by decide) ?_
  refine lv_iadd hx hb dL_law_398 ?_
  refine va_sld hx hb hXs hbl hbA B.2.2 (ix_k hi0 hiL hL (z := 2) rfl (by decide) (by decide)) dL_law_399 ?_
  refine k_i (k := C + 3) (n := S + 12) hA B (b_V (q := 24) (rest := []) rfl X (c_X4_ofMonths l g (36 + pz) ad (yc g ad n' v' sp' dy' la' kn re') cr dr th kn rf pl pz mc (Nat.le_refl _) (ad 24) rfl (xs (i + 1).toNatClampNeg) (xs (i + 2).toNatClampNeg)  H.size) mw_X4_ofMonths md_X4_ofMonths rfl lk_L_194 ⟨(Nat.le_of_ble_eq_true rfl), (Nat.le_of_ble_eq_true rfl)⟩ hA hK hT B (by omega) mg_24 rfl rfl hl.1 rfl (Nat.le_of_ble_eq_true rfl) dL_law_400 ⟨by show C + 1 + _ ≤ 757246; dsimp only [rm]; omega, by show S + 6 + _ ≤ 6824365; dsimp only [rm]; omega⟩) (by dsimp only [rm]; omega) (by dsimp only [rm]; omega) (fun r2 ad' f' H locs hw B => ?_)
  dsimp only at hw
  obtain ⟨had, hr2, rfl⟩ := hw
  have had : ∀ k, k < 28 → ad' k = ad k := fun k hk => had k (by omega) (Or.inl hk)
  have B := LB_m B had
  have hl : lv_has ls 7 [(5, .int r), (4, .int i), (0, .ref b), (1, .ref (ad' 0)), (2, .ref (ad' 24)), (3, .ref (ad' 23))] := by rw [had 0 (by omega), had 24 (by omega), had 23 (by omega)]; exact hl
  refine lv_istore (lv' := [(6, .int r2), (5, .int r), (4, .int i), (0, .ref b), (1, .ref (ad' 0)), (2, .ref (ad' 24)), (3, .ref (ad' 23))]) hx hb dL_law_403 hl (by decide) rfl (fun ls hl => ?_)
  refine lv_goto (tgt := 2441) hx hb dL_law_405 (by decide) ?_
  refine W.widen (show C + 3 ≤ C + 1200 by omega) (show S + 12 ≤ S + 12000 by omega) ?_
  exact kk H locs ls ⟨ad', n', v', sp', dy', la', kn, re', _, _, _, _, _, _, _, hR', B, lv_sub hl [2, 3, 4, 5, 6] rfl⟩
set_option maxHeartbeats 8000000 in
theorem lc_408 {p : Program} {l : Launch} {e : Env} {s : State} {m : MethodId} {below : List Frame} {meth : Method} {c : Code} {cw : Cond} {g : GG} {A : Nat → Prop} {b L : Nat} {xs : Nat → Int32} {C S : Nat} {Q : State → Prop} {H : Heap} {locs : List Loc} {ls : Array Slot} {i : Int32} (Y : LwC p l s m meth c cw g A b L xs) (hi0 : ¬ i < 0) (hiL : i.toInt + 5 ≤ L) (hL : L ≤ 2560) (hrC : C + 1200 ≤ 757246) (hrS : S + 12000 ≤ 6824365) (hS : LwS s g A b i H locs ls)
    (kk : ∀ (H1 : Heap) (locs1 : List Loc) (ls1 : Array Slot), LwS s g A b i H1 locs1 ls1 → W p l e room_1 s m #[.ref b] below meth c H1 locs1 (C + 1200) (S + 12000) Q (F0 m 2441 ls1 [])) : W p l e room_1 s m #[.ref b] below meth c H locs C S Q (F0 m 408 ls []) := by
  obtain ⟨X, hfl, hK, hT, hnc, hXs, hbl, hbA, hA⟩ := Y
  obtain ⟨hx, hb, hml, hown, hts, hlocks⟩ := id X
  obtain ⟨ad, n, v, sp, dy, la, kn, re, cr, dr, th, rf, pl, pz, mc, hR, B, hl⟩ := hS
  obtain ⟨hla, hlb, hz, hdr⟩ := Rq_b hR
  refine lv_aload_n hx hb dL_law_408 rfl (lv_at hl 2 rfl) ?_
  refine lv_aload_n hx hb dL_law_409 rfl (lv_at hl 1 rfl) ?_
  refine lv_iload hx hb dL_law_410 (lv_at hl 0 rfl) ?_
  refine lv_iconst (v := 1) hx hb dL_law_412 (by decide) ?_
  refine lv_iadd hx hb dL_law_413 ?_
  refine va_sld hx hb hXs hbl hbA B.2.2 (ix_k hi0 hiL hL (z := 1) rfl (by decide) (by decide)) dL_law_414 ?_
  refine lv_aload_n hx hb dL_law_415 rfl (lv_at hl 1 rfl) ?_
  refine lv_iload hx hb dL_law_416 (lv_at hl 0 rfl) ?_
  refine lv_iconst (v := 2) hx hb dL_law_418 (by decide) ?_
  refine lv_iadd hx hb dL_law_419 ?_
  refine va_sld hx hb hXs hbl hbA B.2.2 (ix_k hi0 hiL hL (z := 2) rfl (by decide) (by decide)) dL_law_420 ?_
  refine lv_aload_n hx hb dL_law_421 rfl (lv_at hl 4 rfl) ?_
  have B : WB g A s.heap (36 + pz) ad (cf g ad (LW g ad n v sp dy la kn re cr dr th kn rf pl pz mc) sp dy la kn re) H locs := LW_c ▸ B
  refine k_i (k := C + 1) (n := S + 6) hA B (u_SW (rest := []) X (c_L_ofWeeks l hfl g (36 + pz) ad (LW g ad n v sp dy la kn re cr dr th kn rf pl pz mc) sp dy la kn re n v (by omega) LW_23 hla hlb (xs (i + 1).toNatClampNeg) (xs (i + 2).toNatClampNeg) H.size) mw_L_ofWeeks md_L_ofWeeks rfl lk_L_195 ⟨(Nat.le_of_ble_eq_true rfl), (Nat.le_of_ble_eq_true rfl)⟩ hA hK hT hnc B hl.1 rfl (Nat.le_of_ble_eq_true rfl) dL_law_422 ⟨by show C + _ ≤ 757246; dsimp only [rm]; omega, by show S + _ ≤ 6824365; dsimp only [rm]; omega⟩) (by dsimp only [rm]; omega) (by dsimp only [rm]; omega) (fun r ad' f' H locs hw B => ?_)
  dsimp only at hw
  obtain ⟨rfl, hw⟩ := hw
  obtain ⟨n', v', sp', dy', la', re', B, hr, hv, hR'⟩ : ∃ (n' : Int64) (v' : Option Nat) (sp' dy' : Nat → TR) (la' re' : Int32), WB g A s.heap (36 + pz) ad (LW g ad n' v' sp' dy' la' kn re' cr dr th kn rf pl pz mc) H locs ∧ r = (v_X4_ofWeeks cr rf (xs (i + 1).toNatClampNeg) (xs (i + 2).toNatClampNeg)).2.2.1 ∧ (r = 0 → n' = ((v_X4_ofWeeks cr rf (xs (i + 1).toNatClampNeg) (xs (i + 2).toNatClampNeg)).1).toInt64) ∧ Rq sp' dy' la' re' (v_X4_ofWeeks cr rf (xs (i + 1).toNatClampNeg) (xs (i + 2).toNatClampNeg)).2.1 dr (v_X4_ofWeeks cr rf (xs (i + 1).toNatClampNeg) (xs (i + 2).toNatClampNeg)).2.2.2 pl (pz) := by
    have h := rl_ofWeeks (a1 := xs (i + 1).toNatClampNeg) (a2 := xs (i + 2).toNatClampNeg) hR
    rcases hw with ⟨hx0, rfl, rfl⟩ | ⟨E, hxE, rfl, rfl⟩
    · have h := h.1 hx0
      exact ⟨_, _, _, _, _, _, LB_c B, h.1.symm, fun _ => by rw [h.2.1], h.2.2⟩
    · have h := h.2 E hxE
      exact ⟨_, _, _, _, _, _, LB_c0 B, h.1.symm, fun q => absurd q (xcd_0 E), h.2⟩
  refine lv_istore (lv' := [(5, .int r), (4, .int i), (0, .ref b), (1, .ref (ad 0)), (2, .ref (ad 24)), (3, .ref (ad 23))]) hx hb dL_law_425 hl (by decide) rfl (fun ls hl => ?_)
  refine lv_aload_n hx hb dL_law_427 rfl (lv_at hl 4 rfl) ?_
  refine lv_aload_n hx hb dL_law_428 rfl (lv_at hl 2 rfl) ?_
  refine lv_iload hx hb dL_law_429 (lv_at hl 1 rfl) ?_
  refine lv_iconst (v := 1) hx hb dL_law_431 (by decide) ?_
  refine lv_iadd hx hb dL_law_432 ?_
  refine va_sld hx hb hXs hbl hbA B.2.2 (ix_k hi0 hiL hL (z := 1) rfl (by decide) (by decide)) dL_law_433 ?_
  refine lv_aload_n hx hb dL_law_434 rfl (lv_at hl 2 rfl) ?_
  refine lv_iload hx hb dL_law_435 (lv_at hl 1 rfl) ?_
  refine lv_iconst (v := 2) hx hb dL_law_437 (by decide) ?_
  refine lv_iadd hx hb dL_law_438 ?_
  refine va_sld hx hb hXs hbl hbA B.2.2 (ix_k hi0 hiL hL (z := 2) rfl (by decide) (by decide)) dL_law_439 ?_
  refine k_i (k := C + 3) (n := S + 12) hA B (b_V (q := 24) (rest := []) rfl X (c_X4_ofWeeks l g (36 + pz) ad (yc g ad n' v' sp' dy' la' kn re') cr dr th kn rf pl pz mc (Nat.le_refl _) (ad 24) rfl (xs (i + 1).toNatClampNeg) (xs (i + 2).toNatClampNeg)  H.size) mw_X4_ofWeeks md_X4_ofWeeks rfl lk_L_197 ⟨(Nat.le_of_ble_eq_true rfl), (Nat.le_of_ble_eq_true rfl)⟩ hA hK hT B (by omega) mg_24 rfl rfl hl.1 rfl (Nat.le_of_ble_eq_true rfl) dL_law_440 ⟨by show C + 1 + _ ≤ 757246; dsimp only [rm]; omega, by show S + 6 + _ ≤ 6824365; dsimp only [rm]; omega⟩) (by dsimp only [rm]; omega) (by dsimp only [rm]; omega) (fun r2 ad' f' H locs hw B => ?_)
  dsimp only at hw
  obtain ⟨had, hr2, rfl⟩ := hw
  have had : ∀ k, k < 28 → ad' k = ad k := fun k hk => had k (by omega) (Or.inl hk)
  have B := LB_m B had
  have hl : lv_has ls 7 [(5, .int r), (4, .int i), (0, .ref b), (1, .ref (ad' 0)), (2, .ref (ad' 24)), (3, .ref (ad' 23))] := by rw [had 0 (by omega), had 24 (by omega), had 23 (by omega)]; exact hl
  refine lv_istore (lv' := [(6, .int r2), (5, .int r), (4, .int i), (0, .ref b), (1, .ref (ad' 0)), (2, .ref (ad' 24)), (3, .ref (ad' 23))]) hx hb dL_law_443 hl (by decide) rfl (fun ls hl => ?_)
  refine lv_goto (tgt := 2441) hx hb dL_law_445 (by decide) ?_
  refine W.widen (show C + 3 ≤ C + 1200 by omega) (show S + 12 ≤ S + 12000 by omega) ?_
  exact kk H locs ls ⟨ad', n', v', sp', dy', la', kn, re', _, _, _, _, _, _, _, hR', B, lv_sub hl [2, 3, 4, 5, 6] rfl⟩
set_option maxHeartbeats 8000000 in
theorem lc_448 {p : Program} {l : Launch} {e : Env} {s : State} {m : MethodId} {below : List Frame} {meth : Method} {c : Code} {cw : Cond} {g : GG} {A : Nat → Prop} {b L : Nat} {xs : Nat → Int32} {C S : Nat} {Q : State → Prop} {H : Heap} {locs : List Loc} {ls : Array Slot} {i : Int32} (Y : LwC p l s m meth c cw g A b L xs) (hi0 : ¬ i < 0) (hiL : i.toInt + 5 ≤ L) (hL : L ≤ 2560) (hrC : C + 1200 ≤ 757246) (hrS : S + 12000 ≤ 6824365) (hS : LwS s g A b i H locs ls)
    (kk : ∀ (H1 : Heap) (locs1 : List Loc) (ls1 : Array Slot), LwS s g A b i H1 locs1 ls1 → W p l e room_1 s m #[.ref b] below meth c H1 locs1 (C + 1200) (S + 12000) Q (F0 m 2441 ls1 [])) : W p l e room_1 s m #[.ref b] below meth c H locs C S Q (F0 m 448 ls []) := by
  obtain ⟨X, hfl, hK, hT, hnc, hXs, hbl, hbA, hA⟩ := Y
  obtain ⟨hx, hb, hml, hown, hts, hlocks⟩ := id X
  obtain ⟨ad, n, v, sp, dy, la, kn, re, cr, dr, th, rf, pl, pz, mc, hR, B, hl⟩ := hS
  obtain ⟨hla, hlb, hz, hdr⟩ := Rq_b hR
  refine lv_aload_n hx hb dL_law_448 rfl (lv_at hl 2 rfl) ?_
  refine lv_aload_n hx hb dL_law_449 rfl (lv_at hl 1 rfl) ?_
  refine lv_iload hx hb dL_law_450 (lv_at hl 0 rfl) ?_
  refine lv_iconst (v := 1) hx hb dL_law_452 (by decide) ?_
  refine lv_iadd hx hb dL_law_453 ?_
  refine va_sld hx hb hXs hbl hbA B.2.2 (ix_k hi0 hiL hL (z := 1) rfl (by decide) (by decide)) dL_law_454 ?_
  refine lv_aload_n hx hb dL_law_455 rfl (lv_at hl 1 rfl) ?_
  refine lv_iload hx hb dL_law_456 (lv_at hl 0 rfl) ?_
  refine lv_iconst (v := 2) hx hb dL_law_458 (by decide) ?_
  refine lv_iadd hx hb dL_law_459 ?_
  refine va_sld hx hb hXs hbl hbA B.2.2 (ix_k hi0 hiL hL (z := 2) rfl (by decide) (by decide)) dL_law_460 ?_
  refine lv_aload_n hx hb dL_law_461 rfl (lv_at hl 4 rfl) ?_
  have B : WB g A s.heap (36 + pz) ad (cf g ad (LW g ad n v sp dy la kn re cr dr th kn rf pl pz mc) sp dy la kn re) H locs := LW_c ▸ B
  refine k_i (k := C + 1) (n := S + 6) hA B (u_SW (rest := []) X (c_L_ofDays l hfl g (36 + pz) ad (LW g ad n v sp dy la kn re cr dr th kn rf pl pz mc) sp dy la kn re n v (by omega) LW_23 hla hlb (xs (i + 1).toNatClampNeg) (xs (i + 2).toNatClampNeg) H.size) mw_L_ofDays md_L_ofDays rfl lk_L_198 ⟨(Nat.le_of_ble_eq_true rfl), (Nat.le_of_ble_eq_true rfl)⟩ hA hK hT hnc B hl.1 rfl (Nat.le_of_ble_eq_true rfl) dL_law_462 ⟨by show C + _ ≤ 757246; dsimp only [rm]; omega, by show S + _ ≤ 6824365; dsimp only [rm]; omega⟩) (by dsimp only [rm]; omega) (by dsimp only [rm]; omega) (fun r ad' f' H locs hw B => ?_)
  dsimp only at hw
  obtain ⟨rfl, hw⟩ := hw
  obtain ⟨n', v', sp', dy', la', re', B, hr, hv, hR'⟩ : ∃ (n' : Int64) (v' : Option Nat) (sp' dy' : Nat → TR) (la' re' : Int32), WB g A s.heap (36 + pz) ad (LW g ad n' v' sp' dy' la' kn re' cr dr th kn rf pl pz mc) H locs ∧ r = (v_X4_ofDays cr rf (xs (i + 1).toNatClampNeg) (xs (i + 2).toNatClampNeg)).2.2.1 ∧ (r = 0 → n' = ((v_X4_ofDays cr rf (xs (i + 1).toNatClampNeg) (xs (i + 2).toNatClampNeg)).1).toInt64) ∧ Rq sp' dy' la' re' (v_X4_ofDays cr rf (xs (i + 1).toNatClampNeg) (xs (i + 2).toNatClampNeg)).2.1 dr (v_X4_ofDays cr rf (xs (i + 1).toNatClampNeg) (xs (i + 2).toNatClampNeg)).2.2.2 pl (pz) := by
    have h := rl_ofDays (a1 := xs (i + 1).toNatClampNeg) (a2 := xs (i + 2).toNatClampNeg) hR
    rcases hw with ⟨hx0, rfl, rfl⟩ | ⟨E, hxE, rfl, rfl⟩
    · have h := h.1 hx0
      exact ⟨_, _, _, _, _, _, LB_c B, h.1.symm, fun _ => by rw [h.2.1], h.2.2⟩
    · have h := h.2 E hxE
      exact ⟨_, _, _, _, _, _, LB_c0 B, h.1.symm, fun q => absurd q (xcd_0 E), h.2⟩
  refine lv_istore (lv' := [(5, .int r), (4, .int i), (0, .ref b), (1, .ref (ad 0)), (2, .ref (ad 24)), (3, .ref (ad 23))]) hx hb dL_law_465 hl (by decide) rfl (fun ls hl => ?_)
  refine lv_aload_n hx hb dL_law_467 rfl (lv_at hl 4 rfl) ?_
  refine lv_aload_n hx hb dL_law_468 rfl (lv_at hl 2 rfl) ?_
  refine lv_iload hx hb dL_law_469 (lv_at hl 1 rfl) ?_
  refine lv_iconst (v := 1) hx hb dL_law_471 (by decide) ?_
  refine lv_iadd hx hb dL_law_472 ?_
  refine va_sld hx hb hXs hbl hbA B.2.2 (ix_k hi0 hiL hL (z := 1) rfl (by decide) (by decide)) dL_law_473 ?_
  refine lv_aload_n hx hb dL_law_474 rfl (lv_at hl 2 rfl) ?_
  refine lv_iload hx hb dL_law_475 (lv_at hl 1 rfl) ?_
  refine lv_iconst (v := 2) hx hb dL_law_477 (by decide) ?_
  refine lv_iadd hx hb dL_law_478 ?_
  refine va_sld hx hb hXs hbl hbA B.2.2 (ix_k hi0 hiL hL (z := 2) rfl (by decide) (by decide)) dL_law_479 ?_
  refine k_i (k := C + 3) (n := S + 12) hA B (b_V (q := 24) (rest := []) rfl X (c_X4_ofDays l g (36 + pz) ad (yc g ad n' v' sp' dy' la' kn re') cr dr th kn rf pl pz mc (Nat.le_refl _) (ad 24) rfl (xs (i + 1).toNatClampNeg) (xs (i + 2).toNatClampNeg)  H.size) mw_X4_ofDays md_X4_ofDays rfl lk_L_200 ⟨(Nat.le_of_ble_eq_true rfl), (Nat.le_of_ble_eq_true rfl)⟩ hA hK hT B (by omega) mg_24 rfl rfl hl.1 rfl (Nat.le_of_ble_eq_true rfl) dL_law_480 ⟨by show C + 1 + _ ≤ 757246; dsimp only [rm]; omega, by show S + 6 + _ ≤ 6824365; dsimp only [rm]; omega⟩) (by dsimp only [rm]; omega) (by dsimp only [rm]; omega) (fun r2 ad' f' H locs hw B => ?_)
  dsimp only at hw
  obtain ⟨had, hr2, rfl⟩ := hw
  have had : ∀ k, k < 28 → ad' k = ad k := fun k hk => had k (by omega) (Or.inl hk)
  have B := LB_m B had
  have hl : lv_has ls 7 [(5, .int r), (4, .int i), (0, .ref b), (1, .ref (ad' 0)), (2, .ref (ad' 24)), (3, .ref (ad' 23))] := by rw [had 0 (by omega), had 24 (by omega), had 23 (by omega)]; exact hl
  refine lv_istore (lv' := [(6, .int r2), (5, .int r), (4, .int i), (0, .ref b), (1, .ref (ad' 0)), (2, .ref (ad' 24)), (3, .ref (ad' 23))]) hx hb dL_law_483 hl (by decide) rfl (fun ls hl => ?_)
  refine lv_goto (tgt := 2441) hx hb dL_law_485 (by decide) ?_
  refine W.widen (show C + 3 ≤ C + 1200 by omega) (show S + 12 ≤ S + 12000 by omega) ?_
  exact kk H locs ls ⟨ad', n', v', sp', dy', la', kn, re', _, _, _, _, _, _, _, hR', B, lv_sub hl [2, 3, 4, 5, 6] rfl⟩
set_option maxHeartbeats 8000000 in
theorem lc_488 {p : Program} {l : Launch} {e : Env} {s : State} {m : MethodId} {below : List Frame} {meth : Method} {c : Code} {cw : Cond} {g : GG} {A : Nat → Prop} {b L : Nat} {xs : Nat → Int32} {C S : Nat} {Q : State → Prop} {H : Heap} {locs : List Loc} {ls : Array Slot} {i : Int32} (Y : LwC p l s m meth c cw g A b L xs) (hi0 : ¬ i < 0) (hiL : i.toInt + 5 ≤ L) (hL : L ≤ 2560) (hrC : C + 1200 ≤ 757246) (hrS : S + 12000 ≤ 6824365) (hS : LwS s g A b i H locs ls)
    (kk : ∀ (H1 : Heap) (locs1 : List Loc) (ls1 : Array Slot), LwS s g A b i H1 locs1 ls1 → W p l e room_1 s m #[.ref b] below meth c H1 locs1 (C + 1200) (S + 12000) Q (F0 m 2441 ls1 [])) : W p l e room_1 s m #[.ref b] below meth c H locs C S Q (F0 m 488 ls []) := by
  obtain ⟨X, hfl, hK, hT, hnc, hXs, hbl, hbA, hA⟩ := Y
  obtain ⟨hx, hb, hml, hown, hts, hlocks⟩ := id X
  obtain ⟨ad, n, v, sp, dy, la, kn, re, cr, dr, th, rf, pl, pz, mc, hR, B, hl⟩ := hS
  obtain ⟨hla, hlb, hz, hdr⟩ := Rq_b hR
  refine lv_aload_n hx hb dL_law_488 rfl (lv_at hl 2 rfl) ?_
  refine lv_aload_n hx hb dL_law_489 rfl (lv_at hl 1 rfl) ?_
  refine lv_iload hx hb dL_law_490 (lv_at hl 0 rfl) ?_
  refine lv_iconst (v := 1) hx hb dL_law_492 (by decide) ?_
  refine lv_iadd hx hb dL_law_493 ?_
  refine va_sld hx hb hXs hbl hbA B.2.2 (ix_k hi0 hiL hL (z := 1) rfl (by decide) (by decide)) dL_law_494 ?_
  refine lv_aload_n hx hb dL_law_495 rfl (lv_at hl 1 rfl) ?_
  refine lv_iload hx hb dL_law_496 (lv_at hl 0 rfl) ?_
  refine lv_iconst (v := 2) hx hb dL_law_498 (by decide) ?_
  refine lv_iadd hx hb dL_law_499 ?_
  refine va_sld hx hb hXs hbl hbA B.2.2 (ix_k hi0 hiL hL (z := 2) rfl (by decide) (by decide)) dL_law_500 ?_
  refine lv_aload_n hx hb dL_law_501 rfl (lv_at hl 1 rfl) ?_
  refine lv_iload hx hb dL_law_502 (lv_at hl 0 rfl) ?_
  refine lv_iconst (v := 3) hx hb dL_law_504 (by decide) ?_
  refine lv_iadd hx hb dL_law_505 ?_
  refine va_sld hx hb hXs hbl hbA B.2.2 (ix_k hi0 hiL hL (z := 3) rfl (by decide) (by decide)) dL_law_506 ?_
  refine lv_aload_n hx hb dL_law_507 rfl (lv_at hl 4 rfl) ?_
  have B : WB g A s.heap (36 + pz) ad (cf g ad (LW g ad n v sp dy la kn re cr dr th kn rf pl pz mc) sp dy la kn re) H locs := LW_c ▸ B
  refine k_i (k := C + 2) (n := S + 12) hA B (u_SW (rest := []) X (c_L_change l hfl g (36 + pz) ad (LW g ad n v sp dy la kn re cr dr th kn rf pl pz mc) sp dy la kn re n v (by omega) LW_23 hla hlb (xs (i + 1).toNatClampNeg) (xs (i + 2).toNatClampNeg) (xs (i + 3).toNatClampNeg) H.size) mw_L_change md_L_change rfl lk_L_201 ⟨(Nat.le_of_ble_eq_true rfl), (Nat.le_of_ble_eq_true rfl)⟩ hA hK hT hnc B hl.1 rfl (Nat.le_of_ble_eq_true rfl) dL_law_508 ⟨by show C + _ ≤ 757246; dsimp only [rm]; omega, by show S + _ ≤ 6824365; dsimp only [rm]; omega⟩) (by dsimp only [rm]; omega) (by dsimp only [rm]; omega) (fun r ad' f' H locs hw B => ?_)
  dsimp only at hw
  obtain ⟨rfl, hw⟩ := hw
  obtain ⟨n', v', sp', dy', la', re', B, hr, hv, hR'⟩ : ∃ (n' : Int64) (v' : Option Nat) (sp' dy' : Nat → TR) (la' re' : Int32), WB g A s.heap (36 + pz) ad (LW g ad n' v' sp' dy' la' kn re' cr dr th kn rf pl pz mc) H locs ∧ r = (v_X4_change cr (xs (i + 1).toNatClampNeg) (xs (i + 2).toNatClampNeg) (xs (i + 3).toNatClampNeg)).2.2 ∧ (r = 0 → n' = ((v_X4_change cr (xs (i + 1).toNatClampNeg) (xs (i + 2).toNatClampNeg) (xs (i + 3).toNatClampNeg)).1).toInt64) ∧ Rq sp' dy' la' re' (v_X4_change cr (xs (i + 1).toNatClampNeg) (xs (i + 2).toNatClampNeg) (xs (i + 3).toNatClampNeg)).2.1 dr rf pl (pz) := by
    have h := rl_change (a1 := xs (i + 1).toNatClampNeg) (a2 := xs (i + 2).toNatClampNeg) (a3 := xs (i + 3).toNatClampNeg) hR
    rcases hw with ⟨hx0, rfl, rfl⟩ | ⟨E, hxE, rfl, rfl⟩
    · have h := h.1 hx0
      exact ⟨_, _, _, _, _, _, LB_c B, h.1.symm, fun _ => by rw [h.2.1], h.2.2⟩
    · have h := h.2 E hxE
      exact ⟨_, _, _, _, _, _, LB_c0 B, h.1.symm, fun q => absurd q (xcd_0 E), h.2⟩
  refine lv_istore (lv' := [(5, .int r), (4, .int i), (0, .ref b), (1, .ref (ad 0)), (2, .ref (ad 24)), (3, .ref (ad 23))]) hx hb dL_law_511 hl (by decide) rfl (fun ls hl => ?_)
  refine lv_aload_n hx hb dL_law_513 rfl (lv_at hl 4 rfl) ?_
  refine lv_aload_n hx hb dL_law_514 rfl (lv_at hl 2 rfl) ?_
  refine lv_iload hx hb dL_law_515 (lv_at hl 1 rfl) ?_
  refine lv_iconst (v := 1) hx hb dL_law_517 (by decide) ?_
  refine lv_iadd hx hb dL_law_518 ?_
  refine va_sld hx hb hXs hbl hbA B.2.2 (ix_k hi0 hiL hL (z := 1) rfl (by decide) (by decide)) dL_law_519 ?_
  refine lv_aload_n hx hb dL_law_520 rfl (lv_at hl 2 rfl) ?_
  refine lv_iload hx hb dL_law_521 (lv_at hl 1 rfl) ?_
  refine lv_iconst (v := 2) hx hb dL_law_523 (by decide) ?_
  refine lv_iadd hx hb dL_law_524 ?_
  refine va_sld hx hb hXs hbl hbA B.2.2 (ix_k hi0 hiL hL (z := 2) rfl (by decide) (by decide)) dL_law_525 ?_
  refine lv_aload_n hx hb dL_law_526 rfl (lv_at hl 2 rfl) ?_
  refine lv_iload hx hb dL_law_527 (lv_at hl 1 rfl) ?_
  refine lv_iconst (v := 3) hx hb dL_law_529 (by decide) ?_
  refine lv_iadd hx hb dL_law_530 ?_
  refine va_sld hx hb hXs hbl hbA B.2.2 (ix_k hi0 hiL hL (z := 3) rfl (by decide) (by decide)) dL_law_531 ?_
  refine k_i (k := C + 4) (n := S + 18) hA B (b_V (q := 24) (rest := []) rfl X (c_X4_change l g (36 + pz) ad (yc g ad n' v' sp' dy' la' kn re') cr dr th kn rf pl pz mc (Nat.le_refl _) (ad 24) rfl (xs (i + 1).toNatClampNeg) (xs (i + 2).toNatClampNeg) (xs (i + 3).toNatClampNeg)  H.size) mw_X4_change md_X4_change rfl lk_L_204 ⟨(Nat.le_of_ble_eq_true rfl), (Nat.le_of_ble_eq_true rfl)⟩ hA hK hT B (by omega) mg_24 rfl rfl hl.1 rfl (Nat.le_of_ble_eq_true rfl) dL_law_532 ⟨by show C + 2 + _ ≤ 757246; dsimp only [rm]; omega, by show S + 12 + _ ≤ 6824365; dsimp only [rm]; omega⟩) (by dsimp only [rm]; omega) (by dsimp only [rm]; omega) (fun r2 ad' f' H locs hw B => ?_)
  dsimp only at hw
  obtain ⟨had, hr2, rfl⟩ := hw
  have had : ∀ k, k < 28 → ad' k = ad k := fun k hk => had k (by omega) (Or.inl hk)
  have B := LB_m B had
  have hl : lv_has ls 7 [(5, .int r), (4, .int i), (0, .ref b), (1, .ref (ad' 0)), (2, .ref (ad' 24)), (3, .ref (ad' 23))] := by rw [had 0 (by omega), had 24 (by omega), had 23 (by omega)]; exact hl
  refine lv_istore (lv' := [(6, .int r2), (5, .int r), (4, .int i), (0, .ref b), (1, .ref (ad' 0)), (2, .ref (ad' 24)), (3, .ref (ad' 23))]) hx hb dL_law_535 hl (by decide) rfl (fun ls hl => ?_)
  refine lv_goto (tgt := 2441) hx hb dL_law_537 (by decide) ?_
  refine W.widen (show C + 4 ≤ C + 1200 by omega) (show S + 18 ≤ S + 12000 by omega) ?_
  exact kk H locs ls ⟨ad', n', v', sp', dy', la', kn, re', _, _, _, _, _, _, _, hR', B, lv_sub hl [2, 3, 4, 5, 6] rfl⟩
set_option maxHeartbeats 8000000 in
theorem lc_540 {p : Program} {l : Launch} {e : Env} {s : State} {m : MethodId} {below : List Frame} {meth : Method} {c : Code} {cw : Cond} {g : GG} {A : Nat → Prop} {b L : Nat} {xs : Nat → Int32} {C S : Nat} {Q : State → Prop} {H : Heap} {locs : List Loc} {ls : Array Slot} {i : Int32} (Y : LwC p l s m meth c cw g A b L xs) (hi0 : ¬ i < 0) (hiL : i.toInt + 5 ≤ L) (hL : L ≤ 2560) (hrC : C + 1200 ≤ 757246) (hrS : S + 12000 ≤ 6824365) (hS : LwS s g A b i H locs ls)
    (kk : ∀ (H1 : Heap) (locs1 : List Loc) (ls1 : Array Slot), LwS s g A b i H1 locs1 ls1 → W p l e room_1 s m #[.ref b] below meth c H1 locs1 (C + 1200) (S + 12000) Q (F0 m 2441 ls1 [])) : W p l e room_1 s m #[.ref b] below meth c H locs C S Q (F0 m 540 ls []) := by
  obtain ⟨X, hfl, hK, hT, hnc, hXs, hbl, hbA, hA⟩ := Y
  obtain ⟨hx, hb, hml, hown, hts, hlocks⟩ := id X
  obtain ⟨ad, n, v, sp, dy, la, kn, re, cr, dr, th, rf, pl, pz, mc, hR, B, hl⟩ := hS
  obtain ⟨hla, hlb, hz, hdr⟩ := Rq_b hR
  refine lv_aload_n hx hb dL_law_540 rfl (lv_at hl 2 rfl) ?_
  refine lv_aload_n hx hb dL_law_541 rfl (lv_at hl 1 rfl) ?_
  refine lv_iload hx hb dL_law_542 (lv_at hl 0 rfl) ?_
  refine lv_iconst (v := 1) hx hb dL_law_544 (by decide) ?_
  refine lv_iadd hx hb dL_law_545 ?_
  refine va_sld hx hb hXs hbl hbA B.2.2 (ix_k hi0 hiL hL (z := 1) rfl (by decide) (by decide)) dL_law_546 ?_
  refine lv_aload_n hx hb dL_law_547 rfl (lv_at hl 1 rfl) ?_
  refine lv_iload hx hb dL_law_548 (lv_at hl 0 rfl) ?_
  refine lv_iconst (v := 2) hx hb dL_law_550 (by decide) ?_
  refine lv_iadd hx hb dL_law_551 ?_
  refine va_sld hx hb hXs hbl hbA B.2.2 (ix_k hi0 hiL hL (z := 2) rfl (by decide) (by decide)) dL_law_552 ?_
  refine lv_aload_n hx hb dL_law_553 rfl (lv_at hl 4 rfl) ?_
  have B : WB g A s.heap (36 + pz) ad (cf g ad (LW g ad n v sp dy la kn re cr dr th kn rf pl pz mc) sp dy la kn re) H locs := LW_c ▸ B
  refine k_i (k := C + 2) (n := S + 12) hA B (u_SW (rest := []) X (c_L_copy l hfl g (36 + pz) ad (LW g ad n v sp dy la kn re cr dr th kn rf pl pz mc) sp dy la kn re n v (by omega) LW_23 hla hlb (xs (i + 1).toNatClampNeg) (xs (i + 2).toNatClampNeg) H.size) mw_L_copy md_L_copy rfl lk_L_205 ⟨(Nat.le_of_ble_eq_true rfl), (Nat.le_of_ble_eq_true rfl)⟩ hA hK hT hnc B hl.1 rfl (Nat.le_of_ble_eq_true rfl) dL_law_554 ⟨by show C + _ ≤ 757246; dsimp only [rm]; omega, by show S + _ ≤ 6824365; dsimp only [rm]; omega⟩) (by dsimp only [rm]; omega) (by dsimp only [rm]; omega) (fun r ad' f' H locs hw B => ?_)
  dsimp only at hw
  obtain ⟨rfl, hw⟩ := hw
  obtain ⟨n', v', sp', dy', la', re', B, hr, hv, hR'⟩ : ∃ (n' : Int64) (v' : Option Nat) (sp' dy' : Nat → TR) (la' re' : Int32), WB g A s.heap (36 + pz) ad (LW g ad n' v' sp' dy' la' kn re' cr dr th kn rf pl pz mc) H locs ∧ r = (v_X4_copy cr (xs (i + 1).toNatClampNeg) (xs (i + 2).toNatClampNeg)).2.2 ∧ (r = 0 → n' = ((v_X4_copy cr (xs (i + 1).toNatClampNeg) (xs (i + 2).toNatClampNeg)).1).toInt64) ∧ Rq sp' dy' la' re' (v_X4_copy cr (xs (i + 1).toNatClampNeg) (xs (i + 2).toNatClampNeg)).2.1 dr rf pl (pz) := by
    have h := rl_copy (a1 := xs (i + 1).toNatClampNeg) (a2 := xs (i + 2).toNatClampNeg) hR
    rcases hw with ⟨hx0, rfl, rfl⟩ | ⟨E, hxE, rfl, rfl⟩
    · have h := h.1 hx0
      exact ⟨_, _, _, _, _, _, LB_c B, h.1.symm, fun _ => by rw [h.2.1], h.2.2⟩
    · have h := h.2 E hxE
      exact ⟨_, _, _, _, _, _, LB_c0 B, h.1.symm, fun q => absurd q (xcd_0 E), h.2⟩
  refine lv_istore (lv' := [(5, .int r), (4, .int i), (0, .ref b), (1, .ref (ad 0)), (2, .ref (ad 24)), (3, .ref (ad 23))]) hx hb dL_law_557 hl (by decide) rfl (fun ls hl => ?_)
  refine lv_aload_n hx hb dL_law_559 rfl (lv_at hl 4 rfl) ?_
  refine lv_aload_n hx hb dL_law_560 rfl (lv_at hl 2 rfl) ?_
  refine lv_iload hx hb dL_law_561 (lv_at hl 1 rfl) ?_
  refine lv_iconst (v := 1) hx hb dL_law_563 (by decide) ?_
  refine lv_iadd hx hb dL_law_564 ?_
  refine va_sld hx hb hXs hbl hbA B.2.2 (ix_k hi0 hiL hL (z := 1) rfl (by decide) (by decide)) dL_law_565 ?_
  refine lv_aload_n hx hb dL_law_566 rfl (lv_at hl 2 rfl) ?_
  refine lv_iload hx hb dL_law_567 (lv_at hl 1 rfl) ?_
  refine lv_iconst (v := 2) hx hb dL_law_569 (by decide) ?_
  refine lv_iadd hx hb dL_law_570 ?_
  refine va_sld hx hb hXs hbl hbA B.2.2 (ix_k hi0 hiL hL (z := 2) rfl (by decide) (by decide)) dL_law_571 ?_
  refine k_i (k := C + 3) (n := S + 15) hA B (b_V (q := 24) (rest := []) rfl X (c_X4_copy l g (36 + pz) ad (yc g ad n' v' sp' dy' la' kn re') cr dr th kn rf pl pz mc (Nat.le_refl _) (ad 24) rfl (xs (i + 1).toNatClampNeg) (xs (i + 2).toNatClampNeg)  H.size) mw_X4_copy md_X4_copy rfl lk_L_207 ⟨(Nat.le_of_ble_eq_true rfl), (Nat.le_of_ble_eq_true rfl)⟩ hA hK hT B (by omega) mg_24 rfl rfl hl.1 rfl (Nat.le_of_ble_eq_true rfl) dL_law_572 ⟨by show C + 2 + _ ≤ 757246; dsimp only [rm]; omega, by show S + 12 + _ ≤ 6824365; dsimp only [rm]; omega⟩) (by dsimp only [rm]; omega) (by dsimp only [rm]; omega) (fun r2 ad' f' H locs hw B => ?_)
  dsimp only at hw
  obtain ⟨had, hr2, rfl⟩ := hw
  have had : ∀ k, k < 28 → ad' k = ad k := fun k hk => had k (by omega) (Or.inl hk)
  have B := LB_m B had
  have hl : lv_has ls 7 [(5, .int r), (4, .int i), (0, .ref b), (1, .ref (ad' 0)), (2, .ref (ad' 24)), (3, .ref (ad' 23))] := by rw [had 0 (by omega), had 24 (by omega), had 23 (by omega)]; exact hl
  refine lv_istore (lv' := [(6, .int r2), (5, .int r), (4, .int i), (0, .ref b), (1, .ref (ad' 0)), (2, .ref (ad' 24)), (3, .ref (ad' 23))]) hx hb dL_law_575 hl (by decide) rfl (fun ls hl => ?_)
  refine lv_goto (tgt := 2441) hx hb dL_law_577 (by decide) ?_
  refine W.widen (show C + 3 ≤ C + 1200 by omega) (show S + 15 ≤ S + 12000 by omega) ?_
  exact kk H locs ls ⟨ad', n', v', sp', dy', la', kn, re', _, _, _, _, _, _, _, hR', B, lv_sub hl [2, 3, 4, 5, 6] rfl⟩
set_option maxHeartbeats 8000000 in
theorem lc_580 {p : Program} {l : Launch} {e : Env} {s : State} {m : MethodId} {below : List Frame} {meth : Method} {c : Code} {cw : Cond} {g : GG} {A : Nat → Prop} {b L : Nat} {xs : Nat → Int32} {C S : Nat} {Q : State → Prop} {H : Heap} {locs : List Loc} {ls : Array Slot} {i : Int32} (Y : LwC p l s m meth c cw g A b L xs) (hi0 : ¬ i < 0) (hiL : i.toInt + 5 ≤ L) (hL : L ≤ 2560) (hrC : C + 1200 ≤ 757246) (hrS : S + 12000 ≤ 6824365) (hS : LwS s g A b i H locs ls)
    (kk : ∀ (H1 : Heap) (locs1 : List Loc) (ls1 : Array Slot), LwS s g A b i H1 locs1 ls1 → W p l e room_1 s m #[.ref b] below meth c H1 locs1 (C + 1200) (S + 12000) Q (F0 m 2441 ls1 [])) : W p l e room_1 s m #[.ref b] below meth c H locs C S Q (F0 m 580 ls []) := by
  obtain ⟨X, hfl, hK, hT, hnc, hXs, hbl, hbA, hA⟩ := Y
  obtain ⟨hx, hb, hml, hown, hts, hlocks⟩ := id X
  obtain ⟨ad, n, v, sp, dy, la, kn, re, cr, dr, th, rf, pl, pz, mc, hR, B, hl⟩ := hS
  obtain ⟨hla, hlb, hz, hdr⟩ := Rq_b hR
  refine lv_aload_n hx hb dL_law_580 rfl (lv_at hl 2 rfl) ?_
  refine lv_aload_n hx hb dL_law_581 rfl (lv_at hl 1 rfl) ?_
  refine lv_iload hx hb dL_law_582 (lv_at hl 0 rfl) ?_
  refine lv_iconst (v := 1) hx hb dL_law_584 (by decide) ?_
  refine lv_iadd hx hb dL_law_585 ?_
  refine va_sld hx hb hXs hbl hbA B.2.2 (ix_k hi0 hiL hL (z := 1) rfl (by decide) (by decide)) dL_law_586 ?_
  refine lv_aload_n hx hb dL_law_587 rfl (lv_at hl 1 rfl) ?_
  refine lv_iload hx hb dL_law_588 (lv_at hl 0 rfl) ?_
  refine lv_iconst (v := 2) hx hb dL_law_590 (by decide) ?_
  refine lv_iadd hx hb dL_law_591 ?_
  refine va_sld hx hb hXs hbl hbA B.2.2 (ix_k hi0 hiL hL (z := 2) rfl (by decide) (by decide)) dL_law_592 ?_
  refine lv_aload_n hx hb dL_law_593 rfl (lv_at hl 4 rfl) ?_
  have B : WB g A s.heap (36 + pz) ad (cf g ad (LW g ad n v sp dy la kn re cr dr th kn rf pl pz mc) sp dy la kn re) H locs := LW_c ▸ B
  refine k_i (k := C + 2) (n := S + 12) hA B (u_SW (rest := []) X (c_L_swap l hfl g (36 + pz) ad (LW g ad n v sp dy la kn re cr dr th kn rf pl pz mc) sp dy la kn re n v (by omega) LW_23 hla hlb (xs (i + 1).toNatClampNeg) (xs (i + 2).toNatClampNeg) H.size) mw_L_swap md_L_swap rfl lk_L_208 ⟨(Nat.le_of_ble_eq_true rfl), (Nat.le_of_ble_eq_true rfl)⟩ hA hK hT hnc B hl.1 rfl (Nat.le_of_ble_eq_true rfl) dL_law_594 ⟨by show C + _ ≤ 757246; dsimp only [rm]; omega, by show S + _ ≤ 6824365; dsimp only [rm]; omega⟩) (by dsimp only [rm]; omega) (by dsimp only [rm]; omega) (fun r ad' f' H locs hw B => ?_)
  dsimp only at hw
  obtain ⟨rfl, hw⟩ := hw
  obtain ⟨n', v', sp', dy', la', re', B, hr, hv, hR'⟩ : ∃ (n' : Int64) (v' : Option Nat) (sp' dy' : Nat → TR) (la' re' : Int32), WB g A s.heap (36 + pz) ad (LW g ad n' v' sp' dy' la' kn re' cr dr th kn rf pl pz mc) H locs ∧ r = (v_X4_swap cr (xs (i + 1).toNatClampNeg) (xs (i + 2).toNatClampNeg)).2.2 ∧ (r = 0 → n' = ((v_X4_swap cr (xs (i + 1).toNatClampNeg) (xs (i + 2).toNatClampNeg)).1).toInt64) ∧ Rq sp' dy' la' re' (v_X4_swap cr (xs (i + 1).toNatClampNeg) (xs (i + 2).toNatClampNeg)).2.1 dr rf pl (pz) := by
    have h := rl_swap (a1 := xs (i + 1).toNatClampNeg) (a2 := xs (i + 2).toNatClampNeg) hR
    rcases hw with ⟨hx0, rfl, rfl⟩ | ⟨E, hxE, rfl, rfl⟩
    · have h := h.1 hx0
      exact ⟨_, _, _, _, _, _, LB_c B, h.1.symm, fun _ => by rw [h.2.1], h.2.2⟩
    · have h := h.2 E hxE
      exact ⟨_, _, _, _, _, _, LB_c0 B, h.1.symm, fun q => absurd q (xcd_0 E), h.2⟩
  refine lv_istore (lv' := [(5, .int r), (4, .int i), (0, .ref b), (1, .ref (ad 0)), (2, .ref (ad 24)), (3, .ref (ad 23))]) hx hb dL_law_597 hl (by decide) rfl (fun ls hl => ?_)
  refine lv_aload_n hx hb dL_law_599 rfl (lv_at hl 4 rfl) ?_
  refine lv_aload_n hx hb dL_law_600 rfl (lv_at hl 2 rfl) ?_
  refine lv_iload hx hb dL_law_601 (lv_at hl 1 rfl) ?_
  refine lv_iconst (v := 1) hx hb dL_law_603 (by decide) ?_
  refine lv_iadd hx hb dL_law_604 ?_
  refine va_sld hx hb hXs hbl hbA B.2.2 (ix_k hi0 hiL hL (z := 1) rfl (by decide) (by decide)) dL_law_605 ?_
  refine lv_aload_n hx hb dL_law_606 rfl (lv_at hl 2 rfl) ?_
  refine lv_iload hx hb dL_law_607 (lv_at hl 1 rfl) ?_
  refine lv_iconst (v := 2) hx hb dL_law_609 (by decide) ?_
  refine lv_iadd hx hb dL_law_610 ?_
  refine va_sld hx hb hXs hbl hbA B.2.2 (ix_k hi0 hiL hL (z := 2) rfl (by decide) (by decide)) dL_law_611 ?_
  refine k_i (k := C + 4) (n := S + 18) hA B (b_V (q := 24) (rest := []) rfl X (c_X4_swap l g (36 + pz) ad (yc g ad n' v' sp' dy' la' kn re') cr dr th kn rf pl pz mc (Nat.le_refl _) (ad 24) rfl (xs (i + 1).toNatClampNeg) (xs (i + 2).toNatClampNeg)  H.size) mw_X4_swap md_X4_swap rfl lk_L_210 ⟨(Nat.le_of_ble_eq_true rfl), (Nat.le_of_ble_eq_true rfl)⟩ hA hK hT B (by omega) mg_24 rfl rfl hl.1 rfl (Nat.le_of_ble_eq_true rfl) dL_law_612 ⟨by show C + 2 + _ ≤ 757246; dsimp only [rm]; omega, by show S + 12 + _ ≤ 6824365; dsimp only [rm]; omega⟩) (by dsimp only [rm]; omega) (by dsimp only [rm]; omega) (fun r2 ad' f' H locs hw B => ?_)
  dsimp only at hw
  obtain ⟨had, hr2, rfl⟩ := hw
  have had : ∀ k, k < 28 → ad' k = ad k := fun k hk => had k (by omega) (Or.inl hk)
  have B := LB_m B had
  have hl : lv_has ls 7 [(5, .int r), (4, .int i), (0, .ref b), (1, .ref (ad' 0)), (2, .ref (ad' 24)), (3, .ref (ad' 23))] := by rw [had 0 (by omega), had 24 (by omega), had 23 (by omega)]; exact hl
  refine lv_istore (lv' := [(6, .int r2), (5, .int r), (4, .int i), (0, .ref b), (1, .ref (ad' 0)), (2, .ref (ad' 24)), (3, .ref (ad' 23))]) hx hb dL_law_615 hl (by decide) rfl (fun ls hl => ?_)
  refine lv_goto (tgt := 2441) hx hb dL_law_617 (by decide) ?_
  refine W.widen (show C + 4 ≤ C + 1200 by omega) (show S + 18 ≤ S + 12000 by omega) ?_
  exact kk H locs ls ⟨ad', n', v', sp', dy', la', kn, re', _, _, _, _, _, _, _, hR', B, lv_sub hl [2, 3, 4, 5, 6] rfl⟩
set_option maxHeartbeats 8000000 in
theorem lc_620 {p : Program} {l : Launch} {e : Env} {s : State} {m : MethodId} {below : List Frame} {meth : Method} {c : Code} {cw : Cond} {g : GG} {A : Nat → Prop} {b L : Nat} {xs : Nat → Int32} {C S : Nat} {Q : State → Prop} {H : Heap} {locs : List Loc} {ls : Array Slot} {i : Int32} (Y : LwC p l s m meth c cw g A b L xs) (hi0 : ¬ i < 0) (hiL : i.toInt + 5 ≤ L) (hL : L ≤ 2560) (hrC : C + 1200 ≤ 757246) (hrS : S + 12000 ≤ 6824365) (hS : LwS s g A b i H locs ls)
    (kk : ∀ (H1 : Heap) (locs1 : List Loc) (ls1 : Array Slot), LwS s g A b i H1 locs1 ls1 → W p l e room_1 s m #[.ref b] below meth c H1 locs1 (C + 1200) (S + 12000) Q (F0 m 2441 ls1 [])) : W p l e room_1 s m #[.ref b] below meth c H locs C S Q (F0 m 620 ls []) := by
  obtain ⟨X, hfl, hK, hT, hnc, hXs, hbl, hbA, hA⟩ := Y
  obtain ⟨hx, hb, hml, hown, hts, hlocks⟩ := id X
  obtain ⟨ad, n, v, sp, dy, la, kn, re, cr, dr, th, rf, pl, pz, mc, hR, B, hl⟩ := hS
  obtain ⟨hla, hlb, hz, hdr⟩ := Rq_b hR
  refine lv_aload_n hx hb dL_law_620 rfl (lv_at hl 2 rfl) ?_
  refine lv_aload_n hx hb dL_law_621 rfl (lv_at hl 1 rfl) ?_
  refine lv_iload hx hb dL_law_622 (lv_at hl 0 rfl) ?_
  refine lv_iconst (v := 1) hx hb dL_law_624 (by decide) ?_
  refine lv_iadd hx hb dL_law_625 ?_
  refine va_sld hx hb hXs hbl hbA B.2.2 (ix_k hi0 hiL hL (z := 1) rfl (by decide) (by decide)) dL_law_626 ?_
  refine lv_aload_n hx hb dL_law_627 rfl (lv_at hl 1 rfl) ?_
  refine lv_iload hx hb dL_law_628 (lv_at hl 0 rfl) ?_
  refine lv_iconst (v := 2) hx hb dL_law_630 (by decide) ?_
  refine lv_iadd hx hb dL_law_631 ?_
  refine va_sld hx hb hXs hbl hbA B.2.2 (ix_k hi0 hiL hL (z := 2) rfl (by decide) (by decide)) dL_law_632 ?_
  refine lv_aload_n hx hb dL_law_633 rfl (lv_at hl 1 rfl) ?_
  refine lv_iload hx hb dL_law_634 (lv_at hl 0 rfl) ?_
  refine lv_iconst (v := 3) hx hb dL_law_636 (by decide) ?_
  refine lv_iadd hx hb dL_law_637 ?_
  refine va_sld hx hb hXs hbl hbA B.2.2 (ix_k hi0 hiL hL (z := 3) rfl (by decide) (by decide)) dL_law_638 ?_
  refine p_bool (t1 := 646) (t2 := 647) hx hb dL_law_639 (by decide) (fun Y => lv_iconst (v := 1) hx hb dL_law_642 (by decide) (lv_goto (tgt := 647) hx hb dL_law_643 (by decide) Y)) (fun Y => lv_iconst (v := 0) hx hb dL_law_646 (by decide) Y) ?_
  refine lv_aload_n hx hb dL_law_647 rfl (lv_at hl 4 rfl) ?_
  have B : WB g A s.heap (36 + pz) ad (cf g ad (LW g ad n v sp dy la kn re cr dr th kn rf pl pz mc) sp dy la kn re) H locs := LW_c ▸ B
  refine k_i (k := C + 1) (n := S + 6) hA B (u_SW (rest := []) X (c_L_plusYears l hfl g (36 + pz) ad (LW g ad n v sp dy la kn re cr dr th kn rf pl pz mc) sp dy la kn re n v (by omega) LW_23 hla hlb (xs (i + 1).toNatClampNeg) (xs (i + 2).toNatClampNeg) (bz (xs (i + 3).toNatClampNeg)) H.size) mw_L_plusYears md_L_plusYears rfl lk_L_211 ⟨(Nat.le_of_ble_eq_true rfl), (Nat.le_of_ble_eq_true rfl)⟩ hA hK hT hnc B hl.1 rfl (Nat.le_of_ble_eq_true rfl) dL_law_648 ⟨by show C + _ ≤ 757246; dsimp only [rm]; omega, by show S + _ ≤ 6824365; dsimp only [rm]; omega⟩) (by dsimp only [rm]; omega) (by dsimp only [rm]; omega) (fun r ad' f' H locs hw B => ?_)
  dsimp only at hw
  obtain ⟨rfl, hw⟩ := hw
  obtain ⟨n', v', sp', dy', la', re', B, hr, hv, hR'⟩ : ∃ (n' : Int64) (v' : Option Nat) (sp' dy' : Nat → TR) (la' re' : Int32), WB g A s.heap (36 + pz) ad (LW g ad n' v' sp' dy' la' kn re' cr dr th kn rf pl pz mc) H locs ∧ r = (v_X4_plusYears cr rf (xs (i + 1).toNatClampNeg) (xs (i + 2).toNatClampNeg) (bz (xs (i + 3).toNatClampNeg))).2.2.1 ∧ (r = 0 → n' = ((v_X4_plusYears cr rf (xs (i + 1).toNatClampNeg) (xs (i + 2).toNatClampNeg) (bz (xs (i + 3).toNatClampNeg))).1).toInt64) ∧ Rq sp' dy' la' re' (v_X4_plusYears cr rf (xs (i + 1).toNatClampNeg) (xs (i + 2).toNatClampNeg) (bz (xs (i + 3).toNatClampNeg))).2.1 dr (v_X4_plusYears cr rf (xs (i + 1).toNatClampNeg) (xs (i + 2).toNatClampNeg) (bz (xs (i + 3).toNatClampNeg))).2.2.2 pl (pz) := by
    have h := rl_plusYears (a1 := xs (i + 1).toNatClampNeg) (a2 := xs (i + 2).toNatClampNeg) (a3 := bz (xs (i + 3).toNatClampNeg)) hR
    rcases hw with ⟨hx0, rfl, rfl⟩ | ⟨E, hxE, rfl, rfl⟩
    · have h := h.1 hx0
      exact ⟨_, _, _, _, _, _, LB_c B, h.1.symm, fun _ => by rw [h.2.1], h.2.2⟩
    · have h := h.2 E hxE
      exact ⟨_, _, _, _, _, _, LB_c0 B, h.1.symm, fun q => absurd q (xcd_0 E), h.2⟩
  refine lv_istore (lv' := [(5, .int r), (4, .int i), (0, .ref b), (1, .ref (ad 0)), (2, .ref (ad 24)), (3, .ref (ad 23))]) hx hb dL_law_651 hl (by decide) rfl (fun ls hl => ?_)
  refine lv_aload_n hx hb dL_law_653 rfl (lv_at hl 4 rfl) ?_
  refine lv_aload_n hx hb dL_law_654 rfl (lv_at hl 2 rfl) ?_
  refine lv_iload hx hb dL_law_655 (lv_at hl 1 rfl) ?_
  refine lv_iconst (v := 1) hx hb dL_law_657 (by decide) ?_
  refine lv_iadd hx hb dL_law_658 ?_
  refine va_sld hx hb hXs hbl hbA B.2.2 (ix_k hi0 hiL hL (z := 1) rfl (by decide) (by decide)) dL_law_659 ?_
  refine lv_aload_n hx hb dL_law_660 rfl (lv_at hl 2 rfl) ?_
  refine lv_iload hx hb dL_law_661 (lv_at hl 1 rfl) ?_
  refine lv_iconst (v := 2) hx hb dL_law_663 (by decide) ?_
  refine lv_iadd hx hb dL_law_664 ?_
  refine va_sld hx hb hXs hbl hbA B.2.2 (ix_k hi0 hiL hL (z := 2) rfl (by decide) (by decide)) dL_law_665 ?_
  refine lv_aload_n hx hb dL_law_666 rfl (lv_at hl 2 rfl) ?_
  refine lv_iload hx hb dL_law_667 (lv_at hl 1 rfl) ?_
  refine lv_iconst (v := 3) hx hb dL_law_669 (by decide) ?_
  refine lv_iadd hx hb dL_law_670 ?_
  refine va_sld hx hb hXs hbl hbA B.2.2 (ix_k hi0 hiL hL (z := 3) rfl (by decide) (by decide)) dL_law_671 ?_
  refine p_bool (t1 := 679) (t2 := 680) hx hb dL_law_672 (by decide) (fun Y => lv_iconst (v := 1) hx hb dL_law_675 (by decide) (lv_goto (tgt := 680) hx hb dL_law_676 (by decide) Y)) (fun Y => lv_iconst (v := 0) hx hb dL_law_679 (by decide) Y) ?_
  refine k_i (k := C + 3) (n := S + 12) hA B (b_V (q := 24) (rest := []) rfl X (c_X4_plusYears l g (36 + pz) ad (yc g ad n' v' sp' dy' la' kn re') cr dr th kn rf pl pz mc (Nat.le_refl _) (ad 24) rfl (xs (i + 1).toNatClampNeg) (xs (i + 2).toNatClampNeg) (bz (xs (i + 3).toNatClampNeg))  H.size) mw_X4_plusYears md_X4_plusYears rfl lk_L_214 ⟨(Nat.le_of_ble_eq_true rfl), (Nat.le_of_ble_eq_true rfl)⟩ hA hK hT B (by omega) mg_24 rfl rfl hl.1 rfl (Nat.le_of_ble_eq_true rfl) dL_law_680 ⟨by show C + 1 + _ ≤ 757246; dsimp only [rm]; omega, by show S + 6 + _ ≤ 6824365; dsimp only [rm]; omega⟩) (by dsimp only [rm]; omega) (by dsimp only [rm]; omega) (fun r2 ad' f' H locs hw B => ?_)
  dsimp only at hw
  obtain ⟨had, hr2, rfl⟩ := hw
  have had : ∀ k, k < 28 → ad' k = ad k := fun k hk => had k (by omega) (Or.inl hk)
  have B := LB_m B had
  have hl : lv_has ls 7 [(5, .int r), (4, .int i), (0, .ref b), (1, .ref (ad' 0)), (2, .ref (ad' 24)), (3, .ref (ad' 23))] := by rw [had 0 (by omega), had 24 (by omega), had 23 (by omega)]; exact hl
  refine lv_istore (lv' := [(6, .int r2), (5, .int r), (4, .int i), (0, .ref b), (1, .ref (ad' 0)), (2, .ref (ad' 24)), (3, .ref (ad' 23))]) hx hb dL_law_683 hl (by decide) rfl (fun ls hl => ?_)
  refine lv_goto (tgt := 2441) hx hb dL_law_685 (by decide) ?_
  refine W.widen (show C + 3 ≤ C + 1200 by omega) (show S + 12 ≤ S + 12000 by omega) ?_
  exact kk H locs ls ⟨ad', n', v', sp', dy', la', kn, re', _, _, _, _, _, _, _, hR', B, lv_sub hl [2, 3, 4, 5, 6] rfl⟩
set_option maxHeartbeats 8000000 in
theorem lc_688 {p : Program} {l : Launch} {e : Env} {s : State} {m : MethodId} {below : List Frame} {meth : Method} {c : Code} {cw : Cond} {g : GG} {A : Nat → Prop} {b L : Nat} {xs : Nat → Int32} {C S : Nat} {Q : State → Prop} {H : Heap} {locs : List Loc} {ls : Array Slot} {i : Int32} (Y : LwC p l s m meth c cw g A b L xs) (hi0 : ¬ i < 0) (hiL : i.toInt + 5 ≤ L) (hL : L ≤ 2560) (hrC : C + 1200 ≤ 757246) (hrS : S + 12000 ≤ 6824365) (hS : LwS s g A b i H locs ls)
    (kk : ∀ (H1 : Heap) (locs1 : List Loc) (ls1 : Array Slot), LwS s g A b i H1 locs1 ls1 → W p l e room_1 s m #[.ref b] below meth c H1 locs1 (C + 1200) (S + 12000) Q (F0 m 2441 ls1 [])) : W p l e room_1 s m #[.ref b] below meth c H locs C S Q (F0 m 688 ls []) := by
  obtain ⟨X, hfl, hK, hT, hnc, hXs, hbl, hbA, hA⟩ := Y
  obtain ⟨hx, hb, hml, hown, hts, hlocks⟩ := id X
  obtain ⟨ad, n, v, sp, dy, la, kn, re, cr, dr, th, rf, pl, pz, mc, hR, B, hl⟩ := hS
  obtain ⟨hla, hlb, hz, hdr⟩ := Rq_b hR
  refine lv_aload_n hx hb dL_law_688 rfl (lv_at hl 2 rfl) ?_
  refine lv_aload_n hx hb dL_law_689 rfl (lv_at hl 1 rfl) ?_
  refine lv_iload hx hb dL_law_690 (lv_at hl 0 rfl) ?_
  refine lv_iconst (v := 1) hx hb dL_law_692 (by decide) ?_
  refine lv_iadd hx hb dL_law_693 ?_
  refine va_sld hx hb hXs hbl hbA B.2.2 (ix_k hi0 hiL hL (z := 1) rfl (by decide) (by decide)) dL_law_694 ?_
  refine lv_aload_n hx hb dL_law_695 rfl (lv_at hl 1 rfl) ?_
  refine lv_iload hx hb dL_law_696 (lv_at hl 0 rfl) ?_
  refine lv_iconst (v := 2) hx hb dL_law_698 (by decide) ?_
  refine lv_iadd hx hb dL_law_699 ?_
  refine va_sld hx hb hXs hbl hbA B.2.2 (ix_k hi0 hiL hL (z := 2) rfl (by decide) (by decide)) dL_law_700 ?_
  refine lv_aload_n hx hb dL_law_701 rfl (lv_at hl 1 rfl) ?_
  refine lv_iload hx hb dL_law_702 (lv_at hl 0 rfl) ?_
  refine lv_iconst (v := 3) hx hb dL_law_704 (by decide) ?_
  refine lv_iadd hx hb dL_law_705 ?_
  refine va_sld hx hb hXs hbl hbA B.2.2 (ix_k hi0 hiL hL (z := 3) rfl (by decide) (by decide)) dL_law_706 ?_
  refine p_bool (t1 := 714) (t2 := 715) hx hb dL_law_707 (by decide) (fun Y => lv_iconst (v := 1) hx hb dL_law_710 (by decide) (lv_goto (tgt := 715) hx hb dL_law_711 (by decide) Y)) (fun Y => lv_iconst (v := 0) hx hb dL_law_714 (by decide) Y) ?_
  refine lv_aload_n hx hb dL_law_715 rfl (lv_at hl 4 rfl) ?_
  have B : WB g A s.heap (36 + pz) ad (cf g ad (LW g ad n v sp dy la kn re cr dr th kn rf pl pz mc) sp dy la kn re) H locs := LW_c ▸ B
  refine k_i (k := C + 1) (n := S + 6) hA B (u_SW (rest := []) X (c_L_plusMonths l hfl g (36 + pz) ad (LW g ad n v sp dy la kn re cr dr th kn rf pl pz mc) sp dy la kn re n v (by omega) LW_23 hla hlb (xs (i + 1).toNatClampNeg) (xs (i + 2).toNatClampNeg) (bz (xs (i + 3).toNatClampNeg)) H.size) mw_L_plusMonths md_L_plusMonths rfl lk_L_215 ⟨(Nat.le_of_ble_eq_true rfl), (Nat.le_of_ble_eq_true rfl)⟩ hA hK hT hnc B hl.1 rfl (Nat.le_of_ble_eq_true rfl) dL_law_716 ⟨by show C + _ ≤ 757246; dsimp only [rm]; omega, by show S + _ ≤ 6824365; dsimp only [rm]; omega⟩) (by dsimp only [rm]; omega) (by dsimp only [rm]; omega) (fun r ad' f' H locs hw B => ?_)
  dsimp only at hw
  obtain ⟨rfl, hw⟩ := hw
  obtain ⟨n', v', sp', dy', la', re', B, hr, hv, hR'⟩ : ∃ (n' : Int64) (v' : Option Nat) (sp' dy' : Nat → TR) (la' re' : Int32), WB g A s.heap (36 + pz) ad (LW g ad n' v' sp' dy' la' kn re' cr dr th kn rf pl pz mc) H locs ∧ r = (v_X4_plusMonths cr rf (xs (i + 1).toNatClampNeg) (xs (i + 2).toNatClampNeg) (bz (xs (i + 3).toNatClampNeg))).2.2.1 ∧ (r = 0 → n' = ((v_X4_plusMonths cr rf (xs (i + 1).toNatClampNeg) (xs (i + 2).toNatClampNeg) (bz (xs (i + 3).toNatClampNeg))).1).toInt64) ∧ Rq sp' dy' la' re' (v_X4_plusMonths cr rf (xs (i + 1).toNatClampNeg) (xs (i + 2).toNatClampNeg) (bz (xs (i + 3).toNatClampNeg))).2.1 dr (v_X4_plusMonths cr rf (xs (i + 1).toNatClampNeg) (xs (i + 2).toNatClampNeg) (bz (xs (i + 3).toNatClampNeg))).2.2.2 pl (pz) := by
    have h := rl_plusMonths (a1 := xs (i + 1).toNatClampNeg) (a2 := xs (i + 2).toNatClampNeg) (a3 := bz (xs (i + 3).toNatClampNeg)) hR
    rcases hw with ⟨hx0, rfl, rfl⟩ | ⟨E, hxE, rfl, rfl⟩
    · have h := h.1 hx0
      exact ⟨_, _, _, _, _, _, LB_c B, h.1.symm, fun _ => by rw [h.2.1], h.2.2⟩
    · have h := h.2 E hxE
      exact ⟨_, _, _, _, _, _, LB_c0 B, h.1.symm, fun q => absurd q (xcd_0 E), h.2⟩
  refine lv_istore (lv' := [(5, .int r), (4, .int i), (0, .ref b), (1, .ref (ad 0)), (2, .ref (ad 24)), (3, .ref (ad 23))]) hx hb dL_law_719 hl (by decide) rfl (fun ls hl => ?_)
  refine lv_aload_n hx hb dL_law_721 rfl (lv_at hl 4 rfl) ?_
  refine lv_aload_n hx hb dL_law_722 rfl (lv_at hl 2 rfl) ?_
  refine lv_iload hx hb dL_law_723 (lv_at hl 1 rfl) ?_
  refine lv_iconst (v := 1) hx hb dL_law_725 (by decide) ?_
  refine lv_iadd hx hb dL_law_726 ?_
  refine va_sld hx hb hXs hbl hbA B.2.2 (ix_k hi0 hiL hL (z := 1) rfl (by decide) (by decide)) dL_law_727 ?_
  refine lv_aload_n hx hb dL_law_728 rfl (lv_at hl 2 rfl) ?_
  refine lv_iload hx hb dL_law_729 (lv_at hl 1 rfl) ?_
  refine lv_iconst (v := 2) hx hb dL_law_731 (by decide) ?_
  refine lv_iadd hx hb dL_law_732 ?_
  refine va_sld hx hb hXs hbl hbA B.2.2 (ix_k hi0 hiL hL (z := 2) rfl (by decide) (by decide)) dL_law_733 ?_
  refine lv_aload_n hx hb dL_law_734 rfl (lv_at hl 2 rfl) ?_
  refine lv_iload hx hb dL_law_735 (lv_at hl 1 rfl) ?_
  refine lv_iconst (v := 3) hx hb dL_law_737 (by decide) ?_
  refine lv_iadd hx hb dL_law_738 ?_
  refine va_sld hx hb hXs hbl hbA B.2.2 (ix_k hi0 hiL hL (z := 3) rfl (by decide) (by decide)) dL_law_739 ?_
  refine p_bool (t1 := 747) (t2 := 748) hx hb dL_law_740 (by decide) (fun Y => lv_iconst (v := 1) hx hb dL_law_743 (by decide) (lv_goto (tgt := 748) hx hb dL_law_744 (by decide) Y)) (fun Y => lv_iconst (v := 0) hx hb dL_law_747 (by decide) Y) ?_
  refine k_i (k := C + 3) (n := S + 12) hA B (b_V (q := 24) (rest := []) rfl X (c_X4_plusMonths l g (36 + pz) ad (yc g ad n' v' sp' dy' la' kn re') cr dr th kn rf pl pz mc (Nat.le_refl _) (ad 24) rfl (xs (i + 1).toNatClampNeg) (xs (i + 2).toNatClampNeg) (bz (xs (i + 3).toNatClampNeg))  H.size) mw_X4_plusMonths md_X4_plusMonths rfl lk_L_217 ⟨(Nat.le_of_ble_eq_true rfl), (Nat.le_of_ble_eq_true rfl)⟩ hA hK hT B (by omega) mg_24 rfl rfl hl.1 rfl (Nat.le_of_ble_eq_true rfl) dL_law_748 ⟨by show C + 1 + _ ≤ 757246; dsimp only [rm]; omega, by show S + 6 + _ ≤ 6824365; dsimp only [rm]; omega⟩) (by dsimp only [rm]; omega) (by dsimp only [rm]; omega) (fun r2 ad' f' H locs hw B => ?_)
  dsimp only at hw
  obtain ⟨had, hr2, rfl⟩ := hw
  have had : ∀ k, k < 28 → ad' k = ad k := fun k hk => had k (by omega) (Or.inl hk)
  have B := LB_m B had
  have hl : lv_has ls 7 [(5, .int r), (4, .int i), (0, .ref b), (1, .ref (ad' 0)), (2, .ref (ad' 24)), (3, .ref (ad' 23))] := by rw [had 0 (by omega), had 24 (by omega), had 23 (by omega)]; exact hl
  refine lv_istore (lv' := [(6, .int r2), (5, .int r), (4, .int i), (0, .ref b), (1, .ref (ad' 0)), (2, .ref (ad' 24)), (3, .ref (ad' 23))]) hx hb dL_law_751 hl (by decide) rfl (fun ls hl => ?_)
  refine lv_goto (tgt := 2441) hx hb dL_law_753 (by decide) ?_
  refine W.widen (show C + 3 ≤ C + 1200 by omega) (show S + 12 ≤ S + 12000 by omega) ?_
  exact kk H locs ls ⟨ad', n', v', sp', dy', la', kn, re', _, _, _, _, _, _, _, hR', B, lv_sub hl [2, 3, 4, 5, 6] rfl⟩
set_option maxHeartbeats 8000000 in
theorem lc_756 {p : Program} {l : Launch} {e : Env} {s : State} {m : MethodId} {below : List Frame} {meth : Method} {c : Code} {cw : Cond} {g : GG} {A : Nat → Prop} {b L : Nat} {xs : Nat → Int32} {C S : Nat} {Q : State → Prop} {H : Heap} {locs : List Loc} {ls : Array Slot} {i : Int32} (Y : LwC p l s m meth c cw g A b L xs) (hi0 : ¬ i < 0) (hiL : i.toInt + 5 ≤ L) (hL : L ≤ 2560) (hrC : C + 1200 ≤ 757246) (hrS : S + 12000 ≤ 6824365) (hS : LwS s g A b i H locs ls)
    (kk : ∀ (H1 : Heap) (locs1 : List Loc) (ls1 : Array Slot), LwS s g A b i H1 locs1 ls1 → W p l e room_1 s m #[.ref b] below meth c H1 locs1 (C + 1200) (S + 12000) Q (F0 m 2441 ls1 [])) : W p l e room_1 s m #[.ref b] below meth c H locs C S Q (F0 m 756 ls []) := by
  obtain ⟨X, hfl, hK, hT, hnc, hXs, hbl, hbA, hA⟩ := Y
  obtain ⟨hx, hb, hml, hown, hts, hlocks⟩ := id X
  obtain ⟨ad, n, v, sp, dy, la, kn, re, cr, dr, th, rf, pl, pz, mc, hR, B, hl⟩ := hS
  obtain ⟨hla, hlb, hz, hdr⟩ := Rq_b hR
  refine lv_aload_n hx hb dL_law_756 rfl (lv_at hl 2 rfl) ?_
  refine lv_aload_n hx hb dL_law_757 rfl (lv_at hl 1 rfl) ?_
  refine lv_iload hx hb dL_law_758 (lv_at hl 0 rfl) ?_
  refine lv_iconst (v := 1) hx hb dL_law_760 (by decide) ?_
  refine lv_iadd hx hb dL_law_761 ?_
  refine va_sld hx hb hXs hbl hbA B.2.2 (ix_k hi0 hiL hL (z := 1) rfl (by decide) (by decide)) dL_law_762 ?_
  refine lv_aload_n hx hb dL_law_763 rfl (lv_at hl 1 rfl) ?_
  refine lv_iload hx hb dL_law_764 (lv_at hl 0 rfl) ?_
  refine lv_iconst (v := 2) hx hb dL_law_766 (by decide) ?_
  refine lv_iadd hx hb dL_law_767 ?_
  refine va_sld hx hb hXs hbl hbA B.2.2 (ix_k hi0 hiL hL (z := 2) rfl (by decide) (by decide)) dL_law_768 ?_
  refine lv_aload_n hx hb dL_law_769 rfl (lv_at hl 1 rfl) ?_
  refine lv_iload hx hb dL_law_770 (lv_at hl 0 rfl) ?_
  refine lv_iconst (v := 3) hx hb dL_law_772 (by decide) ?_
  refine lv_iadd hx hb dL_law_773 ?_
  refine va_sld hx hb hXs hbl hbA B.2.2 (ix_k hi0 hiL hL (z := 3) rfl (by decide) (by decide)) dL_law_774 ?_
  refine p_bool (t1 := 782) (t2 := 783) hx hb dL_law_775 (by decide) (fun Y => lv_iconst (v := 1) hx hb dL_law_778 (by decide) (lv_goto (tgt := 783) hx hb dL_law_779 (by decide) Y)) (fun Y => lv_iconst (v := 0) hx hb dL_law_782 (by decide) Y) ?_
  refine lv_aload_n hx hb dL_law_783 rfl (lv_at hl 4 rfl) ?_
  have B : WB g A s.heap (36 + pz) ad (cf g ad (LW g ad n v sp dy la kn re cr dr th kn rf pl pz mc) sp dy la kn re) H locs := LW_c ▸ B
  refine k_i (k := C + 1) (n := S + 6) hA B (u_SW (rest := []) X (c_L_plusDays l hfl g (36 + pz) ad (LW g ad n v sp dy la kn re cr dr th kn rf pl pz mc) sp dy la kn re n v (by omega) LW_23 hla hlb (xs (i + 1).toNatClampNeg) (xs (i + 2).toNatClampNeg) (bz (xs (i + 3).toNatClampNeg)) H.size) mw_L_plusDays md_L_plusDays rfl lk_L_218 ⟨(Nat.le_of_ble_eq_true rfl), (Nat.le_of_ble_eq_true rfl)⟩ hA hK hT hnc B hl.1 rfl (Nat.le_of_ble_eq_true rfl) dL_law_784 ⟨by show C + _ ≤ 757246; dsimp only [rm]; omega, by show S + _ ≤ 6824365; dsimp only [rm]; omega⟩) (by dsimp only [rm]; omega) (by dsimp only [rm]; omega) (fun r ad' f' H locs hw B => ?_)
  dsimp only at hw
  obtain ⟨rfl, hw⟩ := hw
  obtain ⟨n', v', sp', dy', la', re', B, hr, hv, hR'⟩ : ∃ (n' : Int64) (v' : Option Nat) (sp' dy' : Nat → TR) (la' re' : Int32), WB g A s.heap (36 + pz) ad (LW g ad n' v' sp' dy' la' kn re' cr dr th kn rf pl pz mc) H locs ∧ r = (v_X4_plusDays cr rf (xs (i + 1).toNatClampNeg) (xs (i + 2).toNatClampNeg) (bz (xs (i + 3).toNatClampNeg))).2.2.1 ∧ (r = 0 → n' = ((v_X4_plusDays cr rf (xs (i + 1).toNatClampNeg) (xs (i + 2).toNatClampNeg) (bz (xs (i + 3).toNatClampNeg))).1).toInt64) ∧ Rq sp' dy' la' re' (v_X4_plusDays cr rf (xs (i + 1).toNatClampNeg) (xs (i + 2).toNatClampNeg) (bz (xs (i + 3).toNatClampNeg))).2.1 dr (v_X4_plusDays cr rf (xs (i + 1).toNatClampNeg) (xs (i + 2).toNatClampNeg) (bz (xs (i + 3).toNatClampNeg))).2.2.2 pl (pz) := by
    have h := rl_plusDays (a1 := xs (i + 1).toNatClampNeg) (a2 := xs (i + 2).toNatClampNeg) (a3 := bz (xs (i + 3).toNatClampNeg)) hR
    rcases hw with ⟨hx0, rfl, rfl⟩ | ⟨E, hxE, rfl, rfl⟩
    · have h := h.1 hx0
      exact ⟨_, _, _, _, _, _, LB_c B, h.1.symm, fun _ => by rw [h.2.1], h.2.2⟩
    · have h := h.2 E hxE
      exact ⟨_, _, _, _, _, _, LB_c0 B, h.1.symm, fun q => absurd q (xcd_0 E), h.2⟩
  refine lv_istore (lv' := [(5, .int r), (4, .int i), (0, .ref b), (1, .ref (ad 0)), (2, .ref (ad 24)), (3, .ref (ad 23))]) hx hb dL_law_787 hl (by decide) rfl (fun ls hl => ?_)
  refine lv_aload_n hx hb dL_law_789 rfl (lv_at hl 4 rfl) ?_
  refine lv_aload_n hx hb dL_law_790 rfl (lv_at hl 2 rfl) ?_
  refine lv_iload hx hb dL_law_791 (lv_at hl 1 rfl) ?_
  refine lv_iconst (v := 1) hx hb dL_law_793 (by decide) ?_
  refine lv_iadd hx hb dL_law_794 ?_
  refine va_sld hx hb hXs hbl hbA B.2.2 (ix_k hi0 hiL hL (z := 1) rfl (by decide) (by decide)) dL_law_795 ?_
  refine lv_aload_n hx hb dL_law_796 rfl (lv_at hl 2 rfl) ?_
  refine lv_iload hx hb dL_law_797 (lv_at hl 1 rfl) ?_
  refine lv_iconst (v := 2) hx hb dL_law_799 (by decide) ?_
  refine lv_iadd hx hb dL_law_800 ?_
  refine va_sld hx hb hXs hbl hbA B.2.2 (ix_k hi0 hiL hL (z := 2) rfl (by decide) (by decide)) dL_law_801 ?_
  refine lv_aload_n hx hb dL_law_802 rfl (lv_at hl 2 rfl) ?_
  refine lv_iload hx hb dL_law_803 (lv_at hl 1 rfl) ?_
  refine lv_iconst (v := 3) hx hb dL_law_805 (by decide) ?_
  refine lv_iadd hx hb dL_law_806 ?_
  refine va_sld hx hb hXs hbl hbA B.2.2 (ix_k hi0 hiL hL (z := 3) rfl (by decide) (by decide)) dL_law_807 ?_
  refine p_bool (t1 := 815) (t2 := 816) hx hb dL_law_808 (by decide) (fun Y => lv_iconst (v := 1) hx hb dL_law_811 (by decide) (lv_goto (tgt := 816) hx hb dL_law_812 (by decide) Y)) (fun Y => lv_iconst (v := 0) hx hb dL_law_815 (by decide) Y) ?_
  refine k_i (k := C + 3) (n := S + 12) hA B (b_V (q := 24) (rest := []) rfl X (c_X4_plusDays l g (36 + pz) ad (yc g ad n' v' sp' dy' la' kn re') cr dr th kn rf pl pz mc (Nat.le_refl _) (ad 24) rfl (xs (i + 1).toNatClampNeg) (xs (i + 2).toNatClampNeg) (bz (xs (i + 3).toNatClampNeg))  H.size) mw_X4_plusDays md_X4_plusDays rfl lk_L_220 ⟨(Nat.le_of_ble_eq_true rfl), (Nat.le_of_ble_eq_true rfl)⟩ hA hK hT B (by omega) mg_24 rfl rfl hl.1 rfl (Nat.le_of_ble_eq_true rfl) dL_law_816 ⟨by show C + 1 + _ ≤ 757246; dsimp only [rm]; omega, by show S + 6 + _ ≤ 6824365; dsimp only [rm]; omega⟩) (by dsimp only [rm]; omega) (by dsimp only [rm]; omega) (fun r2 ad' f' H locs hw B => ?_)
  dsimp only at hw
  obtain ⟨had, hr2, rfl⟩ := hw
  have had : ∀ k, k < 28 → ad' k = ad k := fun k hk => had k (by omega) (Or.inl hk)
  have B := LB_m B had
  have hl : lv_has ls 7 [(5, .int r), (4, .int i), (0, .ref b), (1, .ref (ad' 0)), (2, .ref (ad' 24)), (3, .ref (ad' 23))] := by rw [had 0 (by omega), had 24 (by omega), had 23 (by omega)]; exact hl
  refine lv_istore (lv' := [(6, .int r2), (5, .int r), (4, .int i), (0, .ref b), (1, .ref (ad' 0)), (2, .ref (ad' 24)), (3, .ref (ad' 23))]) hx hb dL_law_819 hl (by decide) rfl (fun ls hl => ?_)
  refine lv_goto (tgt := 2441) hx hb dL_law_821 (by decide) ?_
  refine W.widen (show C + 3 ≤ C + 1200 by omega) (show S + 12 ≤ S + 12000 by omega) ?_
  exact kk H locs ls ⟨ad', n', v', sp', dy', la', kn, re', _, _, _, _, _, _, _, hR', B, lv_sub hl [2, 3, 4, 5, 6] rfl⟩
set_option maxHeartbeats 8000000 in
theorem lc_824 {p : Program} {l : Launch} {e : Env} {s : State} {m : MethodId} {below : List Frame} {meth : Method} {c : Code} {cw : Cond} {g : GG} {A : Nat → Prop} {b L : Nat} {xs : Nat → Int32} {C S : Nat} {Q : State → Prop} {H : Heap} {locs : List Loc} {ls : Array Slot} {i : Int32} (Y : LwC p l s m meth c cw g A b L xs) (hi0 : ¬ i < 0) (hiL : i.toInt + 5 ≤ L) (hL : L ≤ 2560) (hrC : C + 1200 ≤ 757246) (hrS : S + 12000 ≤ 6824365) (hS : LwS s g A b i H locs ls)
    (kk : ∀ (H1 : Heap) (locs1 : List Loc) (ls1 : Array Slot), LwS s g A b i H1 locs1 ls1 → W p l e room_1 s m #[.ref b] below meth c H1 locs1 (C + 1200) (S + 12000) Q (F0 m 2441 ls1 [])) : W p l e room_1 s m #[.ref b] below meth c H locs C S Q (F0 m 824 ls []) := by
  obtain ⟨X, hfl, hK, hT, hnc, hXs, hbl, hbA, hA⟩ := Y
  obtain ⟨hx, hb, hml, hown, hts, hlocks⟩ := id X
  obtain ⟨ad, n, v, sp, dy, la, kn, re, cr, dr, th, rf, pl, pz, mc, hR, B, hl⟩ := hS
  obtain ⟨hla, hlb, hz, hdr⟩ := Rq_b hR
  refine lv_aload_n hx hb dL_law_824 rfl (lv_at hl 2 rfl) ?_
  refine lv_aload_n hx hb dL_law_825 rfl (lv_at hl 1 rfl) ?_
  refine lv_iload hx hb dL_law_826 (lv_at hl 0 rfl) ?_
  refine lv_iconst (v := 1) hx hb dL_law_828 (by decide) ?_
  refine lv_iadd hx hb dL_law_829 ?_
  refine va_sld hx hb hXs hbl hbA B.2.2 (ix_k hi0 hiL hL (z := 1) rfl (by decide) (by decide)) dL_law_830 ?_
  refine lv_aload_n hx hb dL_law_831 rfl (lv_at hl 1 rfl) ?_
  refine lv_iload hx hb dL_law_832 (lv_at hl 0 rfl) ?_
  refine lv_iconst (v := 2) hx hb dL_law_834 (by decide) ?_
  refine lv_iadd hx hb dL_law_835 ?_
  refine va_sld hx hb hXs hbl hbA B.2.2 (ix_k hi0 hiL hL (z := 2) rfl (by decide) (by decide)) dL_law_836 ?_
  refine lv_aload_n hx hb dL_law_837 rfl (lv_at hl 1 rfl) ?_
  refine lv_iload hx hb dL_law_838 (lv_at hl 0 rfl) ?_
  refine lv_iconst (v := 3) hx hb dL_law_840 (by decide) ?_
  refine lv_iadd hx hb dL_law_841 ?_
  refine va_sld hx hb hXs hbl hbA B.2.2 (ix_k hi0 hiL hL (z := 3) rfl (by decide) (by decide)) dL_law_842 ?_
  refine p_bool (t1 := 850) (t2 := 851) hx hb dL_law_843 (by decide) (fun Y => lv_iconst (v := 1) hx hb dL_law_846 (by decide) (lv_goto (tgt := 851) hx hb dL_law_847 (by decide) Y)) (fun Y => lv_iconst (v := 0) hx hb dL_law_850 (by decide) Y) ?_
  refine lv_aload_n hx hb dL_law_851 rfl (lv_at hl 4 rfl) ?_
  have B : WB g A s.heap (36 + pz) ad (cf g ad (LW g ad n v sp dy la kn re cr dr th kn rf pl pz mc) sp dy la kn re) H locs := LW_c ▸ B
  refine k_i (k := C + 1) (n := S + 6) hA B (u_SW (rest := []) X (c_L_minusYears l hfl g (36 + pz) ad (LW g ad n v sp dy la kn re cr dr th kn rf pl pz mc) sp dy la kn re n v (by omega) LW_23 hla hlb (xs (i + 1).toNatClampNeg) (xs (i + 2).toNatClampNeg) (bz (xs (i + 3).toNatClampNeg)) H.size) mw_L_minusYears md_L_minusYears rfl lk_L_221 ⟨(Nat.le_of_ble_eq_true rfl), (Nat.le_of_ble_eq_true rfl)⟩ hA hK hT hnc B hl.1 rfl (Nat.le_of_ble_eq_true rfl) dL_law_852 ⟨by show C + _ ≤ 757246; dsimp only [rm]; omega, by show S + _ ≤ 6824365; dsimp only [rm]; omega⟩) (by dsimp only [rm]; omega) (by dsimp only [rm]; omega) (fun r ad' f' H locs hw B => ?_)
  dsimp only at hw
  obtain ⟨rfl, hw⟩ := hw
  obtain ⟨n', v', sp', dy', la', re', B, hr, hv, hR'⟩ : ∃ (n' : Int64) (v' : Option Nat) (sp' dy' : Nat → TR) (la' re' : Int32), WB g A s.heap (36 + pz) ad (LW g ad n' v' sp' dy' la' kn re' cr dr th kn rf pl pz mc) H locs ∧ r = (v_X4_minusYears cr rf (xs (i + 1).toNatClampNeg) (xs (i + 2).toNatClampNeg) (bz (xs (i + 3).toNatClampNeg))).2.2.1 ∧ (r = 0 → n' = ((v_X4_minusYears cr rf (xs (i + 1).toNatClampNeg) (xs (i + 2).toNatClampNeg) (bz (xs (i + 3).toNatClampNeg))).1).toInt64) ∧ Rq sp' dy' la' re' (v_X4_minusYears cr rf (xs (i + 1).toNatClampNeg) (xs (i + 2).toNatClampNeg) (bz (xs (i + 3).toNatClampNeg))).2.1 dr (v_X4_minusYears cr rf (xs (i + 1).toNatClampNeg) (xs (i + 2).toNatClampNeg) (bz (xs (i + 3).toNatClampNeg))).2.2.2 pl (pz) := by
    have h := rl_minusYears (a1 := xs (i + 1).toNatClampNeg) (a2 := xs (i + 2).toNatClampNeg) (a3 := bz (xs (i + 3).toNatClampNeg)) hR
    rcases hw with ⟨hx0, rfl, rfl⟩ | ⟨E, hxE, rfl, rfl⟩
    · have h := h.1 hx0
      exact ⟨_, _, _, _, _, _, LB_c B, h.1.symm, fun _ => by rw [h.2.1], h.2.2⟩
    · have h := h.2 E hxE
      exact ⟨_, _, _, _, _, _, LB_c0 B, h.1.symm, fun q => absurd q (xcd_0 E), h.2⟩
  refine lv_istore (lv' := [(5, .int r), (4, .int i), (0, .ref b), (1, .ref (ad 0)), (2, .ref (ad 24)), (3, .ref (ad 23))]) hx hb dL_law_855 hl (by decide) rfl (fun ls hl => ?_)
  refine lv_aload_n hx hb dL_law_857 rfl (lv_at hl 4 rfl) ?_
  refine lv_aload_n hx hb dL_law_858 rfl (lv_at hl 2 rfl) ?_
  refine lv_iload hx hb dL_law_859 (lv_at hl 1 rfl) ?_
  refine lv_iconst (v := 1) hx hb dL_law_861 (by decide) ?_
  refine lv_iadd hx hb dL_law_862 ?_
  refine va_sld hx hb hXs hbl hbA B.2.2 (ix_k hi0 hiL hL (z := 1) rfl (by decide) (by decide)) dL_law_863 ?_
  refine lv_aload_n hx hb dL_law_864 rfl (lv_at hl 2 rfl) ?_
  refine lv_iload hx hb dL_law_865 (lv_at hl 1 rfl) ?_
  refine lv_iconst (v := 2) hx hb dL_law_867 (by decide) ?_
  refine lv_iadd hx hb dL_law_868 ?_
  refine va_sld hx hb hXs hbl hbA B.2.2 (ix_k hi0 hiL hL (z := 2) rfl (by decide) (by decide)) dL_law_869 ?_
  refine lv_aload_n hx hb dL_law_870 rfl (lv_at hl 2 rfl) ?_
  refine lv_iload hx hb dL_law_871 (lv_at hl 1 rfl) ?_
  refine lv_iconst (v := 3) hx hb dL_law_873 (by decide) ?_
  refine lv_iadd hx hb dL_law_874 ?_
  refine va_sld hx hb hXs hbl hbA B.2.2 (ix_k hi0 hiL hL (z := 3) rfl (by decide) (by decide)) dL_law_875 ?_
  refine p_bool (t1 := 883) (t2 := 884) hx hb dL_law_876 (by decide) (fun Y => lv_iconst (v := 1) hx hb dL_law_879 (by decide) (lv_goto (tgt := 884) hx hb dL_law_880 (by decide) Y)) (fun Y => lv_iconst (v := 0) hx hb dL_law_883 (by decide) Y) ?_
  refine k_i (k := C + 3) (n := S + 12) hA B (b_V (q := 24) (rest := []) rfl X (c_X4_minusYears l g (36 + pz) ad (yc g ad n' v' sp' dy' la' kn re') cr dr th kn rf pl pz mc (Nat.le_refl _) (ad 24) rfl (xs (i + 1).toNatClampNeg) (xs (i + 2).toNatClampNeg) (bz (xs (i + 3).toNatClampNeg))  H.size) mw_X4_minusYears md_X4_minusYears rfl lk_L_223 ⟨(Nat.le_of_ble_eq_true rfl), (Nat.le_of_ble_eq_true rfl)⟩ hA hK hT B (by omega) mg_24 rfl rfl hl.1 rfl (Nat.le_of_ble_eq_true rfl) dL_law_884 ⟨by show C + 1 + _ ≤ 757246; dsimp only [rm]; omega, by show S + 6 + _ ≤ 6824365; dsimp only [rm]; omega⟩) (by dsimp only [rm]; omega) (by dsimp only [rm]; omega) (fun r2 ad' f' H locs hw B => ?_)
  dsimp only at hw
  obtain ⟨had, hr2, rfl⟩ := hw
  have had : ∀ k, k < 28 → ad' k = ad k := fun k hk => had k (by omega) (Or.inl hk)
  have B := LB_m B had
  have hl : lv_has ls 7 [(5, .int r), (4, .int i), (0, .ref b), (1, .ref (ad' 0)), (2, .ref (ad' 24)), (3, .ref (ad' 23))] := by rw [had 0 (by omega), had 24 (by omega), had 23 (by omega)]; exact hl
  refine lv_istore (lv' := [(6, .int r2), (5, .int r), (4, .int i), (0, .ref b), (1, .ref (ad' 0)), (2, .ref (ad' 24)), (3, .ref (ad' 23))]) hx hb dL_law_887 hl (by decide) rfl (fun ls hl => ?_)
  refine lv_goto (tgt := 2441) hx hb dL_law_889 (by decide) ?_
  refine W.widen (show C + 3 ≤ C + 1200 by omega) (show S + 12 ≤ S + 12000 by omega) ?_
  exact kk H locs ls ⟨ad', n', v', sp', dy', la', kn, re', _, _, _, _, _, _, _, hR', B, lv_sub hl [2, 3, 4, 5, 6] rfl⟩
set_option maxHeartbeats 8000000 in
theorem lc_892 {p : Program} {l : Launch} {e : Env} {s : State} {m : MethodId} {below : List Frame} {meth : Method} {c : Code} {cw : Cond} {g : GG} {A : Nat → Prop} {b L : Nat} {xs : Nat → Int32} {C S : Nat} {Q : State → Prop} {H : Heap} {locs : List Loc} {ls : Array Slot} {i : Int32} (Y : LwC p l s m meth c cw g A b L xs) (hi0 : ¬ i < 0) (hiL : i.toInt + 5 ≤ L) (hL : L ≤ 2560) (hrC : C + 1200 ≤ 757246) (hrS : S + 12000 ≤ 6824365) (hS : LwS s g A b i H locs ls)
    (kk : ∀ (H1 : Heap) (locs1 : List Loc) (ls1 : Array Slot), LwS s g A b i H1 locs1 ls1 → W p l e room_1 s m #[.ref b] below meth c H1 locs1 (C + 1200) (S + 12000) Q (F0 m 2441 ls1 [])) : W p l e room_1 s m #[.ref b] below meth c H locs C S Q (F0 m 892 ls []) := by
  obtain ⟨X, hfl, hK, hT, hnc, hXs, hbl, hbA, hA⟩ := Y
  obtain ⟨hx, hb, hml, hown, hts, hlocks⟩ := id X
  obtain ⟨ad, n, v, sp, dy, la, kn, re, cr, dr, th, rf, pl, pz, mc, hR, B, hl⟩ := hS
  obtain ⟨hla, hlb, hz, hdr⟩ := Rq_b hR
  refine lv_aload_n hx hb dL_law_892 rfl (lv_at hl 2 rfl) ?_
  refine lv_aload_n hx hb dL_law_893 rfl (lv_at hl 1 rfl) ?_
  refine lv_iload hx hb dL_law_894 (lv_at hl 0 rfl) ?_
  refine lv_iconst (v := 1) hx hb dL_law_896 (by decide) ?_
  refine lv_iadd hx hb dL_law_897 ?_
  refine va_sld hx hb hXs hbl hbA B.2.2 (ix_k hi0 hiL hL (z := 1) rfl (by decide) (by decide)) dL_law_898 ?_
  refine lv_aload_n hx hb dL_law_899 rfl (lv_at hl 1 rfl) ?_
  refine lv_iload hx hb dL_law_900 (lv_at hl 0 rfl) ?_
  refine lv_iconst (v := 2) hx hb dL_law_902 (by decide) ?_
  refine lv_iadd hx hb dL_law_903 ?_
  refine va_sld hx hb hXs hbl hbA B.2.2 (ix_k hi0 hiL hL (z := 2) rfl (by decide) (by decide)) dL_law_904 ?_
  refine lv_aload_n hx hb dL_law_905 rfl (lv_at hl 1 rfl) ?_
  refine lv_iload hx hb dL_law_906 (lv_at hl 0 rfl) ?_
  refine lv_iconst (v := 3) hx hb dL_law_908 (by decide) ?_
  refine lv_iadd hx hb dL_law_909 ?_
  refine va_sld hx hb hXs hbl hbA B.2.2 (ix_k hi0 hiL hL (z := 3) rfl (by decide) (by decide)) dL_law_910 ?_
  refine p_bool (t1 := 918) (t2 := 919) hx hb dL_law_911 (by decide) (fun Y => lv_iconst (v := 1) hx hb dL_law_914 (by decide) (lv_goto (tgt := 919) hx hb dL_law_915 (by decide) Y)) (fun Y => lv_iconst (v := 0) hx hb dL_law_918 (by decide) Y) ?_
  refine lv_aload_n hx hb dL_law_919 rfl (lv_at hl 4 rfl) ?_
  have B : WB g A s.heap (36 + pz) ad (cf g ad (LW g ad n v sp dy la kn re cr dr th kn rf pl pz mc) sp dy la kn re) H locs := LW_c ▸ B
  refine k_i (k := C + 1) (n := S + 6) hA B (u_SW (rest := []) X (c_L_minusMonths l hfl g (36 + pz) ad (LW g ad n v sp dy la kn re cr dr th kn rf pl pz mc) sp dy la kn re n v (by omega) LW_23 hla hlb (xs (i + 1).toNatClampNeg) (xs (i + 2).toNatClampNeg) (bz (xs (i + 3).toNatClampNeg)) H.size) mw_L_minusMonths md_L_minusMonths rfl lk_L_224 ⟨(Nat.le_of_ble_eq_true rfl), (Nat.le_of_ble_eq_true rfl)⟩ hA hK hT hnc B hl.1 rfl (Nat.le_of_ble_eq_true rfl) dL_law_920 ⟨by show C + _ ≤ 757246; dsimp only [rm]; omega, by show S + _ ≤ 6824365; dsimp only [rm]; omega⟩) (by dsimp only [rm]; omega) (by dsimp only [rm]; omega) (fun r ad' f' H locs hw B => ?_)
  dsimp only at hw
  obtain ⟨rfl, hw⟩ := hw
  obtain ⟨n', v', sp', dy', la', re', B, hr, hv, hR'⟩ : ∃ (n' : Int64) (v' : Option Nat) (sp' dy' : Nat → TR) (la' re' : Int32), WB g A s.heap (36 + pz) ad (LW g ad n' v' sp' dy' la' kn re' cr dr th kn rf pl pz mc) H locs ∧ r = (v_X4_minusMonths cr rf (xs (i + 1).toNatClampNeg) (xs (i + 2).toNatClampNeg) (bz (xs (i + 3).toNatClampNeg))).2.2.1 ∧ (r = 0 → n' = ((v_X4_minusMonths cr rf (xs (i + 1).toNatClampNeg) (xs (i + 2).toNatClampNeg) (bz (xs (i + 3).toNatClampNeg))).1).toInt64) ∧ Rq sp' dy' la' re' (v_X4_minusMonths cr rf (xs (i + 1).toNatClampNeg) (xs (i + 2).toNatClampNeg) (bz (xs (i + 3).toNatClampNeg))).2.1 dr (v_X4_minusMonths cr rf (xs (i + 1).toNatClampNeg) (xs (i + 2).toNatClampNeg) (bz (xs (i + 3).toNatClampNeg))).2.2.2 pl (pz) := by
    have h := rl_minusMonths (a1 := xs (i + 1).toNatClampNeg) (a2 := xs (i + 2).toNatClampNeg) (a3 := bz (xs (i + 3).toNatClampNeg)) hR
    rcases hw with ⟨hx0, rfl, rfl⟩ | ⟨E, hxE, rfl, rfl⟩
    · have h := h.1 hx0
      exact ⟨_, _, _, _, _, _, LB_c B, h.1.symm, fun _ => by rw [h.2.1], h.2.2⟩
    · have h := h.2 E hxE
      exact ⟨_, _, _, _, _, _, LB_c0 B, h.1.symm, fun q => absurd q (xcd_0 E), h.2⟩
  refine lv_istore (lv' := [(5, .int r), (4, .int i), (0, .ref b), (1, .ref (ad 0)), (2, .ref (ad 24)), (3, .ref (ad 23))]) hx hb dL_law_923 hl (by decide) rfl (fun ls hl => ?_)
  refine lv_aload_n hx hb dL_law_925 rfl (lv_at hl 4 rfl) ?_
  refine lv_aload_n hx hb dL_law_926 rfl (lv_at hl 2 rfl) ?_
  refine lv_iload hx hb dL_law_927 (lv_at hl 1 rfl) ?_
  refine lv_iconst (v := 1) hx hb dL_law_929 (by decide) ?_
  refine lv_iadd hx hb dL_law_930 ?_
  refine va_sld hx hb hXs hbl hbA B.2.2 (ix_k hi0 hiL hL (z := 1) rfl (by decide) (by decide)) dL_law_931 ?_
  refine lv_aload_n hx hb dL_law_932 rfl (lv_at hl 2 rfl) ?_
  refine lv_iload hx hb dL_law_933 (lv_at hl 1 rfl) ?_
  refine lv_iconst (v := 2) hx hb dL_law_935 (by decide) ?_
  refine lv_iadd hx hb dL_law_936 ?_
  refine va_sld hx hb hXs hbl hbA B.2.2 (ix_k hi0 hiL hL (z := 2) rfl (by decide) (by decide)) dL_law_937 ?_
  refine lv_aload_n hx hb dL_law_938 rfl (lv_at hl 2 rfl) ?_
  refine lv_iload hx hb dL_law_939 (lv_at hl 1 rfl) ?_
  refine lv_iconst (v := 3) hx hb dL_law_941 (by decide) ?_
  refine lv_iadd hx hb dL_law_942 ?_
  refine va_sld hx hb hXs hbl hbA B.2.2 (ix_k hi0 hiL hL (z := 3) rfl (by decide) (by decide)) dL_law_943 ?_
  refine p_bool (t1 := 951) (t2 := 952) hx hb dL_law_944 (by decide) (fun Y => lv_iconst (v := 1) hx hb dL_law_947 (by decide) (lv_goto (tgt := 952) hx hb dL_law_948 (by decide) Y)) (fun Y => lv_iconst (v := 0) hx hb dL_law_951 (by decide) Y) ?_
  refine k_i (k := C + 3) (n := S + 12) hA B (b_V (q := 24) (rest := []) rfl X (c_X4_minusMonths l g (36 + pz) ad (yc g ad n' v' sp' dy' la' kn re') cr dr th kn rf pl pz mc (Nat.le_refl _) (ad 24) rfl (xs (i + 1).toNatClampNeg) (xs (i + 2).toNatClampNeg) (bz (xs (i + 3).toNatClampNeg))  H.size) mw_X4_minusMonths md_X4_minusMonths rfl lk_L_226 ⟨(Nat.le_of_ble_eq_true rfl), (Nat.le_of_ble_eq_true rfl)⟩ hA hK hT B (by omega) mg_24 rfl rfl hl.1 rfl (Nat.le_of_ble_eq_true rfl) dL_law_952 ⟨by show C + 1 + _ ≤ 757246; dsimp only [rm]; omega, by show S + 6 + _ ≤ 6824365; dsimp only [rm]; omega⟩) (by dsimp only [rm]; omega) (by dsimp only [rm]; omega) (fun r2 ad' f' H locs hw B => ?_)
  dsimp only at hw
  obtain ⟨had, hr2, rfl⟩ := hw
  have had : ∀ k, k < 28 → ad' k = ad k := fun k hk => had k (by omega) (Or.inl hk)
  have B := LB_m B had
  have hl : lv_has ls 7 [(5, .int r), (4, .int i), (0, .ref b), (1, .ref (ad' 0)), (2, .ref (ad' 24)), (3, .ref (ad' 23))] := by rw [had 0 (by omega), had 24 (by omega), had 23 (by omega)]; exact hl
  refine lv_istore (lv' := [(6, .int r2), (5, .int r), (4, .int i), (0, .ref b), (1, .ref (ad' 0)), (2, .ref (ad' 24)), (3, .ref (ad' 23))]) hx hb dL_law_955 hl (by decide) rfl (fun ls hl => ?_)
  refine lv_goto (tgt := 2441) hx hb dL_law_957 (by decide) ?_
  refine W.widen (show C + 3 ≤ C + 1200 by omega) (show S + 12 ≤ S + 12000 by omega) ?_
  exact kk H locs ls ⟨ad', n', v', sp', dy', la', kn, re', _, _, _, _, _, _, _, hR', B, lv_sub hl [2, 3, 4, 5, 6] rfl⟩
set_option maxHeartbeats 8000000 in
theorem lc_960 {p : Program} {l : Launch} {e : Env} {s : State} {m : MethodId} {below : List Frame} {meth : Method} {c : Code} {cw : Cond} {g : GG} {A : Nat → Prop} {b L : Nat} {xs : Nat → Int32} {C S : Nat} {Q : State → Prop} {H : Heap} {locs : List Loc} {ls : Array Slot} {i : Int32} (Y : LwC p l s m meth c cw g A b L xs) (hi0 : ¬ i < 0) (hiL : i.toInt + 5 ≤ L) (hL : L ≤ 2560) (hrC : C + 1200 ≤ 757246) (hrS : S + 12000 ≤ 6824365) (hS : LwS s g A b i H locs ls)
    (kk : ∀ (H1 : Heap) (locs1 : List Loc) (ls1 : Array Slot), LwS s g A b i H1 locs1 ls1 → W p l e room_1 s m #[.ref b] below meth c H1 locs1 (C + 1200) (S + 12000) Q (F0 m 2441 ls1 [])) : W p l e room_1 s m #[.ref b] below meth c H locs C S Q (F0 m 960 ls []) := by
  obtain ⟨X, hfl, hK, hT, hnc, hXs, hbl, hbA, hA⟩ := Y
  obtain ⟨hx, hb, hml, hown, hts, hlocks⟩ := id X
  obtain ⟨ad, n, v, sp, dy, la, kn, re, cr, dr, th, rf, pl, pz, mc, hR, B, hl⟩ := hS
  obtain ⟨hla, hlb, hz, hdr⟩ := Rq_b hR
  refine lv_aload_n hx hb dL_law_960 rfl (lv_at hl 2 rfl) ?_
  refine lv_aload_n hx hb dL_law_961 rfl (lv_at hl 1 rfl) ?_
  refine lv_iload hx hb dL_law_962 (lv_at hl 0 rfl) ?_
  refine lv_iconst (v := 1) hx hb dL_law_964 (by decide) ?_
  refine lv_iadd hx hb dL_law_965 ?_
  refine va_sld hx hb hXs hbl hbA B.2.2 (ix_k hi0 hiL hL (z := 1) rfl (by decide) (by decide)) dL_law_966 ?_
  refine lv_aload_n hx hb dL_law_967 rfl (lv_at hl 1 rfl) ?_
  refine lv_iload hx hb dL_law_968 (lv_at hl 0 rfl) ?_
  refine lv_iconst (v := 2) hx hb dL_law_970 (by decide) ?_
  refine lv_iadd hx hb dL_law_971 ?_
  refine va_sld hx hb hXs hbl hbA B.2.2 (ix_k hi0 hiL hL (z := 2) rfl (by decide) (by decide)) dL_law_972 ?_
  refine lv_aload_n hx hb dL_law_973 rfl (lv_at hl 1 rfl) ?_
  refine lv_iload hx hb dL_law_974 (lv_at hl 0 rfl) ?_
  refine lv_iconst (v := 3) hx hb dL_law_976 (by decide) ?_
  refine lv_iadd hx hb dL_law_977 ?_
  refine va_sld hx hb hXs hbl hbA B.2.2 (ix_k hi0 hiL hL (z := 3) rfl (by decide) (by decide)) dL_law_978 ?_
  refine p_bool (t1 := 986) (t2 := 987) hx hb dL_law_979 (by decide) (fun Y => lv_iconst (v := 1) hx hb dL_law_982 (by decide) (lv_goto (tgt := 987) hx hb dL_law_983 (by decide) Y)) (fun Y => lv_iconst (v := 0) hx hb dL_law_986 (by decide) Y) ?_
  refine lv_aload_n hx hb dL_law_987 rfl (lv_at hl 4 rfl) ?_
  have B : WB g A s.heap (36 + pz) ad (cf g ad (LW g ad n v sp dy la kn re cr dr th kn rf pl pz mc) sp dy la kn re) H locs := LW_c ▸ B
  refine k_i (k := C + 1) (n := S + 6) hA B (u_SW (rest := []) X (c_L_minusDays l hfl g (36 + pz) ad (LW g ad n v sp dy la kn re cr dr th kn rf pl pz mc) sp dy la kn re n v (by omega) LW_23 hla hlb (xs (i + 1).toNatClampNeg) (xs (i + 2).toNatClampNeg) (bz (xs (i + 3).toNatClampNeg)) H.size) mw_L_minusDays md_L_minusDays rfl lk_L_227 ⟨(Nat.le_of_ble_eq_true rfl), (Nat.le_of_ble_eq_true rfl)⟩ hA hK hT hnc B hl.1 rfl (Nat.le_of_ble_eq_true rfl) dL_law_988 ⟨by show C + _ ≤ 757246; dsimp only [rm]; omega, by show S + _ ≤ 6824365; dsimp only [rm]; omega⟩) (by dsimp only [rm]; omega) (by dsimp only [rm]; omega) (fun r ad' f' H locs hw B => ?_)
  dsimp only at hw
  obtain ⟨rfl, hw⟩ := hw
  obtain ⟨n', v', sp', dy', la', re', B, hr, hv, hR'⟩ : ∃ (n' : Int64) (v' : Option Nat) (sp' dy' : Nat → TR) (la' re' : Int32), WB g A s.heap (36 + pz) ad (LW g ad n' v' sp' dy' la' kn re' cr dr th kn rf pl pz mc) H locs ∧ r = (v_X4_minusDays cr rf (xs (i + 1).toNatClampNeg) (xs (i + 2).toNatClampNeg) (bz (xs (i + 3).toNatClampNeg))).2.2.1 ∧ (r = 0 → n' = ((v_X4_minusDays cr rf (xs (i + 1).toNatClampNeg) (xs (i + 2).toNatClampNeg) (bz (xs (i + 3).toNatClampNeg))).1).toInt64) ∧ Rq sp' dy' la' re' (v_X4_minusDays cr rf (xs (i + 1).toNatClampNeg) (xs (i + 2).toNatClampNeg) (bz (xs (i + 3).toNatClampNeg))).2.1 dr (v_X4_minusDays cr rf (xs (i + 1).toNatClampNeg) (xs (i + 2).toNatClampNeg) (bz (xs (i + 3).toNatClampNeg))).2.2.2 pl (pz) := by
    have h := rl_minusDays (a1 := xs (i + 1).toNatClampNeg) (a2 := xs (i + 2).toNatClampNeg) (a3 := bz (xs (i + 3).toNatClampNeg)) hR
    rcases hw with ⟨hx0, rfl, rfl⟩ | ⟨E, hxE, rfl, rfl⟩
    · have h := h.1 hx0
      exact ⟨_, _, _, _, _, _, LB_c B, h.1.symm, fun _ => by rw [h.2.1], h.2.2⟩
    · have h := h.2 E hxE
      exact ⟨_, _, _, _, _, _, LB_c0 B, h.1.symm, fun q => absurd q (xcd_0 E), h.2⟩
  refine lv_istore (lv' := [(5, .int r), (4, .int i), (0, .ref b), (1, .ref (ad 0)), (2, .ref (ad 24)), (3, .ref (ad 23))]) hx hb dL_law_991 hl (by decide) rfl (fun ls hl => ?_)
  refine lv_aload_n hx hb dL_law_993 rfl (lv_at hl 4 rfl) ?_
  refine lv_aload_n hx hb dL_law_994 rfl (lv_at hl 2 rfl) ?_
  refine lv_iload hx hb dL_law_995 (lv_at hl 1 rfl) ?_
  refine lv_iconst (v := 1) hx hb dL_law_997 (by decide) ?_
  refine lv_iadd hx hb dL_law_998 ?_
  refine va_sld hx hb hXs hbl hbA B.2.2 (ix_k hi0 hiL hL (z := 1) rfl (by decide) (by decide)) dL_law_999 ?_
  refine lv_aload_n hx hb dL_law_1000 rfl (lv_at hl 2 rfl) ?_
  refine lv_iload hx hb dL_law_1001 (lv_at hl 1 rfl) ?_
  refine lv_iconst (v := 2) hx hb dL_law_1003 (by decide) ?_
  refine lv_iadd hx hb dL_law_1004 ?_
  refine va_sld hx hb hXs hbl hbA B.2.2 (ix_k hi0 hiL hL (z := 2) rfl (by decide) (by decide)) dL_law_1005 ?_
  refine lv_aload_n hx hb dL_law_1006 rfl (lv_at hl 2 rfl) ?_
  refine lv_iload hx hb dL_law_1007 (lv_at hl 1 rfl) ?_
  refine lv_iconst (v := 3) hx hb dL_law_1009 (by decide) ?_
  refine lv_iadd hx hb dL_law_1010 ?_
  refine va_sld hx hb hXs hbl hbA B.2.2 (ix_k hi0 hiL hL (z := 3) rfl (by decide) (by decide)) dL_law_1011 ?_
  refine p_bool (t1 := 1019) (t2 := 1020) hx hb dL_law_1012 (by decide) (fun Y => lv_iconst (v := 1) hx hb dL_law_1015 (by decide) (lv_goto (tgt := 1020) hx hb dL_law_1016 (by decide) Y)) (fun Y => lv_iconst (v := 0) hx hb dL_law_1019 (by decide) Y) ?_
  refine k_i (k := C + 3) (n := S + 12) hA B (b_V (q := 24) (rest := []) rfl X (c_X4_minusDays l g (36 + pz) ad (yc g ad n' v' sp' dy' la' kn re') cr dr th kn rf pl pz mc (Nat.le_refl _) (ad 24) rfl (xs (i + 1).toNatClampNeg) (xs (i + 2).toNatClampNeg) (bz (xs (i + 3).toNatClampNeg))  H.size) mw_X4_minusDays md_X4_minusDays rfl lk_L_229 ⟨(Nat.le_of_ble_eq_true rfl), (Nat.le_of_ble_eq_true rfl)⟩ hA hK hT B (by omega) mg_24 rfl rfl hl.1 rfl (Nat.le_of_ble_eq_true rfl) dL_law_1020 ⟨by show C + 1 + _ ≤ 757246; dsimp only [rm]; omega, by show S + 6 + _ ≤ 6824365; dsimp only [rm]; omega⟩) (by dsimp only [rm]; omega) (by dsimp only [rm]; omega) (fun r2 ad' f' H locs hw B => ?_)
  dsimp only at hw
  obtain ⟨had, hr2, rfl⟩ := hw
  have had : ∀ k, k < 28 → ad' k = ad k := fun k hk => had k (by omega) (Or.inl hk)
  have B := LB_m B had
  have hl : lv_has ls 7 [(5, .int r), (4, .int i), (0, .ref b), (1, .ref (ad' 0)), (2, .ref (ad' 24)), (3, .ref (ad' 23))] := by rw [had 0 (by omega), had 24 (by omega), had 23 (by omega)]; exact hl
  refine lv_istore (lv' := [(6, .int r2), (5, .int r), (4, .int i), (0, .ref b), (1, .ref (ad' 0)), (2, .ref (ad' 24)), (3, .ref (ad' 23))]) hx hb dL_law_1023 hl (by decide) rfl (fun ls hl => ?_)
  refine lv_goto (tgt := 2441) hx hb dL_law_1025 (by decide) ?_
  refine W.widen (show C + 3 ≤ C + 1200 by omega) (show S + 12 ≤ S + 12000 by omega) ?_
  exact kk H locs ls ⟨ad', n', v', sp', dy', la', kn, re', _, _, _, _, _, _, _, hR', B, lv_sub hl [2, 3, 4, 5, 6] rfl⟩
set_option maxHeartbeats 8000000 in
theorem lc_1028 {p : Program} {l : Launch} {e : Env} {s : State} {m : MethodId} {below : List Frame} {meth : Method} {c : Code} {cw : Cond} {g : GG} {A : Nat → Prop} {b L : Nat} {xs : Nat → Int32} {C S : Nat} {Q : State → Prop} {H : Heap} {locs : List Loc} {ls : Array Slot} {i : Int32} (Y : LwC p l s m meth c cw g A b L xs) (hi0 : ¬ i < 0) (hiL : i.toInt + 5 ≤ L) (hL : L ≤ 2560) (hrC : C + 1200 ≤ 757246) (hrS : S + 12000 ≤ 6824365) (hS : LwS s g A b i H locs ls)
    (kk : ∀ (H1 : Heap) (locs1 : List Loc) (ls1 : Array Slot), LwS s g A b i H1 locs1 ls1 → W p l e room_1 s m #[.ref b] below meth c H1 locs1 (C + 1200) (S + 12000) Q (F0 m 2441 ls1 [])) : W p l e room_1 s m #[.ref b] below meth c H locs C S Q (F0 m 1028 ls []) := by
  obtain ⟨X, hfl, hK, hT, hnc, hXs, hbl, hbA, hA⟩ := Y
  obtain ⟨hx, hb, hml, hown, hts, hlocks⟩ := id X
  obtain ⟨ad, n, v, sp, dy, la, kn, re, cr, dr, th, rf, pl, pz, mc, hR, B, hl⟩ := hS
  obtain ⟨hla, hlb, hz, hdr⟩ := Rq_b hR
  refine lv_aload_n hx hb dL_law_1028 rfl (lv_at hl 2 rfl) ?_
  refine lv_aload_n hx hb dL_law_1029 rfl (lv_at hl 1 rfl) ?_
  refine lv_iload hx hb dL_law_1030 (lv_at hl 0 rfl) ?_
  refine lv_iconst (v := 1) hx hb dL_law_1032 (by decide) ?_
  refine lv_iadd hx hb dL_law_1033 ?_
  refine va_sld hx hb hXs hbl hbA B.2.2 (ix_k hi0 hiL hL (z := 1) rfl (by decide) (by decide)) dL_law_1034 ?_
  refine lv_aload_n hx hb dL_law_1035 rfl (lv_at hl 1 rfl) ?_
  refine lv_iload hx hb dL_law_1036 (lv_at hl 0 rfl) ?_
  refine lv_iconst (v := 2) hx hb dL_law_1038 (by decide) ?_
  refine lv_iadd hx hb dL_law_1039 ?_
  refine va_sld hx hb hXs hbl hbA B.2.2 (ix_k hi0 hiL hL (z := 2) rfl (by decide) (by decide)) dL_law_1040 ?_
  refine lv_aload_n hx hb dL_law_1041 rfl (lv_at hl 4 rfl) ?_
  have B : WB g A s.heap (36 + pz) ad (cf g ad (LW g ad n v sp dy la kn re cr dr th kn rf pl pz mc) sp dy la kn re) H locs := LW_c ▸ B
  refine k_i (k := C + 2) (n := S + 12) hA B (u_SW (rest := []) X (c_L_plus l hfl g (36 + pz) ad (LW g ad n v sp dy la kn re cr dr th kn rf pl pz mc) sp dy la kn re n v (by omega) LW_23 hla hlb (xs (i + 1).toNatClampNeg) (xs (i + 2).toNatClampNeg) H.size) mw_L_plus md_L_plus rfl lk_L_230 ⟨(Nat.le_of_ble_eq_true rfl), (Nat.le_of_ble_eq_true rfl)⟩ hA hK hT hnc B hl.1 rfl (Nat.le_of_ble_eq_true rfl) dL_law_1042 ⟨by show C + _ ≤ 757246; dsimp only [rm]; omega, by show S + _ ≤ 6824365; dsimp only [rm]; omega⟩) (by dsimp only [rm]; omega) (by dsimp only [rm]; omega) (fun r ad' f' H locs hw B => ?_)
  dsimp only at hw
  obtain ⟨rfl, hw⟩ := hw
  obtain ⟨n', v', sp', dy', la', re', B, hr, hv, hR'⟩ : ∃ (n' : Int64) (v' : Option Nat) (sp' dy' : Nat → TR) (la' re' : Int32), WB g A s.heap (36 + pz) ad (LW g ad n' v' sp' dy' la' kn re' cr dr th kn rf pl pz mc) H locs ∧ r = (v_X4_plus cr rf (xs (i + 1).toNatClampNeg) (xs (i + 2).toNatClampNeg)).2.2.1 ∧ (r = 0 → n' = ((v_X4_plus cr rf (xs (i + 1).toNatClampNeg) (xs (i + 2).toNatClampNeg)).1).toInt64) ∧ Rq sp' dy' la' re' (v_X4_plus cr rf (xs (i + 1).toNatClampNeg) (xs (i + 2).toNatClampNeg)).2.1 dr (v_X4_plus cr rf (xs (i + 1).toNatClampNeg) (xs (i + 2).toNatClampNeg)).2.2.2 pl (pz) := by
    have h := rl_plus (a1 := xs (i + 1).toNatClampNeg) (a2 := xs (i + 2).toNatClampNeg) hR
    rcases hw with ⟨hx0, rfl, rfl⟩ | ⟨E, hxE, rfl, rfl⟩
    · have h := h.1 hx0
      exact ⟨_, _, _, _, _, _, LB_c B, h.1.symm, fun _ => by rw [h.2.1], h.2.2⟩
    · have h := h.2 E hxE
      exact ⟨_, _, _, _, _, _, LB_c0 B, h.1.symm, fun q => absurd q (xcd_0 E), h.2⟩
  refine lv_istore (lv' := [(5, .int r), (4, .int i), (0, .ref b), (1, .ref (ad 0)), (2, .ref (ad 24)), (3, .ref (ad 23))]) hx hb dL_law_1045 hl (by decide) rfl (fun ls hl => ?_)
  refine lv_aload_n hx hb dL_law_1047 rfl (lv_at hl 4 rfl) ?_
  refine lv_aload_n hx hb dL_law_1048 rfl (lv_at hl 2 rfl) ?_
  refine lv_iload hx hb dL_law_1049 (lv_at hl 1 rfl) ?_
  refine lv_iconst (v := 1) hx hb dL_law_1051 (by decide) ?_
  refine lv_iadd hx hb dL_law_1052 ?_
  refine va_sld hx hb hXs hbl hbA B.2.2 (ix_k hi0 hiL hL (z := 1) rfl (by decide) (by decide)) dL_law_1053 ?_
  refine lv_aload_n hx hb dL_law_1054 rfl (lv_at hl 2 rfl) ?_
  refine lv_iload hx hb dL_law_1055 (lv_at hl 1 rfl) ?_
  refine lv_iconst (v := 2) hx hb dL_law_1057 (by decide) ?_
  refine lv_iadd hx hb dL_law_1058 ?_
  refine va_sld hx hb hXs hbl hbA B.2.2 (ix_k hi0 hiL hL (z := 2) rfl (by decide) (by decide)) dL_law_1059 ?_
  refine k_i (k := C + 4) (n := S + 18) hA B (b_V (q := 24) (rest := []) rfl X (c_X4_plus l g (36 + pz) ad (yc g ad n' v' sp' dy' la' kn re') cr dr th kn rf pl pz mc (Nat.le_refl _) (ad 24) rfl (xs (i + 1).toNatClampNeg) (xs (i + 2).toNatClampNeg)  H.size) mw_X4_plus md_X4_plus rfl lk_L_232 ⟨(Nat.le_of_ble_eq_true rfl), (Nat.le_of_ble_eq_true rfl)⟩ hA hK hT B (by omega) mg_24 rfl rfl hl.1 rfl (Nat.le_of_ble_eq_true rfl) dL_law_1060 ⟨by show C + 2 + _ ≤ 757246; dsimp only [rm]; omega, by show S + 12 + _ ≤ 6824365; dsimp only [rm]; omega⟩) (by dsimp only [rm]; omega) (by dsimp only [rm]; omega) (fun r2 ad' f' H locs hw B => ?_)
  dsimp only at hw
  obtain ⟨had, hr2, rfl⟩ := hw
  have had : ∀ k, k < 28 → ad' k = ad k := fun k hk => had k (by omega) (Or.inl hk)
  have B := LB_m B had
  have hl : lv_has ls 7 [(5, .int r), (4, .int i), (0, .ref b), (1, .ref (ad' 0)), (2, .ref (ad' 24)), (3, .ref (ad' 23))] := by rw [had 0 (by omega), had 24 (by omega), had 23 (by omega)]; exact hl
  refine lv_istore (lv' := [(6, .int r2), (5, .int r), (4, .int i), (0, .ref b), (1, .ref (ad' 0)), (2, .ref (ad' 24)), (3, .ref (ad' 23))]) hx hb dL_law_1063 hl (by decide) rfl (fun ls hl => ?_)
  refine lv_goto (tgt := 2441) hx hb dL_law_1065 (by decide) ?_
  refine W.widen (show C + 4 ≤ C + 1200 by omega) (show S + 18 ≤ S + 12000 by omega) ?_
  exact kk H locs ls ⟨ad', n', v', sp', dy', la', kn, re', _, _, _, _, _, _, _, hR', B, lv_sub hl [2, 3, 4, 5, 6] rfl⟩
set_option maxHeartbeats 8000000 in
theorem lc_1068 {p : Program} {l : Launch} {e : Env} {s : State} {m : MethodId} {below : List Frame} {meth : Method} {c : Code} {cw : Cond} {g : GG} {A : Nat → Prop} {b L : Nat} {xs : Nat → Int32} {C S : Nat} {Q : State → Prop} {H : Heap} {locs : List Loc} {ls : Array Slot} {i : Int32} (Y : LwC p l s m meth c cw g A b L xs) (hi0 : ¬ i < 0) (hiL : i.toInt + 5 ≤ L) (hL : L ≤ 2560) (hrC : C + 1200 ≤ 757246) (hrS : S + 12000 ≤ 6824365) (hS : LwS s g A b i H locs ls)
    (kk : ∀ (H1 : Heap) (locs1 : List Loc) (ls1 : Array Slot), LwS s g A b i H1 locs1 ls1 → W p l e room_1 s m #[.ref b] below meth c H1 locs1 (C + 1200) (S + 12000) Q (F0 m 2441 ls1 [])) : W p l e room_1 s m #[.ref b] below meth c H locs C S Q (F0 m 1068 ls []) := by
  obtain ⟨X, hfl, hK, hT, hnc, hXs, hbl, hbA, hA⟩ := Y
  obtain ⟨hx, hb, hml, hown, hts, hlocks⟩ := id X
  obtain ⟨ad, n, v, sp, dy, la, kn, re, cr, dr, th, rf, pl, pz, mc, hR, B, hl⟩ := hS
  obtain ⟨hla, hlb, hz, hdr⟩ := Rq_b hR
  refine lv_aload_n hx hb dL_law_1068 rfl (lv_at hl 2 rfl) ?_
  refine lv_aload_n hx hb dL_law_1069 rfl (lv_at hl 1 rfl) ?_
  refine lv_iload hx hb dL_law_1070 (lv_at hl 0 rfl) ?_
  refine lv_iconst (v := 1) hx hb dL_law_1072 (by decide) ?_
  refine lv_iadd hx hb dL_law_1073 ?_
  refine va_sld hx hb hXs hbl hbA B.2.2 (ix_k hi0 hiL hL (z := 1) rfl (by decide) (by decide)) dL_law_1074 ?_
  refine lv_aload_n hx hb dL_law_1075 rfl (lv_at hl 1 rfl) ?_
  refine lv_iload hx hb dL_law_1076 (lv_at hl 0 rfl) ?_
  refine lv_iconst (v := 2) hx hb dL_law_1078 (by decide) ?_
  refine lv_iadd hx hb dL_law_1079 ?_
  refine va_sld hx hb hXs hbl hbA B.2.2 (ix_k hi0 hiL hL (z := 2) rfl (by decide) (by decide)) dL_law_1080 ?_
  refine lv_aload_n hx hb dL_law_1081 rfl (lv_at hl 4 rfl) ?_
  have B : WB g A s.heap (36 + pz) ad (cf g ad (LW g ad n v sp dy la kn re cr dr th kn rf pl pz mc) sp dy la kn re) H locs := LW_c ▸ B
  refine k_i (k := C + 2) (n := S + 12) hA B (u_SW (rest := []) X (c_L_minus l hfl g (36 + pz) ad (LW g ad n v sp dy la kn re cr dr th kn rf pl pz mc) sp dy la kn re n v (by omega) LW_23 hla hlb (xs (i + 1).toNatClampNeg) (xs (i + 2).toNatClampNeg) H.size) mw_L_minus md_L_minus rfl lk_L_233 ⟨(Nat.le_of_ble_eq_true rfl), (Nat.le_of_ble_eq_true rfl)⟩ hA hK hT hnc B hl.1 rfl (Nat.le_of_ble_eq_true rfl) dL_law_1082 ⟨by show C + _ ≤ 757246; dsimp only [rm]; omega, by show S + _ ≤ 6824365; dsimp only [rm]; omega⟩) (by dsimp only [rm]; omega) (by dsimp only [rm]; omega) (fun r ad' f' H locs hw B => ?_)
  dsimp only at hw
  obtain ⟨rfl, hw⟩ := hw
  obtain ⟨n', v', sp', dy', la', re', B, hr, hv, hR'⟩ : ∃ (n' : Int64) (v' : Option Nat) (sp' dy' : Nat → TR) (la' re' : Int32), WB g A s.heap (36 + pz) ad (LW g ad n' v' sp' dy' la' kn re' cr dr th kn rf pl pz mc) H locs ∧ r = (v_X4_minus cr rf (xs (i + 1).toNatClampNeg) (xs (i + 2).toNatClampNeg)).2.2.1 ∧ (r = 0 → n' = ((v_X4_minus cr rf (xs (i + 1).toNatClampNeg) (xs (i + 2).toNatClampNeg)).1).toInt64) ∧ Rq sp' dy' la' re' (v_X4_minus cr rf (xs (i + 1).toNatClampNeg) (xs (i + 2).toNatClampNeg)).2.1 dr (v_X4_minus cr rf (xs (i + 1).toNatClampNeg) (xs (i + 2).toNatClampNeg)).2.2.2 pl (pz) := by
    have h := rl_minus (a1 := xs (i + 1).toNatClampNeg) (a2 := xs (i + 2).toNatClampNeg) hR
    rcases hw with ⟨hx0, rfl, rfl⟩ | ⟨E, hxE, rfl, rfl⟩
    · have h := h.1 hx0
      exact ⟨_, _, _, _, _, _, LB_c B, h.1.symm, fun _ => by rw [h.2.1], h.2.2⟩
    · have h := h.2 E hxE
      exact ⟨_, _, _, _, _, _, LB_c0 B, h.1.symm, fun q => absurd q (xcd_0 E), h.2⟩
  refine lv_istore (lv' := [(5, .int r), (4, .int i), (0, .ref b), (1, .ref (ad 0)), (2, .ref (ad 24)), (3, .ref (ad 23))]) hx hb dL_law_1085 hl (by decide) rfl (fun ls hl => ?_)
  refine lv_aload_n hx hb dL_law_1087 rfl (lv_at hl 4 rfl) ?_
  refine lv_aload_n hx hb dL_law_1088 rfl (lv_at hl 2 rfl) ?_
  refine lv_iload hx hb dL_law_1089 (lv_at hl 1 rfl) ?_
  refine lv_iconst (v := 1) hx hb dL_law_1091 (by decide) ?_
  refine lv_iadd hx hb dL_law_1092 ?_
  refine va_sld hx hb hXs hbl hbA B.2.2 (ix_k hi0 hiL hL (z := 1) rfl (by decide) (by decide)) dL_law_1093 ?_
  refine lv_aload_n hx hb dL_law_1094 rfl (lv_at hl 2 rfl) ?_
  refine lv_iload hx hb dL_law_1095 (lv_at hl 1 rfl) ?_
  refine lv_iconst (v := 2) hx hb dL_law_1097 (by decide) ?_
  refine lv_iadd hx hb dL_law_1098 ?_
  refine va_sld hx hb hXs hbl hbA B.2.2 (ix_k hi0 hiL hL (z := 2) rfl (by decide) (by decide)) dL_law_1099 ?_
  refine k_i (k := C + 4) (n := S + 18) hA B (b_V (q := 24) (rest := []) rfl X (c_X4_minus l g (36 + pz) ad (yc g ad n' v' sp' dy' la' kn re') cr dr th kn rf pl pz mc (Nat.le_refl _) (ad 24) rfl (xs (i + 1).toNatClampNeg) (xs (i + 2).toNatClampNeg)  H.size) mw_X4_minus md_X4_minus rfl lk_L_235 ⟨(Nat.le_of_ble_eq_true rfl), (Nat.le_of_ble_eq_true rfl)⟩ hA hK hT B (by omega) mg_24 rfl rfl hl.1 rfl (Nat.le_of_ble_eq_true rfl) dL_law_1100 ⟨by show C + 2 + _ ≤ 757246; dsimp only [rm]; omega, by show S + 12 + _ ≤ 6824365; dsimp only [rm]; omega⟩) (by dsimp only [rm]; omega) (by dsimp only [rm]; omega) (fun r2 ad' f' H locs hw B => ?_)
  dsimp only at hw
  obtain ⟨had, hr2, rfl⟩ := hw
  have had : ∀ k, k < 28 → ad' k = ad k := fun k hk => had k (by omega) (Or.inl hk)
  have B := LB_m B had
  have hl : lv_has ls 7 [(5, .int r), (4, .int i), (0, .ref b), (1, .ref (ad' 0)), (2, .ref (ad' 24)), (3, .ref (ad' 23))] := by rw [had 0 (by omega), had 24 (by omega), had 23 (by omega)]; exact hl
  refine lv_istore (lv' := [(6, .int r2), (5, .int r), (4, .int i), (0, .ref b), (1, .ref (ad' 0)), (2, .ref (ad' 24)), (3, .ref (ad' 23))]) hx hb dL_law_1103 hl (by decide) rfl (fun ls hl => ?_)
  refine lv_goto (tgt := 2441) hx hb dL_law_1105 (by decide) ?_
  refine W.widen (show C + 4 ≤ C + 1200 by omega) (show S + 18 ≤ S + 12000 by omega) ?_
  exact kk H locs ls ⟨ad', n', v', sp', dy', la', kn, re', _, _, _, _, _, _, _, hR', B, lv_sub hl [2, 3, 4, 5, 6] rfl⟩
set_option maxHeartbeats 8000000 in
theorem lc_1108 {p : Program} {l : Launch} {e : Env} {s : State} {m : MethodId} {below : List Frame} {meth : Method} {c : Code} {cw : Cond} {g : GG} {A : Nat → Prop} {b L : Nat} {xs : Nat → Int32} {C S : Nat} {Q : State → Prop} {H : Heap} {locs : List Loc} {ls : Array Slot} {i : Int32} (Y : LwC p l s m meth c cw g A b L xs) (hi0 : ¬ i < 0) (hiL : i.toInt + 5 ≤ L) (hL : L ≤ 2560) (hrC : C + 1200 ≤ 757246) (hrS : S + 12000 ≤ 6824365) (hS : LwS s g A b i H locs ls)
    (kk : ∀ (H1 : Heap) (locs1 : List Loc) (ls1 : Array Slot), LwS s g A b i H1 locs1 ls1 → W p l e room_1 s m #[.ref b] below meth c H1 locs1 (C + 1200) (S + 12000) Q (F0 m 2441 ls1 [])) : W p l e room_1 s m #[.ref b] below meth c H locs C S Q (F0 m 1108 ls []) := by
  obtain ⟨X, hfl, hK, hT, hnc, hXs, hbl, hbA, hA⟩ := Y
  obtain ⟨hx, hb, hml, hown, hts, hlocks⟩ := id X
  obtain ⟨ad, n, v, sp, dy, la, kn, re, cr, dr, th, rf, pl, pz, mc, hR, B, hl⟩ := hS
  obtain ⟨hla, hlb, hz, hdr⟩ := Rq_b hR
  refine lv_aload_n hx hb dL_law_1108 rfl (lv_at hl 2 rfl) ?_
  refine lv_aload_n hx hb dL_law_1109 rfl (lv_at hl 1 rfl) ?_
  refine lv_iload hx hb dL_law_1110 (lv_at hl 0 rfl) ?_
  refine lv_iconst (v := 1) hx hb dL_law_1112 (by decide) ?_
  refine lv_iadd hx hb dL_law_1113 ?_
  refine va_sld hx hb hXs hbl hbA B.2.2 (ix_k hi0 hiL hL (z := 1) rfl (by decide) (by decide)) dL_law_1114 ?_
  refine lv_aload_n hx hb dL_law_1115 rfl (lv_at hl 1 rfl) ?_
  refine lv_iload hx hb dL_law_1116 (lv_at hl 0 rfl) ?_
  refine lv_iconst (v := 2) hx hb dL_law_1118 (by decide) ?_
  refine lv_iadd hx hb dL_law_1119 ?_
  refine va_sld hx hb hXs hbl hbA B.2.2 (ix_k hi0 hiL hL (z := 2) rfl (by decide) (by decide)) dL_law_1120 ?_
  refine lv_aload_n hx hb dL_law_1121 rfl (lv_at hl 4 rfl) ?_
  have B : WB g A s.heap (36 + pz) ad (cf g ad (LW g ad n v sp dy la kn re cr dr th kn rf pl pz mc) sp dy la kn re) H locs := LW_c ▸ B
  refine k_i (k := C + 1) (n := S + 6) hA B (u_SW (rest := []) X (c_L_multipliedBy l hfl g (36 + pz) ad (LW g ad n v sp dy la kn re cr dr th kn rf pl pz mc) sp dy la kn re n v (by omega) LW_23 hla hlb (xs (i + 1).toNatClampNeg) (xs (i + 2).toNatClampNeg) H.size) mw_L_multipliedBy md_L_multipliedBy rfl lk_L_236 ⟨(Nat.le_of_ble_eq_true rfl), (Nat.le_of_ble_eq_true rfl)⟩ hA hK hT hnc B hl.1 rfl (Nat.le_of_ble_eq_true rfl) dL_law_1122 ⟨by show C + _ ≤ 757246; dsimp only [rm]; omega, by show S + _ ≤ 6824365; dsimp only [rm]; omega⟩) (by dsimp only [rm]; omega) (by dsimp only [rm]; omega) (fun r ad' f' H locs hw B => ?_)
  dsimp only at hw
  obtain ⟨rfl, hw⟩ := hw
  obtain ⟨n', v', sp', dy', la', re', B, hr, hv, hR'⟩ : ∃ (n' : Int64) (v' : Option Nat) (sp' dy' : Nat → TR) (la' re' : Int32), WB g A s.heap (36 + pz) ad (LW g ad n' v' sp' dy' la' kn re' cr dr th kn rf pl pz mc) H locs ∧ r = (v_X4_multipliedBy cr rf (xs (i + 1).toNatClampNeg) (xs (i + 2).toNatClampNeg)).2.2.1 ∧ (r = 0 → n' = ((v_X4_multipliedBy cr rf (xs (i + 1).toNatClampNeg) (xs (i + 2).toNatClampNeg)).1).toInt64) ∧ Rq sp' dy' la' re' (v_X4_multipliedBy cr rf (xs (i + 1).toNatClampNeg) (xs (i + 2).toNatClampNeg)).2.1 dr (v_X4_multipliedBy cr rf (xs (i + 1).toNatClampNeg) (xs (i + 2).toNatClampNeg)).2.2.2 pl (pz) := by
    have h := rl_multipliedBy (a1 := xs (i + 1).toNatClampNeg) (a2 := xs (i + 2).toNatClampNeg) hR
    rcases hw with ⟨hx0, rfl, rfl⟩ | ⟨E, hxE, rfl, rfl⟩
    · have h := h.1 hx0
      exact ⟨_, _, _, _, _, _, LB_c B, h.1.symm, fun _ => by rw [h.2.1], h.2.2⟩
    · have h := h.2 E hxE
      exact ⟨_, _, _, _, _, _, LB_c0 B, h.1.symm, fun q => absurd q (xcd_0 E), h.2⟩
  refine lv_istore (lv' := [(5, .int r), (4, .int i), (0, .ref b), (1, .ref (ad 0)), (2, .ref (ad 24)), (3, .ref (ad 23))]) hx hb dL_law_1125 hl (by decide) rfl (fun ls hl => ?_)
  refine lv_aload_n hx hb dL_law_1127 rfl (lv_at hl 4 rfl) ?_
  refine lv_aload_n hx hb dL_law_1128 rfl (lv_at hl 2 rfl) ?_
  refine lv_iload hx hb dL_law_1129 (lv_at hl 1 rfl) ?_
  refine lv_iconst (v := 1) hx hb dL_law_1131 (by decide) ?_
  refine lv_iadd hx hb dL_law_1132 ?_
  refine va_sld hx hb hXs hbl hbA B.2.2 (ix_k hi0 hiL hL (z := 1) rfl (by decide) (by decide)) dL_law_1133 ?_
  refine lv_aload_n hx hb dL_law_1134 rfl (lv_at hl 2 rfl) ?_
  refine lv_iload hx hb dL_law_1135 (lv_at hl 1 rfl) ?_
  refine lv_iconst (v := 2) hx hb dL_law_1137 (by decide) ?_
  refine lv_iadd hx hb dL_law_1138 ?_
  refine va_sld hx hb hXs hbl hbA B.2.2 (ix_k hi0 hiL hL (z := 2) rfl (by decide) (by decide)) dL_law_1139 ?_
  refine k_i (k := C + 4) (n := S + 15) hA B (b_V (q := 24) (rest := []) rfl X (c_X4_multipliedBy l g (36 + pz) ad (yc g ad n' v' sp' dy' la' kn re') cr dr th kn rf pl pz mc (Nat.le_refl _) (ad 24) rfl (xs (i + 1).toNatClampNeg) (xs (i + 2).toNatClampNeg)  H.size) mw_X4_multipliedBy md_X4_multipliedBy rfl lk_L_238 ⟨(Nat.le_of_ble_eq_true rfl), (Nat.le_of_ble_eq_true rfl)⟩ hA hK hT B (by omega) mg_24 rfl rfl hl.1 rfl (Nat.le_of_ble_eq_true rfl) dL_law_1140 ⟨by show C + 1 + _ ≤ 757246; dsimp only [rm]; omega, by show S + 6 + _ ≤ 6824365; dsimp only [rm]; omega⟩) (by dsimp only [rm]; omega) (by dsimp only [rm]; omega) (fun r2 ad' f' H locs hw B => ?_)
  dsimp only at hw
  obtain ⟨had, hr2, rfl⟩ := hw
  have had : ∀ k, k < 28 → ad' k = ad k := fun k hk => had k (by omega) (Or.inl hk)
  have B := LB_m B had
  have hl : lv_has ls 7 [(5, .int r), (4, .int i), (0, .ref b), (1, .ref (ad' 0)), (2, .ref (ad' 24)), (3, .ref (ad' 23))] := by rw [had 0 (by omega), had 24 (by omega), had 23 (by omega)]; exact hl
  refine lv_istore (lv' := [(6, .int r2), (5, .int r), (4, .int i), (0, .ref b), (1, .ref (ad' 0)), (2, .ref (ad' 24)), (3, .ref (ad' 23))]) hx hb dL_law_1143 hl (by decide) rfl (fun ls hl => ?_)
  refine lv_goto (tgt := 2441) hx hb dL_law_1145 (by decide) ?_
  refine W.widen (show C + 4 ≤ C + 1200 by omega) (show S + 15 ≤ S + 12000 by omega) ?_
  exact kk H locs ls ⟨ad', n', v', sp', dy', la', kn, re', _, _, _, _, _, _, _, hR', B, lv_sub hl [2, 3, 4, 5, 6] rfl⟩
set_option maxHeartbeats 8000000 in
theorem lc_1148 {p : Program} {l : Launch} {e : Env} {s : State} {m : MethodId} {below : List Frame} {meth : Method} {c : Code} {cw : Cond} {g : GG} {A : Nat → Prop} {b L : Nat} {xs : Nat → Int32} {C S : Nat} {Q : State → Prop} {H : Heap} {locs : List Loc} {ls : Array Slot} {i : Int32} (Y : LwC p l s m meth c cw g A b L xs) (hi0 : ¬ i < 0) (hiL : i.toInt + 5 ≤ L) (hL : L ≤ 2560) (hrC : C + 1200 ≤ 757246) (hrS : S + 12000 ≤ 6824365) (hS : LwS s g A b i H locs ls)
    (kk : ∀ (H1 : Heap) (locs1 : List Loc) (ls1 : Array Slot), LwS s g A b i H1 locs1 ls1 → W p l e room_1 s m #[.ref b] below meth c H1 locs1 (C + 1200) (S + 12000) Q (F0 m 2441 ls1 [])) : W p l e room_1 s m #[.ref b] below meth c H locs C S Q (F0 m 1148 ls []) := by
  obtain ⟨X, hfl, hK, hT, hnc, hXs, hbl, hbA, hA⟩ := Y
  obtain ⟨hx, hb, hml, hown, hts, hlocks⟩ := id X
  obtain ⟨ad, n, v, sp, dy, la, kn, re, cr, dr, th, rf, pl, pz, mc, hR, B, hl⟩ := hS
  obtain ⟨hla, hlb, hz, hdr⟩ := Rq_b hR
  refine lv_aload_n hx hb dL_law_1148 rfl (lv_at hl 2 rfl) ?_
  refine lv_aload_n hx hb dL_law_1149 rfl (lv_at hl 1 rfl) ?_
  refine lv_iload hx hb dL_law_1150 (lv_at hl 0 rfl) ?_
  refine lv_iconst (v := 1) hx hb dL_law_1152 (by decide) ?_
  refine lv_iadd hx hb dL_law_1153 ?_
  refine va_sld hx hb hXs hbl hbA B.2.2 (ix_k hi0 hiL hL (z := 1) rfl (by decide) (by decide)) dL_law_1154 ?_
  refine lv_aload_n hx hb dL_law_1155 rfl (lv_at hl 4 rfl) ?_
  have B : WB g A s.heap (36 + pz) ad (cf g ad (LW g ad n v sp dy la kn re cr dr th kn rf pl pz mc) sp dy la kn re) H locs := LW_c ▸ B
  refine k_i (k := C + 1) (n := S + 6) hA B (u_SW (rest := []) X (c_L_negated l hfl g (36 + pz) ad (LW g ad n v sp dy la kn re cr dr th kn rf pl pz mc) sp dy la kn re n v (by omega) LW_23 hla hlb (xs (i + 1).toNatClampNeg) H.size) mw_L_negated md_L_negated rfl lk_L_239 ⟨(Nat.le_of_ble_eq_true rfl), (Nat.le_of_ble_eq_true rfl)⟩ hA hK hT hnc B hl.1 rfl (Nat.le_of_ble_eq_true rfl) dL_law_1156 ⟨by show C + _ ≤ 757246; dsimp only [rm]; omega, by show S + _ ≤ 6824365; dsimp only [rm]; omega⟩) (by dsimp only [rm]; omega) (by dsimp only [rm]; omega) (fun r ad' f' H locs hw B => ?_)
  dsimp only at hw
  obtain ⟨rfl, hw⟩ := hw
  obtain ⟨n', v', sp', dy', la', re', B, hr, hv, hR'⟩ : ∃ (n' : Int64) (v' : Option Nat) (sp' dy' : Nat → TR) (la' re' : Int32), WB g A s.heap (36 + pz) ad (LW g ad n' v' sp' dy' la' kn re' cr dr th kn rf pl pz mc) H locs ∧ r = (v_X4_negated cr rf (xs (i + 1).toNatClampNeg)).2.2.1 ∧ (r = 0 → n' = ((v_X4_negated cr rf (xs (i + 1).toNatClampNeg)).1).toInt64) ∧ Rq sp' dy' la' re' (v_X4_negated cr rf (xs (i + 1).toNatClampNeg)).2.1 dr (v_X4_negated cr rf (xs (i + 1).toNatClampNeg)).2.2.2 pl (pz) := by
    have h := rl_negated (a1 := xs (i + 1).toNatClampNeg) hR
    rcases hw with ⟨hx0, rfl, rfl⟩ | ⟨E, hxE, rfl, rfl⟩
    · have h := h.1 hx0
      exact ⟨_, _, _, _, _, _, LB_c B, h.1.symm, fun _ => by rw [h.2.1], h.2.2⟩
    · have h := h.2 E hxE
      exact ⟨_, _, _, _, _, _, LB_c0 B, h.1.symm, fun q => absurd q (xcd_0 E), h.2⟩
  refine lv_istore (lv' := [(5, .int r), (4, .int i), (0, .ref b), (1, .ref (ad 0)), (2, .ref (ad 24)), (3, .ref (ad 23))]) hx hb dL_law_1159 hl (by decide) rfl (fun ls hl => ?_)
  refine lv_aload_n hx hb dL_law_1161 rfl (lv_at hl 4 rfl) ?_
  refine lv_aload_n hx hb dL_law_1162 rfl (lv_at hl 2 rfl) ?_
  refine lv_iload hx hb dL_law_1163 (lv_at hl 1 rfl) ?_
  refine lv_iconst (v := 1) hx hb dL_law_1165 (by decide) ?_
  refine lv_iadd hx hb dL_law_1166 ?_
  refine va_sld hx hb hXs hbl hbA B.2.2 (ix_k hi0 hiL hL (z := 1) rfl (by decide) (by decide)) dL_law_1167 ?_
  refine k_i (k := C + 4) (n := S + 15) hA B (b_V (q := 24) (rest := []) rfl X (c_X4_negated l g (36 + pz) ad (yc g ad n' v' sp' dy' la' kn re') cr dr th kn rf pl pz mc (Nat.le_refl _) (ad 24) rfl (xs (i + 1).toNatClampNeg)  H.size) mw_X4_negated md_X4_negated rfl lk_L_242 ⟨(Nat.le_of_ble_eq_true rfl), (Nat.le_of_ble_eq_true rfl)⟩ hA hK hT B (by omega) mg_24 rfl rfl hl.1 rfl (Nat.le_of_ble_eq_true rfl) dL_law_1168 ⟨by show C + 1 + _ ≤ 757246; dsimp only [rm]; omega, by show S + 6 + _ ≤ 6824365; dsimp only [rm]; omega⟩) (by dsimp only [rm]; omega) (by dsimp only [rm]; omega) (fun r2 ad' f' H locs hw B => ?_)
  dsimp only at hw
  obtain ⟨had, hr2, rfl⟩ := hw
  have had : ∀ k, k < 28 → ad' k = ad k := fun k hk => had k (by omega) (Or.inl hk)
  have B := LB_m B had
  have hl : lv_has ls 7 [(5, .int r), (4, .int i), (0, .ref b), (1, .ref (ad' 0)), (2, .ref (ad' 24)), (3, .ref (ad' 23))] := by rw [had 0 (by omega), had 24 (by omega), had 23 (by omega)]; exact hl
  refine lv_istore (lv' := [(6, .int r2), (5, .int r), (4, .int i), (0, .ref b), (1, .ref (ad' 0)), (2, .ref (ad' 24)), (3, .ref (ad' 23))]) hx hb dL_law_1171 hl (by decide) rfl (fun ls hl => ?_)
  refine lv_goto (tgt := 2441) hx hb dL_law_1173 (by decide) ?_
  refine W.widen (show C + 4 ≤ C + 1200 by omega) (show S + 15 ≤ S + 12000 by omega) ?_
  exact kk H locs ls ⟨ad', n', v', sp', dy', la', kn, re', _, _, _, _, _, _, _, hR', B, lv_sub hl [2, 3, 4, 5, 6] rfl⟩
set_option maxHeartbeats 8000000 in
theorem lc_1176 {p : Program} {l : Launch} {e : Env} {s : State} {m : MethodId} {below : List Frame} {meth : Method} {c : Code} {cw : Cond} {g : GG} {A : Nat → Prop} {b L : Nat} {xs : Nat → Int32} {C S : Nat} {Q : State → Prop} {H : Heap} {locs : List Loc} {ls : Array Slot} {i : Int32} (Y : LwC p l s m meth c cw g A b L xs) (hi0 : ¬ i < 0) (hiL : i.toInt + 5 ≤ L) (hL : L ≤ 2560) (hrC : C + 1200 ≤ 757246) (hrS : S + 12000 ≤ 6824365) (hS : LwS s g A b i H locs ls)
    (kk : ∀ (H1 : Heap) (locs1 : List Loc) (ls1 : Array Slot), LwS s g A b i H1 locs1 ls1 → W p l e room_1 s m #[.ref b] below meth c H1 locs1 (C + 1200) (S + 12000) Q (F0 m 2441 ls1 [])) : W p l e room_1 s m #[.ref b] below meth c H locs C S Q (F0 m 1176 ls []) := by
  obtain ⟨X, hfl, hK, hT, hnc, hXs, hbl, hbA, hA⟩ := Y
  obtain ⟨hx, hb, hml, hown, hts, hlocks⟩ := id X
  obtain ⟨ad, n, v, sp, dy, la, kn, re, cr, dr, th, rf, pl, pz, mc, hR, B, hl⟩ := hS
  obtain ⟨hla, hlb, hz, hdr⟩ := Rq_b hR
  refine lv_aload_n hx hb dL_law_1176 rfl (lv_at hl 2 rfl) ?_
  refine lv_aload_n hx hb dL_law_1177 rfl (lv_at hl 1 rfl) ?_
  refine lv_iload hx hb dL_law_1178 (lv_at hl 0 rfl) ?_
  refine lv_iconst (v := 1) hx hb dL_law_1180 (by decide) ?_
  refine lv_iadd hx hb dL_law_1181 ?_
  refine va_sld hx hb hXs hbl hbA B.2.2 (ix_k hi0 hiL hL (z := 1) rfl (by decide) (by decide)) dL_law_1182 ?_
  refine lv_aload_n hx hb dL_law_1183 rfl (lv_at hl 4 rfl) ?_
  have B : WB g A s.heap (36 + pz) ad (cf g ad (LW g ad n v sp dy la kn re cr dr th kn rf pl pz mc) sp dy la kn re) H locs := LW_c ▸ B
  refine k_i (k := C + 1) (n := S + 6) hA B (u_SW (rest := []) X (c_L_normalized l hfl g (36 + pz) ad (LW g ad n v sp dy la kn re cr dr th kn rf pl pz mc) sp dy la kn re n v (by omega) LW_23 hla hlb (xs (i + 1).toNatClampNeg) H.size) mw_L_normalized md_L_normalized rfl lk_L_243 ⟨(Nat.le_of_ble_eq_true rfl), (Nat.le_of_ble_eq_true rfl)⟩ hA hK hT hnc B hl.1 rfl (Nat.le_of_ble_eq_true rfl) dL_law_1184 ⟨by show C + _ ≤ 757246; dsimp only [rm]; omega, by show S + _ ≤ 6824365; dsimp only [rm]; omega⟩) (by dsimp only [rm]; omega) (by dsimp only [rm]; omega) (fun r ad' f' H locs hw B => ?_)
  dsimp only at hw
  obtain ⟨rfl, hw⟩ := hw
  obtain ⟨n', v', sp', dy', la', re', B, hr, hv, hR'⟩ : ∃ (n' : Int64) (v' : Option Nat) (sp' dy' : Nat → TR) (la' re' : Int32), WB g A s.heap (36 + pz) ad (LW g ad n' v' sp' dy' la' kn re' cr dr th kn rf pl pz mc) H locs ∧ r = (v_X4_normalized cr rf (xs (i + 1).toNatClampNeg)).2.2.1 ∧ (r = 0 → n' = ((v_X4_normalized cr rf (xs (i + 1).toNatClampNeg)).1).toInt64) ∧ Rq sp' dy' la' re' (v_X4_normalized cr rf (xs (i + 1).toNatClampNeg)).2.1 dr (v_X4_normalized cr rf (xs (i + 1).toNatClampNeg)).2.2.2 pl (pz) := by
    have h := rl_normalized (a1 := xs (i + 1).toNatClampNeg) hR
    rcases hw with ⟨hx0, rfl, rfl⟩ | ⟨E, hxE, rfl, rfl⟩
    · have h := h.1 hx0
      exact ⟨_, _, _, _, _, _, LB_c B, h.1.symm, fun _ => by rw [h.2.1], h.2.2⟩
    · have h := h.2 E hxE
      exact ⟨_, _, _, _, _, _, LB_c0 B, h.1.symm, fun q => absurd q (xcd_0 E), h.2⟩
  refine lv_istore (lv' := [(5, .int r), (4, .int i), (0, .ref b), (1, .ref (ad 0)), (2, .ref (ad 24)), (3, .ref (ad 23))]) hx hb dL_law_1187 hl (by decide) rfl (fun ls hl => ?_)
  refine lv_aload_n hx hb dL_law_1189 rfl (lv_at hl 4 rfl) ?_
  refine lv_aload_n hx hb dL_law_1190 rfl (lv_at hl 2 rfl) ?_
  refine lv_iload hx hb dL_law_1191 (lv_at hl 1 rfl) ?_
  refine lv_iconst (v := 1) hx hb dL_law_1193 (by decide) ?_
  refine lv_iadd hx hb dL_law_1194 ?_
  refine va_sld hx hb hXs hbl hbA B.2.2 (ix_k hi0 hiL hL (z := 1) rfl (by decide) (by decide)) dL_law_1195 ?_
  refine k_i (k := C + 3) (n := S + 12) hA B (b_V (q := 24) (rest := []) rfl X (c_X4_normalized l g (36 + pz) ad (yc g ad n' v' sp' dy' la' kn re') cr dr th kn rf pl pz mc (Nat.le_refl _) (ad 24) rfl (xs (i + 1).toNatClampNeg)  H.size) mw_X4_normalized md_X4_normalized rfl lk_L_245 ⟨(Nat.le_of_ble_eq_true rfl), (Nat.le_of_ble_eq_true rfl)⟩ hA hK hT B (by omega) mg_24 rfl rfl hl.1 rfl (Nat.le_of_ble_eq_true rfl) dL_law_1196 ⟨by show C + 1 + _ ≤ 757246; dsimp only [rm]; omega, by show S + 6 + _ ≤ 6824365; dsimp only [rm]; omega⟩) (by dsimp only [rm]; omega) (by dsimp only [rm]; omega) (fun r2 ad' f' H locs hw B => ?_)
  dsimp only at hw
  obtain ⟨had, hr2, rfl⟩ := hw
  have had : ∀ k, k < 28 → ad' k = ad k := fun k hk => had k (by omega) (Or.inl hk)
  have B := LB_m B had
  have hl : lv_has ls 7 [(5, .int r), (4, .int i), (0, .ref b), (1, .ref (ad' 0)), (2, .ref (ad' 24)), (3, .ref (ad' 23))] := by rw [had 0 (by omega), had 24 (by omega), had 23 (by omega)]; exact hl
  refine lv_istore (lv' := [(6, .int r2), (5, .int r), (4, .int i), (0, .ref b), (1, .ref (ad' 0)), (2, .ref (ad' 24)), (3, .ref (ad' 23))]) hx hb dL_law_1199 hl (by decide) rfl (fun ls hl => ?_)
  refine lv_goto (tgt := 2441) hx hb dL_law_1201 (by decide) ?_
  refine W.widen (show C + 3 ≤ C + 1200 by omega) (show S + 12 ≤ S + 12000 by omega) ?_
  exact kk H locs ls ⟨ad', n', v', sp', dy', la', kn, re', _, _, _, _, _, _, _, hR', B, lv_sub hl [2, 3, 4, 5, 6] rfl⟩
set_option maxHeartbeats 8000000 in
theorem lc_1204 {p : Program} {l : Launch} {e : Env} {s : State} {m : MethodId} {below : List Frame} {meth : Method} {c : Code} {cw : Cond} {g : GG} {A : Nat → Prop} {b L : Nat} {xs : Nat → Int32} {C S : Nat} {Q : State → Prop} {H : Heap} {locs : List Loc} {ls : Array Slot} {i : Int32} (Y : LwC p l s m meth c cw g A b L xs) (hi0 : ¬ i < 0) (hiL : i.toInt + 5 ≤ L) (hL : L ≤ 2560) (hrC : C + 1200 ≤ 757246) (hrS : S + 12000 ≤ 6824365) (hS : LwS s g A b i H locs ls)
    (kk : ∀ (H1 : Heap) (locs1 : List Loc) (ls1 : Array Slot), LwS s g A b i H1 locs1 ls1 → W p l e room_1 s m #[.ref b] below meth c H1 locs1 (C + 1200) (S + 12000) Q (F0 m 2441 ls1 [])) : W p l e room_1 s m #[.ref b] below meth c H locs C S Q (F0 m 1204 ls []) := by
  obtain ⟨X, hfl, hK, hT, hnc, hXs, hbl, hbA, hA⟩ := Y
  obtain ⟨hx, hb, hml, hown, hts, hlocks⟩ := id X
  obtain ⟨ad, n, v, sp, dy, la, kn, re, cr, dr, th, rf, pl, pz, mc, hR, B, hl⟩ := hS
  obtain ⟨hla, hlb, hz, hdr⟩ := Rq_b hR
  refine lv_aload_n hx hb dL_law_1204 rfl (lv_at hl 2 rfl) ?_
  refine lv_aload_n hx hb dL_law_1205 rfl (lv_at hl 1 rfl) ?_
  refine lv_iload hx hb dL_law_1206 (lv_at hl 0 rfl) ?_
  refine lv_iconst (v := 1) hx hb dL_law_1208 (by decide) ?_
  refine lv_iadd hx hb dL_law_1209 ?_
  refine va_sld hx hb hXs hbl hbA B.2.2 (ix_k hi0 hiL hL (z := 1) rfl (by decide) (by decide)) dL_law_1210 ?_
  refine lv_aload_n hx hb dL_law_1211 rfl (lv_at hl 4 rfl) ?_
  have B : WB g A s.heap (36 + pz) ad (cf g ad (LW g ad n v sp dy la kn re cr dr th kn rf pl pz mc) sp dy la kn re) H locs := LW_c ▸ B
  refine k_i (k := C + 1) (n := S + 6) hA B (u_SW (rest := []) X (c_L_lay l hfl g (36 + pz) ad (LW g ad n v sp dy la kn re cr dr th kn rf pl pz mc) sp dy la kn re n v (by omega) LW_23 hla hlb (xs (i + 1).toNatClampNeg) H.size) mw_L_lay md_L_lay rfl lk_L_246 ⟨(Nat.le_of_ble_eq_true rfl), (Nat.le_of_ble_eq_true rfl)⟩ hA hK hT hnc B hl.1 rfl (Nat.le_of_ble_eq_true rfl) dL_law_1212 ⟨by show C + _ ≤ 757246; dsimp only [rm]; omega, by show S + _ ≤ 6824365; dsimp only [rm]; omega⟩) (by dsimp only [rm]; omega) (by dsimp only [rm]; omega) (fun r ad' f' H locs hw B => ?_)
  dsimp only at hw
  obtain ⟨rfl, hw⟩ := hw
  obtain ⟨n', v', sp', dy', la', re', B, hr, hv, hR'⟩ : ∃ (n' : Int64) (v' : Option Nat) (sp' dy' : Nat → TR) (la' re' : Int32), WB g A s.heap (36 + pz) ad (LW g ad n' v' sp' dy' la' kn re' cr dr th kn rf pl pz mc) H locs ∧ r = (v_X4_lay cr rf pl pz mc (xs (i + 1).toNatClampNeg)).2.1 ∧ (r = 0 → n' = ((v_X4_lay cr rf pl pz mc (xs (i + 1).toNatClampNeg)).1).toInt64) ∧ Rq sp' dy' la' re' cr dr (v_X4_lay cr rf pl pz mc (xs (i + 1).toNatClampNeg)).2.2.1 (v_X4_lay cr rf pl pz mc (xs (i + 1).toNatClampNeg)).2.2.2.1 ((v_X4_lay cr rf pl pz mc (xs (i + 1).toNatClampNeg)).2.2.2.2.1) := by
    have h := rl_lay (a1 := xs (i + 1).toNatClampNeg) (mc := mc) hR
    rcases hw with ⟨hx0, rfl, rfl⟩ | ⟨E, hxE, rfl, rfl⟩
    · have h := h.1 hx0
      exact ⟨_, _, _, _, _, _, LB_c B, h.1.symm, fun _ => by rw [h.2.1], h.2.2⟩
    · have h := h.2 E hxE
      exact ⟨_, _, _, _, _, _, LB_c0 B, h.1.symm, fun q => absurd q (xcd_0 E), h.2⟩
  refine lv_istore (lv' := [(5, .int r), (4, .int i), (0, .ref b), (1, .ref (ad 0)), (2, .ref (ad 24)), (3, .ref (ad 23))]) hx hb dL_law_1215 hl (by decide) rfl (fun ls hl => ?_)
  refine lv_aload_n hx hb dL_law_1217 rfl (lv_at hl 4 rfl) ?_
  refine lv_aload_n hx hb dL_law_1218 rfl (lv_at hl 2 rfl) ?_
  refine lv_iload hx hb dL_law_1219 (lv_at hl 1 rfl) ?_
  refine lv_iconst (v := 1) hx hb dL_law_1221 (by decide) ?_
  refine lv_iadd hx hb dL_law_1222 ?_
  refine va_sld hx hb hXs hbl hbA B.2.2 (ix_k hi0 hiL hL (z := 1) rfl (by decide) (by decide)) dL_law_1223 ?_
  refine k_i (k := C + 3) (n := S + 19) hA B (b_V (q := 24) (rest := []) rfl X (c_X4_lay l g (36 + pz) ad (yc g ad n' v' sp' dy' la' kn re') cr dr th kn rf pl pz mc (Nat.le_refl _) (ad 24) rfl (xs (i + 1).toNatClampNeg) hz rfl H.size) mw_X4_lay md_X4_lay rfl lk_L_248 ⟨(Nat.le_of_ble_eq_true rfl), (Nat.le_of_ble_eq_true rfl)⟩ hA hK hT B (by omega) mg_24 rfl rfl hl.1 rfl (Nat.le_of_ble_eq_true rfl) dL_law_1224 ⟨by show C + 1 + _ ≤ 757246; dsimp only [rm]; omega, by show S + 6 + _ ≤ 6824365; dsimp only [rm]; omega⟩) (by dsimp only [rm]; omega) (by dsimp only [rm]; omega) (fun r2 ad' f' H locs hw B => ?_)
  dsimp only at hw
  obtain ⟨had, hr2, rfl⟩ := hw
  have had : ∀ k, k < 28 → ad' k = ad k := fun k hk => had k (by omega) (Or.inl hk)
  have B := LB_m B had
  have hl : lv_has ls 7 [(5, .int r), (4, .int i), (0, .ref b), (1, .ref (ad' 0)), (2, .ref (ad' 24)), (3, .ref (ad' 23))] := by rw [had 0 (by omega), had 24 (by omega), had 23 (by omega)]; exact hl
  refine lv_istore (lv' := [(6, .int r2), (5, .int r), (4, .int i), (0, .ref b), (1, .ref (ad' 0)), (2, .ref (ad' 24)), (3, .ref (ad' 23))]) hx hb dL_law_1227 hl (by decide) rfl (fun ls hl => ?_)
  refine lv_goto (tgt := 2441) hx hb dL_law_1229 (by decide) ?_
  refine W.widen (show C + 3 ≤ C + 1200 by omega) (show S + 19 ≤ S + 12000 by omega) ?_
  exact kk H locs ls ⟨ad', n', v', sp', dy', la', kn, re', _, _, _, _, _, _, _, hR', B, lv_sub hl [2, 3, 4, 5, 6] rfl⟩
set_option maxHeartbeats 8000000 in
theorem lc_1232 {p : Program} {l : Launch} {e : Env} {s : State} {m : MethodId} {below : List Frame} {meth : Method} {c : Code} {cw : Cond} {g : GG} {A : Nat → Prop} {b L : Nat} {xs : Nat → Int32} {C S : Nat} {Q : State → Prop} {H : Heap} {locs : List Loc} {ls : Array Slot} {i : Int32} (Y : LwC p l s m meth c cw g A b L xs) (hi0 : ¬ i < 0) (hiL : i.toInt + 5 ≤ L) (hL : L ≤ 2560) (hrC : C + 1200 ≤ 757246) (hrS : S + 12000 ≤ 6824365) (hS : LwS s g A b i H locs ls)
    (kk : ∀ (H1 : Heap) (locs1 : List Loc) (ls1 : Array Slot), LwS s g A b i H1 locs1 ls1 → W p l e room_1 s m #[.ref b] below meth c H1 locs1 (C + 1200) (S + 12000) Q (F0 m 2441 ls1 [])) : W p l e room_1 s m #[.ref b] below meth c H locs C S Q (F0 m 1232 ls []) := by
  obtain ⟨X, hfl, hK, hT, hnc, hXs, hbl, hbA, hA⟩ := Y
  obtain ⟨hx, hb, hml, hown, hts, hlocks⟩ := id X
  obtain ⟨ad, n, v, sp, dy, la, kn, re, cr, dr, th, rf, pl, pz, mc, hR, B, hl⟩ := hS
  obtain ⟨hla, hlb, hz, hdr⟩ := Rq_b hR
  refine lv_aload_n hx hb dL_law_1232 rfl (lv_at hl 2 rfl) ?_
  refine lv_aload_n hx hb dL_law_1233 rfl (lv_at hl 1 rfl) ?_
  refine lv_iload hx hb dL_law_1234 (lv_at hl 0 rfl) ?_
  refine lv_iconst (v := 1) hx hb dL_law_1236 (by decide) ?_
  refine lv_iadd hx hb dL_law_1237 ?_
  refine va_sld hx hb hXs hbl hbA B.2.2 (ix_k hi0 hiL hL (z := 1) rfl (by decide) (by decide)) dL_law_1238 ?_
  refine lv_aload_n hx hb dL_law_1239 rfl (lv_at hl 4 rfl) ?_
  have B : WB g A s.heap (36 + pz) ad (cf g ad (LW g ad n v sp dy la kn re cr dr th kn rf pl pz mc) sp dy la kn re) H locs := LW_c ▸ B
  refine k_i (k := C + 1) (n := S + 6) hA B (u_SW (rest := []) X (c_L_take l hfl g (36 + pz) ad (LW g ad n v sp dy la kn re cr dr th kn rf pl pz mc) sp dy la kn re n v (by omega) LW_23 hla hlb (xs (i + 1).toNatClampNeg) H.size) mw_L_take md_L_take rfl lk_L_249 ⟨(Nat.le_of_ble_eq_true rfl), (Nat.le_of_ble_eq_true rfl)⟩ hA hK hT hnc B hl.1 rfl (Nat.le_of_ble_eq_true rfl) dL_law_1240 ⟨by show C + _ ≤ 757246; dsimp only [rm]; omega, by show S + _ ≤ 6824365; dsimp only [rm]; omega⟩) (by dsimp only [rm]; omega) (by dsimp only [rm]; omega) (fun r ad' f' H locs hw B => ?_)
  dsimp only at hw
  obtain ⟨rfl, hw⟩ := hw
  obtain ⟨n', v', sp', dy', la', re', B, hr, hv, hR'⟩ : ∃ (n' : Int64) (v' : Option Nat) (sp' dy' : Nat → TR) (la' re' : Int32), WB g A s.heap (36 + pz) ad (LW g ad n' v' sp' dy' la' kn re' cr dr th kn rf pl pz mc) H locs ∧ r = (v_X4_take cr rf pl pz mc (xs (i + 1).toNatClampNeg)).2.2.1 ∧ (r = 0 → n' = ((v_X4_take cr rf pl pz mc (xs (i + 1).toNatClampNeg)).1).toInt64) ∧ Rq sp' dy' la' re' (v_X4_take cr rf pl pz mc (xs (i + 1).toNatClampNeg)).2.1 dr (v_X4_take cr rf pl pz mc (xs (i + 1).toNatClampNeg)).2.2.2.1 pl ((v_X4_take cr rf pl pz mc (xs (i + 1).toNatClampNeg)).2.2.2.2.1) := by
    have h := rl_take (a1 := xs (i + 1).toNatClampNeg) (mc := mc) hR
    rcases hw with ⟨hx0, rfl, rfl⟩ | ⟨E, hxE, rfl, rfl⟩
    · have h := h.1 hx0
      exact ⟨_, _, _, _, _, _, LB_c B, h.1.symm, fun _ => by rw [h.2.1], h.2.2⟩
    · have h := h.2 E hxE
      exact ⟨_, _, _, _, _, _, LB_c0 B, h.1.symm, fun q => absurd q (xcd_0 E), h.2⟩
  refine lv_istore (lv' := [(5, .int r), (4, .int i), (0, .ref b), (1, .ref (ad 0)), (2, .ref (ad 24)), (3, .ref (ad 23))]) hx hb dL_law_1243 hl (by decide) rfl (fun ls hl => ?_)
  refine lv_aload_n hx hb dL_law_1245 rfl (lv_at hl 4 rfl) ?_
  refine lv_aload_n hx hb dL_law_1246 rfl (lv_at hl 2 rfl) ?_
  refine lv_iload hx hb dL_law_1247 (lv_at hl 1 rfl) ?_
  refine lv_iconst (v := 1) hx hb dL_law_1249 (by decide) ?_
  refine lv_iadd hx hb dL_law_1250 ?_
  refine va_sld hx hb hXs hbl hbA B.2.2 (ix_k hi0 hiL hL (z := 1) rfl (by decide) (by decide)) dL_law_1251 ?_
  refine k_i (k := C + 2) (n := S + 9) hA B (b_V (q := 24) (rest := []) rfl X (c_X4_take l g (36 + pz) ad (yc g ad n' v' sp' dy' la' kn re') cr dr th kn rf pl pz mc (Nat.le_refl _) (ad 24) rfl (xs (i + 1).toNatClampNeg) hz rfl H.size) mw_X4_take md_X4_take rfl lk_L_251 ⟨(Nat.le_of_ble_eq_true rfl), (Nat.le_of_ble_eq_true rfl)⟩ hA hK hT B (by omega) mg_24 rfl rfl hl.1 rfl (Nat.le_of_ble_eq_true rfl) dL_law_1252 ⟨by show C + 1 + _ ≤ 757246; dsimp only [rm]; omega, by show S + 6 + _ ≤ 6824365; dsimp only [rm]; omega⟩) (by dsimp only [rm]; omega) (by dsimp only [rm]; omega) (fun r2 ad' f' H locs hw B => ?_)
  dsimp only at hw
  obtain ⟨had, hr2, rfl⟩ := hw
  have had : ∀ k, k < 28 → ad' k = ad k := fun k hk => had k (by omega) (Or.inl hk)
  have B := LB_m B had
  have hl : lv_has ls 7 [(5, .int r), (4, .int i), (0, .ref b), (1, .ref (ad' 0)), (2, .ref (ad' 24)), (3, .ref (ad' 23))] := by rw [had 0 (by omega), had 24 (by omega), had 23 (by omega)]; exact hl
  refine lv_istore (lv' := [(6, .int r2), (5, .int r), (4, .int i), (0, .ref b), (1, .ref (ad' 0)), (2, .ref (ad' 24)), (3, .ref (ad' 23))]) hx hb dL_law_1255 hl (by decide) rfl (fun ls hl => ?_)
  refine lv_goto (tgt := 2441) hx hb dL_law_1257 (by decide) ?_
  refine W.widen (show C + 2 ≤ C + 1200 by omega) (show S + 9 ≤ S + 12000 by omega) ?_
  exact kk H locs ls ⟨ad', n', v', sp', dy', la', kn, re', _, _, _, _, _, _, _, hR', B, lv_sub hl [2, 3, 4, 5, 6] rfl⟩
set_option maxHeartbeats 8000000 in
theorem lc_1260 {p : Program} {l : Launch} {e : Env} {s : State} {m : MethodId} {below : List Frame} {meth : Method} {c : Code} {cw : Cond} {g : GG} {A : Nat → Prop} {b L : Nat} {xs : Nat → Int32} {C S : Nat} {Q : State → Prop} {H : Heap} {locs : List Loc} {ls : Array Slot} {i : Int32} (Y : LwC p l s m meth c cw g A b L xs) (hi0 : ¬ i < 0) (hiL : i.toInt + 5 ≤ L) (hL : L ≤ 2560) (hrC : C + 1200 ≤ 757246) (hrS : S + 12000 ≤ 6824365) (hS : LwS s g A b i H locs ls)
    (kk : ∀ (H1 : Heap) (locs1 : List Loc) (ls1 : Array Slot), LwS s g A b i H1 locs1 ls1 → W p l e room_1 s m #[.ref b] below meth c H1 locs1 (C + 1200) (S + 12000) Q (F0 m 2441 ls1 [])) : W p l e room_1 s m #[.ref b] below meth c H locs C S Q (F0 m 1260 ls []) := by
  obtain ⟨X, hfl, hK, hT, hnc, hXs, hbl, hbA, hA⟩ := Y
  obtain ⟨hx, hb, hml, hown, hts, hlocks⟩ := id X
  obtain ⟨ad, n, v, sp, dy, la, kn, re, cr, dr, th, rf, pl, pz, mc, hR, B, hl⟩ := hS
  obtain ⟨hla, hlb, hz, hdr⟩ := Rq_b hR
  refine lv_aload_n hx hb dL_law_1260 rfl (lv_at hl 2 rfl) ?_
  refine lv_aload_n hx hb dL_law_1261 rfl (lv_at hl 1 rfl) ?_
  refine lv_iload hx hb dL_law_1262 (lv_at hl 0 rfl) ?_
  refine lv_iconst (v := 1) hx hb dL_law_1264 (by decide) ?_
  refine lv_iadd hx hb dL_law_1265 ?_
  refine va_sld hx hb hXs hbl hbA B.2.2 (ix_k hi0 hiL hL (z := 1) rfl (by decide) (by decide)) dL_law_1266 ?_
  refine lv_aload_n hx hb dL_law_1267 rfl (lv_at hl 4 rfl) ?_
  have B : WB g A s.heap (36 + pz) ad (cf g ad (LW g ad n v sp dy la kn re cr dr th kn rf pl pz mc) sp dy la kn re) H locs := LW_c ▸ B
  refine k_i (k := C + 1) (n := S + 6) hA B (u_SW (rest := []) X (c_L_sum l hfl g (36 + pz) ad (LW g ad n v sp dy la kn re cr dr th kn rf pl pz mc) sp dy la kn re n v (by omega) LW_23 hla hlb (xs (i + 1).toNatClampNeg) H.size) mw_L_sum md_L_sum rfl lk_L_252 ⟨(Nat.le_of_ble_eq_true rfl), (Nat.le_of_ble_eq_true rfl)⟩ hA hK hT hnc B hl.1 rfl (Nat.le_of_ble_eq_true rfl) dL_law_1268 ⟨by show C + _ ≤ 757246; dsimp only [rm]; omega, by show S + _ ≤ 6824365; dsimp only [rm]; omega⟩) (by dsimp only [rm]; omega) (by dsimp only [rm]; omega) (fun r ad' f' H locs hw B => ?_)
  dsimp only at hw
  obtain ⟨rfl, hw⟩ := hw
  obtain ⟨n', v', sp', dy', la', re', B, hr, hv, hR'⟩ : ∃ (n' : Int64) (v' : Option Nat) (sp' dy' : Nat → TR) (la' re' : Int32), WB g A s.heap (36 + pz) ad (LW g ad n' v' sp' dy' la' kn re' cr dr th kn rf pl pz mc) H locs ∧ r = (v_X4_sum_ cr rf pl pz (xs (i + 1).toNatClampNeg)).2.2.1 ∧ (r = 0 → n' = ((v_X4_sum_ cr rf pl pz (xs (i + 1).toNatClampNeg)).1).toInt64) ∧ Rq sp' dy' la' re' (v_X4_sum_ cr rf pl pz (xs (i + 1).toNatClampNeg)).2.1 dr (v_X4_sum_ cr rf pl pz (xs (i + 1).toNatClampNeg)).2.2.2 pl (pz) := by
    have h := rl_sum (a1 := xs (i + 1).toNatClampNeg) hR
    rcases hw with ⟨hx0, rfl, rfl⟩ | ⟨E, hxE, rfl, rfl⟩
    · have h := h.1 hx0
      exact ⟨_, _, _, _, _, _, LB_c B, h.1.symm, fun _ => by rw [h.2.1], h.2.2⟩
    · have h := h.2 E hxE
      exact ⟨_, _, _, _, _, _, LB_c0 B, h.1.symm, fun q => absurd q (xcd_0 E), h.2⟩
  refine lv_istore (lv' := [(5, .int r), (4, .int i), (0, .ref b), (1, .ref (ad 0)), (2, .ref (ad 24)), (3, .ref (ad 23))]) hx hb dL_law_1271 hl (by decide) rfl (fun ls hl => ?_)
  refine lv_aload_n hx hb dL_law_1273 rfl (lv_at hl 4 rfl) ?_
  refine lv_aload_n hx hb dL_law_1274 rfl (lv_at hl 2 rfl) ?_
  refine lv_iload hx hb dL_law_1275 (lv_at hl 1 rfl) ?_
  refine lv_iconst (v := 1) hx hb dL_law_1277 (by decide) ?_
  refine lv_iadd hx hb dL_law_1278 ?_
  refine va_sld hx hb hXs hbl hbA B.2.2 (ix_k hi0 hiL hL (z := 1) rfl (by decide) (by decide)) dL_law_1279 ?_
  refine k_i (k := C + 12) (n := S + 39) hA B (b_V (q := 24) (rest := []) rfl X (c_X4_sum_ l g (36 + pz) ad (yc g ad n' v' sp' dy' la' kn re') cr dr th kn rf pl pz mc (Nat.le_refl _) (ad 24) rfl (xs (i + 1).toNatClampNeg) hz H.size) mw_X4_sum_ md_X4_sum_ rfl lk_L_254 ⟨(Nat.le_of_ble_eq_true rfl), (Nat.le_of_ble_eq_true rfl)⟩ hA hK hT B (by omega) mg_24 rfl rfl hl.1 rfl (Nat.le_of_ble_eq_true rfl) dL_law_1280 ⟨by show C + 1 + _ ≤ 757246; dsimp only [rm]; omega, by show S + 6 + _ ≤ 6824365; dsimp only [rm]; omega⟩) (by dsimp only [rm]; omega) (by dsimp only [rm]; omega) (fun r2 ad' f' H locs hw B => ?_)
  dsimp only at hw
  obtain ⟨had, hr2, rfl⟩ := hw
  have had : ∀ k, k < 28 → ad' k = ad k := fun k hk => had k (by omega) (Or.inl hk)
  have B := LB_m B had
  have hl : lv_has ls 7 [(5, .int r), (4, .int i), (0, .ref b), (1, .ref (ad' 0)), (2, .ref (ad' 24)), (3, .ref (ad' 23))] := by rw [had 0 (by omega), had 24 (by omega), had 23 (by omega)]; exact hl
  refine lv_istore (lv' := [(6, .int r2), (5, .int r), (4, .int i), (0, .ref b), (1, .ref (ad' 0)), (2, .ref (ad' 24)), (3, .ref (ad' 23))]) hx hb dL_law_1283 hl (by decide) rfl (fun ls hl => ?_)
  refine lv_goto (tgt := 2441) hx hb dL_law_1285 (by decide) ?_
  refine W.widen (show C + 12 ≤ C + 1200 by omega) (show S + 39 ≤ S + 12000 by omega) ?_
  exact kk H locs ls ⟨ad', n', v', sp', dy', la', kn, re', _, _, _, _, _, _, _, hR', B, lv_sub hl [2, 3, 4, 5, 6] rfl⟩
set_option maxHeartbeats 8000000 in
theorem lc_1288 {p : Program} {l : Launch} {e : Env} {s : State} {m : MethodId} {below : List Frame} {meth : Method} {c : Code} {cw : Cond} {g : GG} {A : Nat → Prop} {b L : Nat} {xs : Nat → Int32} {C S : Nat} {Q : State → Prop} {H : Heap} {locs : List Loc} {ls : Array Slot} {i : Int32} (Y : LwC p l s m meth c cw g A b L xs) (hi0 : ¬ i < 0) (hiL : i.toInt + 5 ≤ L) (hL : L ≤ 2560) (hrC : C + 1200 ≤ 757246) (hrS : S + 12000 ≤ 6824365) (hS : LwS s g A b i H locs ls)
    (kk : ∀ (H1 : Heap) (locs1 : List Loc) (ls1 : Array Slot), LwS s g A b i H1 locs1 ls1 → W p l e room_1 s m #[.ref b] below meth c H1 locs1 (C + 1200) (S + 12000) Q (F0 m 2441 ls1 [])) : W p l e room_1 s m #[.ref b] below meth c H locs C S Q (F0 m 1288 ls []) := by
  obtain ⟨X, hfl, hK, hT, hnc, hXs, hbl, hbA, hA⟩ := Y
  obtain ⟨hx, hb, hml, hown, hts, hlocks⟩ := id X
  obtain ⟨ad, n, v, sp, dy, la, kn, re, cr, dr, th, rf, pl, pz, mc, hR, B, hl⟩ := hS
  obtain ⟨hla, hlb, hz, hdr⟩ := Rq_b hR
  refine lv_aload_n hx hb dL_law_1288 rfl (lv_at hl 2 rfl) ?_
  refine lv_aload_n hx hb dL_law_1289 rfl (lv_at hl 1 rfl) ?_
  refine lv_iload hx hb dL_law_1290 (lv_at hl 0 rfl) ?_
  refine lv_iconst (v := 1) hx hb dL_law_1292 (by decide) ?_
  refine lv_iadd hx hb dL_law_1293 ?_
  refine va_sld hx hb hXs hbl hbA B.2.2 (ix_k hi0 hiL hL (z := 1) rfl (by decide) (by decide)) dL_law_1294 ?_
  have B : WB g A s.heap (36 + pz) ad (cf g ad (LW g ad n v sp dy la kn re cr dr th kn rf pl pz mc) sp dy la kn re) H locs := LW_c ▸ B
  refine k_r (k := C + 6) (n := S + 166) hA B (u_V (q := 0) (rest := []) X (c_X2_piled l g (36 + pz) ad (LW g ad n v sp dy la kn re cr dr th kn rf pl pz mc) sp dy la kn re (by omega) hla hlb (xs (i + 1).toNatClampNeg) H.size) mw_X2_piled md_X2_piled rfl lk_L_255 ⟨(Nat.le_of_ble_eq_true rfl), (Nat.le_of_ble_eq_true rfl)⟩ hA hK hT B (by omega) cf_0 rfl rfl hl.1 rfl (Nat.le_of_ble_eq_true rfl) dL_law_1295 ⟨by show C + _ ≤ 757246; dsimp only [rm]; omega, by show S + _ ≤ 6824365; dsimp only [rm]; omega⟩) (by dsimp only [rm]; omega) (by dsimp only [rm]; omega) (fun r ad' f' H locs hw B => ?_)
  dsimp only at hw
  obtain ⟨rfl, ⟨a8, rfl⟩, rfl⟩ := hw
  have B := LB_c0 B
  refine lv_pop hx hb dL_law_1298 rfl ?_
  refine lv_aload_n hx hb dL_law_1299 rfl (lv_at hl 3 rfl) ?_
  refine lv_aload_n hx hb dL_law_1300 rfl (lv_at hl 1 rfl) ?_
  refine lv_iload hx hb dL_law_1301 (lv_at hl 0 rfl) ?_
  refine lv_iconst (v := 1) hx hb dL_law_1303 (by decide) ?_
  refine lv_iadd hx hb dL_law_1304 ?_
  refine va_sld hx hb hXs hbl hbA B.2.2 (ix_k hi0 hiL hL (z := 1) rfl (by decide) (by decide)) dL_law_1305 ?_
  refine k_r (k := C + 12) (n := S + 332) hA B (b_V (q := 24) (rest := []) rfl X (c_X4_piled l g (36 + pz) ad (yc g ad n v sp dy la kn re) cr dr th kn rf pl pz mc (Nat.le_refl _) (ad 24) rfl (xs (i + 1).toNatClampNeg) hz H.size) mw_X4_piled md_X4_piled rfl lk_L_258 ⟨(Nat.le_of_ble_eq_true rfl), (Nat.le_of_ble_eq_true rfl)⟩ hA hK hT B (by omega) mg_24 rfl rfl hl.1 rfl (Nat.le_of_ble_eq_true rfl) dL_law_1306 ⟨by show C + 6 + _ ≤ 757246; dsimp only [rm]; omega, by show S + 166 + _ ≤ 6824365; dsimp only [rm]; omega⟩) (by dsimp only [rm]; omega) (by dsimp only [rm]; omega) (fun r2 ad' f' H locs hw B => ?_)
  dsimp only at hw
  obtain ⟨rfl, ⟨a9, rfl⟩, rfl⟩ := hw
  have B := LB_m B (fun _ _ => rfl)
  refine lv_pop hx hb dL_law_1309 rfl ?_
  refine lv_goto (tgt := 2441) hx hb dL_law_1310 (by decide) ?_
  refine W.widen (show C + 12 ≤ C + 1200 by omega) (show S + 332 ≤ S + 12000 by omega) ?_
  exact kk H locs ls ⟨ad, n, v, sp, dy, la, kn, re, cr, dr, _, rf, pl, pz, mc, hR, B, hl⟩
set_option maxHeartbeats 8000000 in
theorem lc_1313 {p : Program} {l : Launch} {e : Env} {s : State} {m : MethodId} {below : List Frame} {meth : Method} {c : Code} {cw : Cond} {g : GG} {A : Nat → Prop} {b L : Nat} {xs : Nat → Int32} {C S : Nat} {Q : State → Prop} {H : Heap} {locs : List Loc} {ls : Array Slot} {i : Int32} (Y : LwC p l s m meth c cw g A b L xs) (hi0 : ¬ i < 0) (hiL : i.toInt + 5 ≤ L) (hL : L ≤ 2560) (hrC : C + 1200 ≤ 757246) (hrS : S + 12000 ≤ 6824365) (hS : LwS s g A b i H locs ls)
    (kk : ∀ (H1 : Heap) (locs1 : List Loc) (ls1 : Array Slot), LwS s g A b i H1 locs1 ls1 → W p l e room_1 s m #[.ref b] below meth c H1 locs1 (C + 1200) (S + 12000) Q (F0 m 2441 ls1 [])) : W p l e room_1 s m #[.ref b] below meth c H locs C S Q (F0 m 1313 ls []) := by
  obtain ⟨X, hfl, hK, hT, hnc, hXs, hbl, hbA, hA⟩ := Y
  obtain ⟨hx, hb, hml, hown, hts, hlocks⟩ := id X
  obtain ⟨ad, n, v, sp, dy, la, kn, re, cr, dr, th, rf, pl, pz, mc, hR, B, hl⟩ := hS
  obtain ⟨hla, hlb, hz, hdr⟩ := Rq_b hR
  refine lv_aload_n hx hb dL_law_1313 rfl (lv_at hl 2 rfl) ?_
  refine lv_aload_n hx hb dL_law_1314 rfl (lv_at hl 1 rfl) ?_
  refine lv_iload hx hb dL_law_1315 (lv_at hl 0 rfl) ?_
  refine lv_iconst (v := 1) hx hb dL_law_1317 (by decide) ?_
  refine lv_iadd hx hb dL_law_1318 ?_
  refine va_sld hx hb hXs hbl hbA B.2.2 (ix_k hi0 hiL hL (z := 1) rfl (by decide) (by decide)) dL_law_1319 ?_
  refine lv_aload_n hx hb dL_law_1320 rfl (lv_at hl 1 rfl) ?_
  refine lv_iload hx hb dL_law_1321 (lv_at hl 0 rfl) ?_
  refine lv_iconst (v := 2) hx hb dL_law_1323 (by decide) ?_
  refine lv_iadd hx hb dL_law_1324 ?_
  refine va_sld hx hb hXs hbl hbA B.2.2 (ix_k hi0 hiL hL (z := 2) rfl (by decide) (by decide)) dL_law_1325 ?_
  refine lv_aload_n hx hb dL_law_1326 rfl (lv_at hl 4 rfl) ?_
  have B : WB g A s.heap (36 + pz) ad (cf g ad (LW g ad n v sp dy la kn re cr dr th kn rf pl pz mc) sp dy la kn re) H locs := LW_c ▸ B
  refine k_i (k := C + 2) (n := S + 12) hA B (u_SW (rest := []) X (c_L_part l hfl g (36 + pz) ad (LW g ad n v sp dy la kn re cr dr th kn rf pl pz mc) sp dy la kn re n v (by omega) LW_23 hla hlb (xs (i + 1).toNatClampNeg) (xs (i + 2).toNatClampNeg) H.size) mw_L_part md_L_part rfl lk_L_259 ⟨(Nat.le_of_ble_eq_true rfl), (Nat.le_of_ble_eq_true rfl)⟩ hA hK hT hnc B hl.1 rfl (Nat.le_of_ble_eq_true rfl) dL_law_1327 ⟨by show C + _ ≤ 757246; dsimp only [rm]; omega, by show S + _ ≤ 6824365; dsimp only [rm]; omega⟩) (by dsimp only [rm]; omega) (by dsimp only [rm]; omega) (fun r ad' f' H locs hw B => ?_)
  dsimp only at hw
  obtain ⟨rfl, hw⟩ := hw
  obtain ⟨n', v', sp', dy', la', re', B, hr, hv, hR'⟩ : ∃ (n' : Int64) (v' : Option Nat) (sp' dy' : Nat → TR) (la' re' : Int32), WB g A s.heap (36 + pz) ad (LW g ad n' v' sp' dy' la' kn re' cr dr th kn rf pl pz mc) H locs ∧ r = (v_X4_part cr (xs (i + 1).toNatClampNeg) (xs (i + 2).toNatClampNeg)).2 ∧ (r = 0 → n' = ((v_X4_part cr (xs (i + 1).toNatClampNeg) (xs (i + 2).toNatClampNeg)).1).toInt64) ∧ Rq sp' dy' la' re' cr dr rf pl (pz) := by
    have h := rl_part (a1 := xs (i + 1).toNatClampNeg) (a2 := xs (i + 2).toNatClampNeg) hR
    rcases hw with ⟨hx0, rfl, rfl⟩ | ⟨E, hxE, rfl, rfl⟩
    · have h := h.1 hx0
      exact ⟨_, _, _, _, _, _, LB_c B, h.1.symm, fun _ => by rw [h.2.1], hR⟩
    · have h := h.2 E hxE
      exact ⟨_, _, _, _, _, _, LB_c0 B, h.1.symm, fun q => absurd q (xcd_0 E), hR⟩
  refine lv_istore (lv' := [(5, .int r), (4, .int i), (0, .ref b), (1, .ref (ad 0)), (2, .ref (ad 24)), (3, .ref (ad 23))]) hx hb dL_law_1330 hl (by decide) rfl (fun ls hl => ?_)
  refine lv_aload_n hx hb dL_law_1332 rfl (lv_at hl 4 rfl) ?_
  refine lv_aload_n hx hb dL_law_1333 rfl (lv_at hl 2 rfl) ?_
  refine lv_iload hx hb dL_law_1334 (lv_at hl 1 rfl) ?_
  refine lv_iconst (v := 1) hx hb dL_law_1336 (by decide) ?_
  refine lv_iadd hx hb dL_law_1337 ?_
  refine va_sld hx hb hXs hbl hbA B.2.2 (ix_k hi0 hiL hL (z := 1) rfl (by decide) (by decide)) dL_law_1338 ?_
  refine lv_aload_n hx hb dL_law_1339 rfl (lv_at hl 2 rfl) ?_
  refine lv_iload hx hb dL_law_1340 (lv_at hl 1 rfl) ?_
  refine lv_iconst (v := 2) hx hb dL_law_1342 (by decide) ?_
  refine lv_iadd hx hb dL_law_1343 ?_
  refine va_sld hx hb hXs hbl hbA B.2.2 (ix_k hi0 hiL hL (z := 2) rfl (by decide) (by decide)) dL_law_1344 ?_
  refine k_i (k := C + 2) (n := S + 12) hA B (b_V (q := 24) (rest := []) rfl X (c_X4_part l g (36 + pz) ad (yc g ad n' v' sp' dy' la' kn re') cr dr th kn rf pl pz mc (Nat.le_refl _) (ad 24) rfl (xs (i + 1).toNatClampNeg) (xs (i + 2).toNatClampNeg)  H.size) mw_X4_part md_X4_part rfl lk_L_261 ⟨(Nat.le_of_ble_eq_true rfl), (Nat.le_of_ble_eq_true rfl)⟩ hA hK hT B (by omega) mg_24 rfl rfl hl.1 rfl (Nat.le_of_ble_eq_true rfl) dL_law_1345 ⟨by show C + 2 + _ ≤ 757246; dsimp only [rm]; omega, by show S + 12 + _ ≤ 6824365; dsimp only [rm]; omega⟩) (by dsimp only [rm]; omega) (by dsimp only [rm]; omega) (fun r2 ad' f' H locs hw B => ?_)
  dsimp only at hw
  obtain ⟨rfl, hr2, rfl⟩ := hw
  have B := LB_m B (fun _ _ => rfl)
  refine lv_istore (lv' := [(6, .int r2), (5, .int r), (4, .int i), (0, .ref b), (1, .ref (ad 0)), (2, .ref (ad 24)), (3, .ref (ad 23))]) hx hb dL_law_1348 hl (by decide) rfl (fun ls hl => ?_)
  refine lv_goto (tgt := 2441) hx hb dL_law_1350 (by decide) ?_
  refine W.widen (show C + 2 ≤ C + 1200 by omega) (show S + 12 ≤ S + 12000 by omega) ?_
  exact kk H locs ls ⟨ad, n', v', sp', dy', la', kn, re', _, _, _, _, _, _, _, hR', B, lv_sub hl [2, 3, 4, 5, 6] rfl⟩
set_option maxHeartbeats 8000000 in
theorem lc_1353 {p : Program} {l : Launch} {e : Env} {s : State} {m : MethodId} {below : List Frame} {meth : Method} {c : Code} {cw : Cond} {g : GG} {A : Nat → Prop} {b L : Nat} {xs : Nat → Int32} {C S : Nat} {Q : State → Prop} {H : Heap} {locs : List Loc} {ls : Array Slot} {i : Int32} (Y : LwC p l s m meth c cw g A b L xs) (hi0 : ¬ i < 0) (hiL : i.toInt + 5 ≤ L) (hL : L ≤ 2560) (hrC : C + 1200 ≤ 757246) (hrS : S + 12000 ≤ 6824365) (hS : LwS s g A b i H locs ls)
    (kk : ∀ (H1 : Heap) (locs1 : List Loc) (ls1 : Array Slot), LwS s g A b i H1 locs1 ls1 → W p l e room_1 s m #[.ref b] below meth c H1 locs1 (C + 1200) (S + 12000) Q (F0 m 2441 ls1 [])) : W p l e room_1 s m #[.ref b] below meth c H locs C S Q (F0 m 1353 ls []) := by
  obtain ⟨X, hfl, hK, hT, hnc, hXs, hbl, hbA, hA⟩ := Y
  obtain ⟨hx, hb, hml, hown, hts, hlocks⟩ := id X
  obtain ⟨ad, n, v, sp, dy, la, kn, re, cr, dr, th, rf, pl, pz, mc, hR, B, hl⟩ := hS
  obtain ⟨hla, hlb, hz, hdr⟩ := Rq_b hR
  refine lv_aload_n hx hb dL_law_1353 rfl (lv_at hl 2 rfl) ?_
  refine lv_aload_n hx hb dL_law_1354 rfl (lv_at hl 1 rfl) ?_
  refine lv_iload hx hb dL_law_1355 (lv_at hl 0 rfl) ?_
  refine lv_iconst (v := 1) hx hb dL_law_1357 (by decide) ?_
  refine lv_iadd hx hb dL_law_1358 ?_
  refine va_sld hx hb hXs hbl hbA B.2.2 (ix_k hi0 hiL hL (z := 1) rfl (by decide) (by decide)) dL_law_1359 ?_
  refine lv_aload_n hx hb dL_law_1360 rfl (lv_at hl 4 rfl) ?_
  have B : WB g A s.heap (36 + pz) ad (cf g ad (LW g ad n v sp dy la kn re cr dr th kn rf pl pz mc) sp dy la kn re) H locs := LW_c ▸ B
  refine k_i (k := C + 5) (n := S + 46) hA B (u_SW (rest := []) X (c_L_total l hfl g (36 + pz) ad (LW g ad n v sp dy la kn re cr dr th kn rf pl pz mc) sp dy la kn re n v (by omega) LW_23 hla hlb (xs (i + 1).toNatClampNeg) H.size) mw_L_total md_L_total rfl lk_L_262 ⟨(Nat.le_of_ble_eq_true rfl), (Nat.le_of_ble_eq_true rfl)⟩ hA hK hT hnc B hl.1 rfl (Nat.le_of_ble_eq_true rfl) dL_law_1361 ⟨by show C + _ ≤ 757246; dsimp only [rm]; omega, by show S + _ ≤ 6824365; dsimp only [rm]; omega⟩) (by dsimp only [rm]; omega) (by dsimp only [rm]; omega) (fun r ad' f' H locs hw B => ?_)
  dsimp only at hw
  obtain ⟨rfl, hw⟩ := hw
  obtain ⟨n', v', sp', dy', la', re', B, hR'⟩ : ∃ (n' : Int64) (v' : Option Nat) (sp' dy' : Nat → TR) (la' re' : Int32), WB g A s.heap (36 + pz) ad (LW g ad n' v' sp' dy' la' kn re' cr dr th kn rf pl pz mc) H locs ∧ Rq sp' dy' la' re' cr dr rf pl pz := by
    rcases hw with ⟨hx0, -, a8, rfl⟩ | ⟨E, -, -, rfl⟩
    · exact ⟨_, _, _, _, _, _, LB_c B, hR⟩
    · exact ⟨_, _, _, _, _, _, LB_c0 B, hR⟩
  refine lv_istore (lv' := [(5, .int r), (4, .int i), (0, .ref b), (1, .ref (ad 0)), (2, .ref (ad 24)), (3, .ref (ad 23))]) hx hb dL_law_1364 hl (by decide) rfl (fun ls hl => ?_)
  refine lv_aload_n hx hb dL_law_1366 rfl (lv_at hl 4 rfl) ?_
  refine lv_aload_n hx hb dL_law_1367 rfl (lv_at hl 2 rfl) ?_
  refine lv_iload hx hb dL_law_1368 (lv_at hl 1 rfl) ?_
  refine lv_iconst (v := 1) hx hb dL_law_1370 (by decide) ?_
  refine lv_iadd hx hb dL_law_1371 ?_
  refine va_sld hx hb hXs hbl hbA B.2.2 (ix_k hi0 hiL hL (z := 1) rfl (by decide) (by decide)) dL_law_1372 ?_
  refine k_r (k := C + 9) (n := S + 82) hA B (b_V (q := 24) (rest := []) rfl X (c_X4_total_ l g (36 + pz) ad (yc g ad n' v' sp' dy' la' kn re') cr dr th kn rf pl pz mc (Nat.le_refl _) (ad 24) rfl (xs (i + 1).toNatClampNeg)  H.size) mw_X4_total_ md_X4_total_ rfl lk_L_264 ⟨(Nat.le_of_ble_eq_true rfl), (Nat.le_of_ble_eq_true rfl)⟩ hA hK hT B (by omega) mg_24 rfl rfl hl.1 rfl (Nat.le_of_ble_eq_true rfl) dL_law_1373 ⟨by show C + 5 + _ ≤ 757246; dsimp only [rm]; omega, by show S + 46 + _ ≤ 6824365; dsimp only [rm]; omega⟩) (by dsimp only [rm]; omega) (by dsimp only [rm]; omega) (fun r2 ad' f' H locs hw B => ?_)
  dsimp only at hw
  obtain ⟨rfl, ⟨a9, rfl⟩, rfl⟩ := hw
  have B := LB_m B (fun _ _ => rfl)
  refine lv_astore (lv' := [(6, .ref a9), (5, .int r), (4, .int i), (0, .ref b), (1, .ref (ad 0)), (2, .ref (ad 24)), (3, .ref (ad 23))]) hx hb dL_law_1376 hl (by decide) rfl (fun ls hl => ?_)
  refine lv_goto (tgt := 2441) hx hb dL_law_1378 (by decide) ?_
  refine W.widen (show C + 9 ≤ C + 1200 by omega) (show S + 82 ≤ S + 12000 by omega) ?_
  exact kk H locs ls ⟨ad, n', v', sp', dy', la', kn, re', _, _, _, _, _, _, _, hR', B, lv_sub hl [2, 3, 4, 5, 6] rfl⟩
set_option maxHeartbeats 8000000 in
theorem lc_1381 {p : Program} {l : Launch} {e : Env} {s : State} {m : MethodId} {below : List Frame} {meth : Method} {c : Code} {cw : Cond} {g : GG} {A : Nat → Prop} {b L : Nat} {xs : Nat → Int32} {C S : Nat} {Q : State → Prop} {H : Heap} {locs : List Loc} {ls : Array Slot} {i : Int32} (Y : LwC p l s m meth c cw g A b L xs) (hi0 : ¬ i < 0) (hiL : i.toInt + 5 ≤ L) (hL : L ≤ 2560) (hrC : C + 1200 ≤ 757246) (hrS : S + 12000 ≤ 6824365) (hS : LwS s g A b i H locs ls)
    (kk : ∀ (H1 : Heap) (locs1 : List Loc) (ls1 : Array Slot), LwS s g A b i H1 locs1 ls1 → W p l e room_1 s m #[.ref b] below meth c H1 locs1 (C + 1200) (S + 12000) Q (F0 m 2441 ls1 [])) : W p l e room_1 s m #[.ref b] below meth c H locs C S Q (F0 m 1381 ls []) := by
  obtain ⟨X, hfl, hK, hT, hnc, hXs, hbl, hbA, hA⟩ := Y
  obtain ⟨hx, hb, hml, hown, hts, hlocks⟩ := id X
  obtain ⟨ad, n, v, sp, dy, la, kn, re, cr, dr, th, rf, pl, pz, mc, hR, B, hl⟩ := hS
  obtain ⟨hla, hlb, hz, hdr⟩ := Rq_b hR
  refine lv_aload_n hx hb dL_law_1381 rfl (lv_at hl 2 rfl) ?_
  refine lv_aload_n hx hb dL_law_1382 rfl (lv_at hl 1 rfl) ?_
  refine lv_iload hx hb dL_law_1383 (lv_at hl 0 rfl) ?_
  refine lv_iconst (v := 1) hx hb dL_law_1385 (by decide) ?_
  refine lv_iadd hx hb dL_law_1386 ?_
  refine va_sld hx hb hXs hbl hbA B.2.2 (ix_k hi0 hiL hL (z := 1) rfl (by decide) (by decide)) dL_law_1387 ?_
  refine lv_aload_n hx hb dL_law_1388 rfl (lv_at hl 4 rfl) ?_
  have B : WB g A s.heap (36 + pz) ad (cf g ad (LW g ad n v sp dy la kn re cr dr th kn rf pl pz mc) sp dy la kn re) H locs := LW_c ▸ B
  refine k_i (k := C + 1) (n := S + 6) hA B (u_SW (rest := []) X (c_L_isZero l hfl g (36 + pz) ad (LW g ad n v sp dy la kn re cr dr th kn rf pl pz mc) sp dy la kn re n v (by omega) LW_23 hla hlb (xs (i + 1).toNatClampNeg) H.size) mw_L_isZero md_L_isZero rfl lk_L_265 ⟨(Nat.le_of_ble_eq_true rfl), (Nat.le_of_ble_eq_true rfl)⟩ hA hK hT hnc B hl.1 rfl (Nat.le_of_ble_eq_true rfl) dL_law_1389 ⟨by show C + _ ≤ 757246; dsimp only [rm]; omega, by show S + _ ≤ 6824365; dsimp only [rm]; omega⟩) (by dsimp only [rm]; omega) (by dsimp only [rm]; omega) (fun r ad' f' H locs hw B => ?_)
  dsimp only at hw
  obtain ⟨rfl, hw⟩ := hw
  obtain ⟨n', v', sp', dy', la', re', B, hr, hv, hR'⟩ : ∃ (n' : Int64) (v' : Option Nat) (sp' dy' : Nat → TR) (la' re' : Int32), WB g A s.heap (36 + pz) ad (LW g ad n' v' sp' dy' la' kn re' cr dr th kn rf pl pz mc) H locs ∧ r = (v_X4_isZero cr (xs (i + 1).toNatClampNeg)).2 ∧ (r = 0 → n' = bl ((v_X4_isZero cr (xs (i + 1).toNatClampNeg)).1)) ∧ Rq sp' dy' la' re' cr dr rf pl (pz) := by
    have h := rl_isZero (a1 := xs (i + 1).toNatClampNeg) hR
    rcases hw with ⟨hx0, rfl, rfl⟩ | ⟨E, hxE, rfl, rfl⟩
    · have h := h.1 hx0
      exact ⟨_, _, _, _, _, _, LB_c B, h.1.symm, fun _ => by rw [h.2.1], hR⟩
    · have h := h.2 E hxE
      exact ⟨_, _, _, _, _, _, LB_c0 B, h.1.symm, fun q => absurd q (xcd_0 E), hR⟩
  refine lv_istore (lv' := [(5, .int r), (4, .int i), (0, .ref b), (1, .ref (ad 0)), (2, .ref (ad 24)), (3, .ref (ad 23))]) hx hb dL_law_1392 hl (by decide) rfl (fun ls hl => ?_)
  refine lv_aload_n hx hb dL_law_1394 rfl (lv_at hl 4 rfl) ?_
  refine lv_aload_n hx hb dL_law_1395 rfl (lv_at hl 2 rfl) ?_
  refine lv_iload hx hb dL_law_1396 (lv_at hl 1 rfl) ?_
  refine lv_iconst (v := 1) hx hb dL_law_1398 (by decide) ?_
  refine lv_iadd hx hb dL_law_1399 ?_
  refine va_sld hx hb hXs hbl hbA B.2.2 (ix_k hi0 hiL hL (z := 1) rfl (by decide) (by decide)) dL_law_1400 ?_
  refine k_i (k := C + 2) (n := S + 9) hA B (b_V (q := 24) (rest := []) rfl X (c_X4_isZero l g (36 + pz) ad (yc g ad n' v' sp' dy' la' kn re') cr dr th kn rf pl pz mc (Nat.le_refl _) (ad 24) rfl (xs (i + 1).toNatClampNeg)  H.size) mw_X4_isZero md_X4_isZero rfl lk_L_267 ⟨(Nat.le_of_ble_eq_true rfl), (Nat.le_of_ble_eq_true rfl)⟩ hA hK hT B (by omega) mg_24 rfl rfl hl.1 rfl (Nat.le_of_ble_eq_true rfl) dL_law_1401 ⟨by show C + 1 + _ ≤ 757246; dsimp only [rm]; omega, by show S + 6 + _ ≤ 6824365; dsimp only [rm]; omega⟩) (by dsimp only [rm]; omega) (by dsimp only [rm]; omega) (fun r2 ad' f' H locs hw B => ?_)
  dsimp only at hw
  obtain ⟨rfl, hr2, rfl⟩ := hw
  have B := LB_m B (fun _ _ => rfl)
  refine lv_istore (lv' := [(6, .int r2), (5, .int r), (4, .int i), (0, .ref b), (1, .ref (ad 0)), (2, .ref (ad 24)), (3, .ref (ad 23))]) hx hb dL_law_1404 hl (by decide) rfl (fun ls hl => ?_)
  refine lv_goto (tgt := 2441) hx hb dL_law_1406 (by decide) ?_
  refine W.widen (show C + 2 ≤ C + 1200 by omega) (show S + 9 ≤ S + 12000 by omega) ?_
  exact kk H locs ls ⟨ad, n', v', sp', dy', la', kn, re', _, _, _, _, _, _, _, hR', B, lv_sub hl [2, 3, 4, 5, 6] rfl⟩
set_option maxHeartbeats 8000000 in
theorem lc_1409 {p : Program} {l : Launch} {e : Env} {s : State} {m : MethodId} {below : List Frame} {meth : Method} {c : Code} {cw : Cond} {g : GG} {A : Nat → Prop} {b L : Nat} {xs : Nat → Int32} {C S : Nat} {Q : State → Prop} {H : Heap} {locs : List Loc} {ls : Array Slot} {i : Int32} (Y : LwC p l s m meth c cw g A b L xs) (hi0 : ¬ i < 0) (hiL : i.toInt + 5 ≤ L) (hL : L ≤ 2560) (hrC : C + 1200 ≤ 757246) (hrS : S + 12000 ≤ 6824365) (hS : LwS s g A b i H locs ls)
    (kk : ∀ (H1 : Heap) (locs1 : List Loc) (ls1 : Array Slot), LwS s g A b i H1 locs1 ls1 → W p l e room_1 s m #[.ref b] below meth c H1 locs1 (C + 1200) (S + 12000) Q (F0 m 2441 ls1 [])) : W p l e room_1 s m #[.ref b] below meth c H locs C S Q (F0 m 1409 ls []) := by
  obtain ⟨X, hfl, hK, hT, hnc, hXs, hbl, hbA, hA⟩ := Y
  obtain ⟨hx, hb, hml, hown, hts, hlocks⟩ := id X
  obtain ⟨ad, n, v, sp, dy, la, kn, re, cr, dr, th, rf, pl, pz, mc, hR, B, hl⟩ := hS
  obtain ⟨hla, hlb, hz, hdr⟩ := Rq_b hR
  refine lv_aload_n hx hb dL_law_1409 rfl (lv_at hl 2 rfl) ?_
  refine lv_aload_n hx hb dL_law_1410 rfl (lv_at hl 1 rfl) ?_
  refine lv_iload hx hb dL_law_1411 (lv_at hl 0 rfl) ?_
  refine lv_iconst (v := 1) hx hb dL_law_1413 (by decide) ?_
  refine lv_iadd hx hb dL_law_1414 ?_
  refine va_sld hx hb hXs hbl hbA B.2.2 (ix_k hi0 hiL hL (z := 1) rfl (by decide) (by decide)) dL_law_1415 ?_
  refine lv_aload_n hx hb dL_law_1416 rfl (lv_at hl 4 rfl) ?_
  have B : WB g A s.heap (36 + pz) ad (cf g ad (LW g ad n v sp dy la kn re cr dr th kn rf pl pz mc) sp dy la kn re) H locs := LW_c ▸ B
  refine k_i (k := C + 1) (n := S + 6) hA B (u_SW (rest := []) X (c_L_isNegative l hfl g (36 + pz) ad (LW g ad n v sp dy la kn re cr dr th kn rf pl pz mc) sp dy la kn re n v (by omega) LW_23 hla hlb (xs (i + 1).toNatClampNeg) H.size) mw_L_isNegative md_L_isNegative rfl lk_L_268 ⟨(Nat.le_of_ble_eq_true rfl), (Nat.le_of_ble_eq_true rfl)⟩ hA hK hT hnc B hl.1 rfl (Nat.le_of_ble_eq_true rfl) dL_law_1417 ⟨by show C + _ ≤ 757246; dsimp only [rm]; omega, by show S + _ ≤ 6824365; dsimp only [rm]; omega⟩) (by dsimp only [rm]; omega) (by dsimp only [rm]; omega) (fun r ad' f' H locs hw B => ?_)
  dsimp only at hw
  obtain ⟨rfl, hw⟩ := hw
  obtain ⟨n', v', sp', dy', la', re', B, hr, hv, hR'⟩ : ∃ (n' : Int64) (v' : Option Nat) (sp' dy' : Nat → TR) (la' re' : Int32), WB g A s.heap (36 + pz) ad (LW g ad n' v' sp' dy' la' kn re' cr dr th kn rf pl pz mc) H locs ∧ r = (v_X4_isNegative cr (xs (i + 1).toNatClampNeg)).2 ∧ (r = 0 → n' = bl ((v_X4_isNegative cr (xs (i + 1).toNatClampNeg)).1)) ∧ Rq sp' dy' la' re' cr dr rf pl (pz) := by
    have h := rl_isNegative (a1 := xs (i + 1).toNatClampNeg) hR
    rcases hw with ⟨hx0, rfl, rfl⟩ | ⟨E, hxE, rfl, rfl⟩
    · have h := h.1 hx0
      exact ⟨_, _, _, _, _, _, LB_c B, h.1.symm, fun _ => by rw [h.2.1], hR⟩
    · have h := h.2 E hxE
      exact ⟨_, _, _, _, _, _, LB_c0 B, h.1.symm, fun q => absurd q (xcd_0 E), hR⟩
  refine lv_istore (lv' := [(5, .int r), (4, .int i), (0, .ref b), (1, .ref (ad 0)), (2, .ref (ad 24)), (3, .ref (ad 23))]) hx hb dL_law_1420 hl (by decide) rfl (fun ls hl => ?_)
  refine lv_aload_n hx hb dL_law_1422 rfl (lv_at hl 4 rfl) ?_
  refine lv_aload_n hx hb dL_law_1423 rfl (lv_at hl 2 rfl) ?_
  refine lv_iload hx hb dL_law_1424 (lv_at hl 1 rfl) ?_
  refine lv_iconst (v := 1) hx hb dL_law_1426 (by decide) ?_
  refine lv_iadd hx hb dL_law_1427 ?_
  refine va_sld hx hb hXs hbl hbA B.2.2 (ix_k hi0 hiL hL (z := 1) rfl (by decide) (by decide)) dL_law_1428 ?_
  refine k_i (k := C + 1) (n := S + 6) hA B (b_V (q := 24) (rest := []) rfl X (c_X4_isNegative l g (36 + pz) ad (yc g ad n' v' sp' dy' la' kn re') cr dr th kn rf pl pz mc (Nat.le_refl _) (ad 24) rfl (xs (i + 1).toNatClampNeg)  H.size) mw_X4_isNegative md_X4_isNegative rfl lk_L_270 ⟨(Nat.le_of_ble_eq_true rfl), (Nat.le_of_ble_eq_true rfl)⟩ hA hK hT B (by omega) mg_24 rfl rfl hl.1 rfl (Nat.le_of_ble_eq_true rfl) dL_law_1429 ⟨by show C + 1 + _ ≤ 757246; dsimp only [rm]; omega, by show S + 6 + _ ≤ 6824365; dsimp only [rm]; omega⟩) (by dsimp only [rm]; omega) (by dsimp only [rm]; omega) (fun r2 ad' f' H locs hw B => ?_)
  dsimp only at hw
  obtain ⟨rfl, hr2, rfl⟩ := hw
  have B := LB_m B (fun _ _ => rfl)
  refine lv_istore (lv' := [(6, .int r2), (5, .int r), (4, .int i), (0, .ref b), (1, .ref (ad 0)), (2, .ref (ad 24)), (3, .ref (ad 23))]) hx hb dL_law_1432 hl (by decide) rfl (fun ls hl => ?_)
  refine lv_goto (tgt := 2441) hx hb dL_law_1434 (by decide) ?_
  refine W.widen (show C + 1 ≤ C + 1200 by omega) (show S + 6 ≤ S + 12000 by omega) ?_
  exact kk H locs ls ⟨ad, n', v', sp', dy', la', kn, re', _, _, _, _, _, _, _, hR', B, lv_sub hl [2, 3, 4, 5, 6] rfl⟩
set_option maxHeartbeats 8000000 in
theorem lc_1437 {p : Program} {l : Launch} {e : Env} {s : State} {m : MethodId} {below : List Frame} {meth : Method} {c : Code} {cw : Cond} {g : GG} {A : Nat → Prop} {b L : Nat} {xs : Nat → Int32} {C S : Nat} {Q : State → Prop} {H : Heap} {locs : List Loc} {ls : Array Slot} {i : Int32} (Y : LwC p l s m meth c cw g A b L xs) (hi0 : ¬ i < 0) (hiL : i.toInt + 5 ≤ L) (hL : L ≤ 2560) (hrC : C + 1200 ≤ 757246) (hrS : S + 12000 ≤ 6824365) (hS : LwS s g A b i H locs ls)
    (kk : ∀ (H1 : Heap) (locs1 : List Loc) (ls1 : Array Slot), LwS s g A b i H1 locs1 ls1 → W p l e room_1 s m #[.ref b] below meth c H1 locs1 (C + 1200) (S + 12000) Q (F0 m 2441 ls1 [])) : W p l e room_1 s m #[.ref b] below meth c H locs C S Q (F0 m 1437 ls []) := by
  obtain ⟨X, hfl, hK, hT, hnc, hXs, hbl, hbA, hA⟩ := Y
  obtain ⟨hx, hb, hml, hown, hts, hlocks⟩ := id X
  obtain ⟨ad, n, v, sp, dy, la, kn, re, cr, dr, th, rf, pl, pz, mc, hR, B, hl⟩ := hS
  obtain ⟨hla, hlb, hz, hdr⟩ := Rq_b hR
  refine lv_aload_n hx hb dL_law_1437 rfl (lv_at hl 2 rfl) ?_
  refine lv_aload_n hx hb dL_law_1438 rfl (lv_at hl 1 rfl) ?_
  refine lv_iload hx hb dL_law_1439 (lv_at hl 0 rfl) ?_
  refine lv_iconst (v := 1) hx hb dL_law_1441 (by decide) ?_
  refine lv_iadd hx hb dL_law_1442 ?_
  refine va_sld hx hb hXs hbl hbA B.2.2 (ix_k hi0 hiL hL (z := 1) rfl (by decide) (by decide)) dL_law_1443 ?_
  refine lv_aload_n hx hb dL_law_1444 rfl (lv_at hl 1 rfl) ?_
  refine lv_iload hx hb dL_law_1445 (lv_at hl 0 rfl) ?_
  refine lv_iconst (v := 2) hx hb dL_law_1447 (by decide) ?_
  refine lv_iadd hx hb dL_law_1448 ?_
  refine va_sld hx hb hXs hbl hbA B.2.2 (ix_k hi0 hiL hL (z := 2) rfl (by decide) (by decide)) dL_law_1449 ?_
  refine lv_aload_n hx hb dL_law_1450 rfl (lv_at hl 4 rfl) ?_
  have B : WB g A s.heap (36 + pz) ad (cf g ad (LW g ad n v sp dy la kn re cr dr th kn rf pl pz mc) sp dy la kn re) H locs := LW_c ▸ B
  refine k_i (k := C + 2) (n := S + 12) hA B (u_SW (rest := []) X (c_L_areSame l hfl g (36 + pz) ad (LW g ad n v sp dy la kn re cr dr th kn rf pl pz mc) sp dy la kn re n v (by omega) LW_23 hla hlb (xs (i + 1).toNatClampNeg) (xs (i + 2).toNatClampNeg) H.size) mw_L_areSame md_L_areSame rfl lk_L_271 ⟨(Nat.le_of_ble_eq_true rfl), (Nat.le_of_ble_eq_true rfl)⟩ hA hK hT hnc B hl.1 rfl (Nat.le_of_ble_eq_true rfl) dL_law_1451 ⟨by show C + _ ≤ 757246; dsimp only [rm]; omega, by show S + _ ≤ 6824365; dsimp only [rm]; omega⟩) (by dsimp only [rm]; omega) (by dsimp only [rm]; omega) (fun r ad' f' H locs hw B => ?_)
  dsimp only at hw
  obtain ⟨rfl, hw⟩ := hw
  obtain ⟨n', v', sp', dy', la', re', B, hr, hv, hR'⟩ : ∃ (n' : Int64) (v' : Option Nat) (sp' dy' : Nat → TR) (la' re' : Int32), WB g A s.heap (36 + pz) ad (LW g ad n' v' sp' dy' la' kn re' cr dr th kn rf pl pz mc) H locs ∧ r = (v_X4_areSame cr (xs (i + 1).toNatClampNeg) (xs (i + 2).toNatClampNeg)).2 ∧ (r = 0 → n' = bl ((v_X4_areSame cr (xs (i + 1).toNatClampNeg) (xs (i + 2).toNatClampNeg)).1)) ∧ Rq sp' dy' la' re' cr dr rf pl (pz) := by
    have h := rl_areSame (a1 := xs (i + 1).toNatClampNeg) (a2 := xs (i + 2).toNatClampNeg) hR
    rcases hw with ⟨hx0, rfl, rfl⟩ | ⟨E, hxE, rfl, rfl⟩
    · have h := h.1 hx0
      exact ⟨_, _, _, _, _, _, LB_c B, h.1.symm, fun _ => by rw [h.2.1], hR⟩
    · have h := h.2 E hxE
      exact ⟨_, _, _, _, _, _, LB_c0 B, h.1.symm, fun q => absurd q (xcd_0 E), hR⟩
  refine lv_istore (lv' := [(5, .int r), (4, .int i), (0, .ref b), (1, .ref (ad 0)), (2, .ref (ad 24)), (3, .ref (ad 23))]) hx hb dL_law_1454 hl (by decide) rfl (fun ls hl => ?_)
  refine lv_aload_n hx hb dL_law_1456 rfl (lv_at hl 4 rfl) ?_
  refine lv_aload_n hx hb dL_law_1457 rfl (lv_at hl 2 rfl) ?_
  refine lv_iload hx hb dL_law_1458 (lv_at hl 1 rfl) ?_
  refine lv_iconst (v := 1) hx hb dL_law_1460 (by decide) ?_
  refine lv_iadd hx hb dL_law_1461 ?_
  refine va_sld hx hb hXs hbl hbA B.2.2 (ix_k hi0 hiL hL (z := 1) rfl (by decide) (by decide)) dL_law_1462 ?_
  refine lv_aload_n hx hb dL_law_1463 rfl (lv_at hl 2 rfl) ?_
  refine lv_iload hx hb dL_law_1464 (lv_at hl 1 rfl) ?_
  refine lv_iconst (v := 2) hx hb dL_law_1466 (by decide) ?_
  refine lv_iadd hx hb dL_law_1467 ?_
  refine va_sld hx hb hXs hbl hbA B.2.2 (ix_k hi0 hiL hL (z := 2) rfl (by decide) (by decide)) dL_law_1468 ?_
  refine k_i (k := C + 2) (n := S + 12) hA B (b_V (q := 24) (rest := []) rfl X (c_X4_areSame l g (36 + pz) ad (yc g ad n' v' sp' dy' la' kn re') cr dr th kn rf pl pz mc (Nat.le_refl _) (ad 24) rfl (xs (i + 1).toNatClampNeg) (xs (i + 2).toNatClampNeg)  H.size) mw_X4_areSame md_X4_areSame rfl lk_L_273 ⟨(Nat.le_of_ble_eq_true rfl), (Nat.le_of_ble_eq_true rfl)⟩ hA hK hT B (by omega) mg_24 rfl rfl hl.1 rfl (Nat.le_of_ble_eq_true rfl) dL_law_1469 ⟨by show C + 2 + _ ≤ 757246; dsimp only [rm]; omega, by show S + 12 + _ ≤ 6824365; dsimp only [rm]; omega⟩) (by dsimp only [rm]; omega) (by dsimp only [rm]; omega) (fun r2 ad' f' H locs hw B => ?_)
  dsimp only at hw
  obtain ⟨rfl, hr2, rfl⟩ := hw
  have B := LB_m B (fun _ _ => rfl)
  refine lv_istore (lv' := [(6, .int r2), (5, .int r), (4, .int i), (0, .ref b), (1, .ref (ad 0)), (2, .ref (ad 24)), (3, .ref (ad 23))]) hx hb dL_law_1472 hl (by decide) rfl (fun ls hl => ?_)
  refine lv_goto (tgt := 2441) hx hb dL_law_1474 (by decide) ?_
  refine W.widen (show C + 2 ≤ C + 1200 by omega) (show S + 12 ≤ S + 12000 by omega) ?_
  exact kk H locs ls ⟨ad, n', v', sp', dy', la', kn, re', _, _, _, _, _, _, _, hR', B, lv_sub hl [2, 3, 4, 5, 6] rfl⟩
set_option maxHeartbeats 8000000 in
theorem lc_1477 {p : Program} {l : Launch} {e : Env} {s : State} {m : MethodId} {below : List Frame} {meth : Method} {c : Code} {cw : Cond} {g : GG} {A : Nat → Prop} {b L : Nat} {xs : Nat → Int32} {C S : Nat} {Q : State → Prop} {H : Heap} {locs : List Loc} {ls : Array Slot} {i : Int32} (Y : LwC p l s m meth c cw g A b L xs) (hi0 : ¬ i < 0) (hiL : i.toInt + 5 ≤ L) (hL : L ≤ 2560) (hrC : C + 1200 ≤ 757246) (hrS : S + 12000 ≤ 6824365) (hS : LwS s g A b i H locs ls)
    (kk : ∀ (H1 : Heap) (locs1 : List Loc) (ls1 : Array Slot), LwS s g A b i H1 locs1 ls1 → W p l e room_1 s m #[.ref b] below meth c H1 locs1 (C + 1200) (S + 12000) Q (F0 m 2441 ls1 [])) : W p l e room_1 s m #[.ref b] below meth c H locs C S Q (F0 m 1477 ls []) := by
  obtain ⟨X, hfl, hK, hT, hnc, hXs, hbl, hbA, hA⟩ := Y
  obtain ⟨hx, hb, hml, hown, hts, hlocks⟩ := id X
  obtain ⟨ad, n, v, sp, dy, la, kn, re, cr, dr, th, rf, pl, pz, mc, hR, B, hl⟩ := hS
  obtain ⟨hla, hlb, hz, hdr⟩ := Rq_b hR
  refine lv_aload_n hx hb dL_law_1477 rfl (lv_at hl 2 rfl) ?_
  refine lv_aload_n hx hb dL_law_1478 rfl (lv_at hl 1 rfl) ?_
  refine lv_iload hx hb dL_law_1479 (lv_at hl 0 rfl) ?_
  refine lv_iconst (v := 1) hx hb dL_law_1481 (by decide) ?_
  refine lv_iadd hx hb dL_law_1482 ?_
  refine va_sld hx hb hXs hbl hbA B.2.2 (ix_k hi0 hiL hL (z := 1) rfl (by decide) (by decide)) dL_law_1483 ?_
  refine lv_aload_n hx hb dL_law_1484 rfl (lv_at hl 1 rfl) ?_
  refine lv_iload hx hb dL_law_1485 (lv_at hl 0 rfl) ?_
  refine lv_iconst (v := 2) hx hb dL_law_1487 (by decide) ?_
  refine lv_iadd hx hb dL_law_1488 ?_
  refine va_sld hx hb hXs hbl hbA B.2.2 (ix_k hi0 hiL hL (z := 2) rfl (by decide) (by decide)) dL_law_1489 ?_
  refine lv_aload_n hx hb dL_law_1490 rfl (lv_at hl 4 rfl) ?_
  have B : WB g A s.heap (36 + pz) ad (cf g ad (LW g ad n v sp dy la kn re cr dr th kn rf pl pz mc) sp dy la kn re) H locs := LW_c ▸ B
  refine k_i (k := C + 2) (n := S + 12) hA B (u_SW (rest := []) X (c_L_areAlike l hfl g (36 + pz) ad (LW g ad n v sp dy la kn re cr dr th kn rf pl pz mc) sp dy la kn re n v (by omega) LW_23 hla hlb (xs (i + 1).toNatClampNeg) (xs (i + 2).toNatClampNeg) H.size) mw_L_areAlike md_L_areAlike rfl lk_L_274 ⟨(Nat.le_of_ble_eq_true rfl), (Nat.le_of_ble_eq_true rfl)⟩ hA hK hT hnc B hl.1 rfl (Nat.le_of_ble_eq_true rfl) dL_law_1491 ⟨by show C + _ ≤ 757246; dsimp only [rm]; omega, by show S + _ ≤ 6824365; dsimp only [rm]; omega⟩) (by dsimp only [rm]; omega) (by dsimp only [rm]; omega) (fun r ad' f' H locs hw B => ?_)
  dsimp only at hw
  obtain ⟨rfl, hw⟩ := hw
  obtain ⟨n', v', sp', dy', la', re', B, hr, hv, hR'⟩ : ∃ (n' : Int64) (v' : Option Nat) (sp' dy' : Nat → TR) (la' re' : Int32), WB g A s.heap (36 + pz) ad (LW g ad n' v' sp' dy' la' kn re' cr dr th kn rf pl pz mc) H locs ∧ r = (v_X4_areAlike cr (xs (i + 1).toNatClampNeg) (xs (i + 2).toNatClampNeg)).2 ∧ (r = 0 → n' = bl ((v_X4_areAlike cr (xs (i + 1).toNatClampNeg) (xs (i + 2).toNatClampNeg)).1)) ∧ Rq sp' dy' la' re' cr dr rf pl (pz) := by
    have h := rl_areAlike (a1 := xs (i + 1).toNatClampNeg) (a2 := xs (i + 2).toNatClampNeg) hR
    rcases hw with ⟨hx0, rfl, rfl⟩ | ⟨E, hxE, rfl, rfl⟩
    · have h := h.1 hx0
      exact ⟨_, _, _, _, _, _, LB_c B, h.1.symm, fun _ => by rw [h.2.1], hR⟩
    · have h := h.2 E hxE
      exact ⟨_, _, _, _, _, _, LB_c0 B, h.1.symm, fun q => absurd q (xcd_0 E), hR⟩
  refine lv_istore (lv' := [(5, .int r), (4, .int i), (0, .ref b), (1, .ref (ad 0)), (2, .ref (ad 24)), (3, .ref (ad 23))]) hx hb dL_law_1494 hl (by decide) rfl (fun ls hl => ?_)
  refine lv_aload_n hx hb dL_law_1496 rfl (lv_at hl 4 rfl) ?_
  refine lv_aload_n hx hb dL_law_1497 rfl (lv_at hl 2 rfl) ?_
  refine lv_iload hx hb dL_law_1498 (lv_at hl 1 rfl) ?_
  refine lv_iconst (v := 1) hx hb dL_law_1500 (by decide) ?_
  refine lv_iadd hx hb dL_law_1501 ?_
  refine va_sld hx hb hXs hbl hbA B.2.2 (ix_k hi0 hiL hL (z := 1) rfl (by decide) (by decide)) dL_law_1502 ?_
  refine lv_aload_n hx hb dL_law_1503 rfl (lv_at hl 2 rfl) ?_
  refine lv_iload hx hb dL_law_1504 (lv_at hl 1 rfl) ?_
  refine lv_iconst (v := 2) hx hb dL_law_1506 (by decide) ?_
  refine lv_iadd hx hb dL_law_1507 ?_
  refine va_sld hx hb hXs hbl hbA B.2.2 (ix_k hi0 hiL hL (z := 2) rfl (by decide) (by decide)) dL_law_1508 ?_
  refine k_i (k := C + 2) (n := S + 12) hA B (b_V (q := 24) (rest := []) rfl X (c_X4_areAlike l g (36 + pz) ad (yc g ad n' v' sp' dy' la' kn re') cr dr th kn rf pl pz mc (Nat.le_refl _) (ad 24) rfl (xs (i + 1).toNatClampNeg) (xs (i + 2).toNatClampNeg)  H.size) mw_X4_areAlike md_X4_areAlike rfl lk_L_276 ⟨(Nat.le_of_ble_eq_true rfl), (Nat.le_of_ble_eq_true rfl)⟩ hA hK hT B (by omega) mg_24 rfl rfl hl.1 rfl (Nat.le_of_ble_eq_true rfl) dL_law_1509 ⟨by show C + 2 + _ ≤ 757246; dsimp only [rm]; omega, by show S + 12 + _ ≤ 6824365; dsimp only [rm]; omega⟩) (by dsimp only [rm]; omega) (by dsimp only [rm]; omega) (fun r2 ad' f' H locs hw B => ?_)
  dsimp only at hw
  obtain ⟨rfl, hr2, rfl⟩ := hw
  have B := LB_m B (fun _ _ => rfl)
  refine lv_istore (lv' := [(6, .int r2), (5, .int r), (4, .int i), (0, .ref b), (1, .ref (ad 0)), (2, .ref (ad 24)), (3, .ref (ad 23))]) hx hb dL_law_1512 hl (by decide) rfl (fun ls hl => ?_)
  refine lv_goto (tgt := 2441) hx hb dL_law_1514 (by decide) ?_
  refine W.widen (show C + 2 ≤ C + 1200 by omega) (show S + 12 ≤ S + 12000 by omega) ?_
  exact kk H locs ls ⟨ad, n', v', sp', dy', la', kn, re', _, _, _, _, _, _, _, hR', B, lv_sub hl [2, 3, 4, 5, 6] rfl⟩
set_option maxHeartbeats 8000000 in
theorem lc_1517 {p : Program} {l : Launch} {e : Env} {s : State} {m : MethodId} {below : List Frame} {meth : Method} {c : Code} {cw : Cond} {g : GG} {A : Nat → Prop} {b L : Nat} {xs : Nat → Int32} {C S : Nat} {Q : State → Prop} {H : Heap} {locs : List Loc} {ls : Array Slot} {i : Int32} (Y : LwC p l s m meth c cw g A b L xs) (hi0 : ¬ i < 0) (hiL : i.toInt + 5 ≤ L) (hL : L ≤ 2560) (hrC : C + 1200 ≤ 757246) (hrS : S + 12000 ≤ 6824365) (hS : LwS s g A b i H locs ls)
    (kk : ∀ (H1 : Heap) (locs1 : List Loc) (ls1 : Array Slot), LwS s g A b i H1 locs1 ls1 → W p l e room_1 s m #[.ref b] below meth c H1 locs1 (C + 1200) (S + 12000) Q (F0 m 2441 ls1 [])) : W p l e room_1 s m #[.ref b] below meth c H locs C S Q (F0 m 1517 ls []) := by
  obtain ⟨X, hfl, hK, hT, hnc, hXs, hbl, hbA, hA⟩ := Y
  obtain ⟨hx, hb, hml, hown, hts, hlocks⟩ := id X
  obtain ⟨ad, n, v, sp, dy, la, kn, re, cr, dr, th, rf, pl, pz, mc, hR, B, hl⟩ := hS
  obtain ⟨hla, hlb, hz, hdr⟩ := Rq_b hR
  refine lv_aload_n hx hb dL_law_1517 rfl (lv_at hl 2 rfl) ?_
  refine lv_aload_n hx hb dL_law_1518 rfl (lv_at hl 1 rfl) ?_
  refine lv_iload hx hb dL_law_1519 (lv_at hl 0 rfl) ?_
  refine lv_iconst (v := 1) hx hb dL_law_1521 (by decide) ?_
  refine lv_iadd hx hb dL_law_1522 ?_
  refine va_sld hx hb hXs hbl hbA B.2.2 (ix_k hi0 hiL hL (z := 1) rfl (by decide) (by decide)) dL_law_1523 ?_
  refine lv_aload_n hx hb dL_law_1524 rfl (lv_at hl 4 rfl) ?_
  have B : WB g A s.heap (36 + pz) ad (cf g ad (LW g ad n v sp dy la kn re cr dr th kn rf pl pz mc) sp dy la kn re) H locs := LW_c ▸ B
  refine k_i (k := C + 7) (n := S + 172) hA B (u_SW (rest := []) X (c_L_text l hfl g (36 + pz) ad (LW g ad n v sp dy la kn re cr dr th kn rf pl pz mc) sp dy la kn re n v (by omega) LW_23 hla hlb (xs (i + 1).toNatClampNeg) H.size) mw_L_text md_L_text rfl lk_L_277 ⟨(Nat.le_of_ble_eq_true rfl), (Nat.le_of_ble_eq_true rfl)⟩ hA hK hT hnc B hl.1 rfl (Nat.le_of_ble_eq_true rfl) dL_law_1525 ⟨by show C + _ ≤ 757246; dsimp only [rm]; omega, by show S + _ ≤ 6824365; dsimp only [rm]; omega⟩) (by dsimp only [rm]; omega) (by dsimp only [rm]; omega) (fun r ad' f' H locs hw B => ?_)
  dsimp only at hw
  obtain ⟨rfl, hw⟩ := hw
  obtain ⟨n', v', sp', dy', la', re', B, hR'⟩ : ∃ (n' : Int64) (v' : Option Nat) (sp' dy' : Nat → TR) (la' re' : Int32), WB g A s.heap (36 + pz) ad (LW g ad n' v' sp' dy' la' kn re' cr dr th kn rf pl pz mc) H locs ∧ Rq sp' dy' la' re' cr dr rf pl pz := by
    rcases hw with ⟨hx0, -, a8, rfl⟩ | ⟨E, -, -, rfl⟩
    · exact ⟨_, _, _, _, _, _, LB_c B, hR⟩
    · exact ⟨_, _, _, _, _, _, LB_c0 B, hR⟩
  refine lv_istore (lv' := [(5, .int r), (4, .int i), (0, .ref b), (1, .ref (ad 0)), (2, .ref (ad 24)), (3, .ref (ad 23))]) hx hb dL_law_1528 hl (by decide) rfl (fun ls hl => ?_)
  refine lv_aload_n hx hb dL_law_1530 rfl (lv_at hl 4 rfl) ?_
  refine lv_aload_n hx hb dL_law_1531 rfl (lv_at hl 2 rfl) ?_
  refine lv_iload hx hb dL_law_1532 (lv_at hl 1 rfl) ?_
  refine lv_iconst (v := 1) hx hb dL_law_1534 (by decide) ?_
  refine lv_iadd hx hb dL_law_1535 ?_
  refine va_sld hx hb hXs hbl hbA B.2.2 (ix_k hi0 hiL hL (z := 1) rfl (by decide) (by decide)) dL_law_1536 ?_
  refine k_r (k := C + 13) (n := S + 338) hA B (b_V (q := 24) (rest := []) rfl X (c_X4_text l g (36 + pz) ad (yc g ad n' v' sp' dy' la' kn re') cr dr th kn rf pl pz mc (Nat.le_refl _) (ad 24) rfl (xs (i + 1).toNatClampNeg)  H.size) mw_X4_text md_X4_text rfl lk_L_279 ⟨(Nat.le_of_ble_eq_true rfl), (Nat.le_of_ble_eq_true rfl)⟩ hA hK hT B (by omega) mg_24 rfl rfl hl.1 rfl (Nat.le_of_ble_eq_true rfl) dL_law_1537 ⟨by show C + 7 + _ ≤ 757246; dsimp only [rm]; omega, by show S + 172 + _ ≤ 6824365; dsimp only [rm]; omega⟩) (by dsimp only [rm]; omega) (by dsimp only [rm]; omega) (fun r2 ad' f' H locs hw B => ?_)
  dsimp only at hw
  obtain ⟨rfl, ⟨a9, rfl⟩, rfl⟩ := hw
  have B := LB_m B (fun _ _ => rfl)
  refine lv_astore (lv' := [(6, .ref a9), (5, .int r), (4, .int i), (0, .ref b), (1, .ref (ad 0)), (2, .ref (ad 24)), (3, .ref (ad 23))]) hx hb dL_law_1540 hl (by decide) rfl (fun ls hl => ?_)
  refine lv_goto (tgt := 2441) hx hb dL_law_1542 (by decide) ?_
  refine W.widen (show C + 13 ≤ C + 1200 by omega) (show S + 338 ≤ S + 12000 by omega) ?_
  exact kk H locs ls ⟨ad, n', v', sp', dy', la', kn, re', _, _, _, _, _, _, _, hR', B, lv_sub hl [2, 3, 4, 5, 6] rfl⟩
set_option maxHeartbeats 8000000 in
theorem lc_1545 {p : Program} {l : Launch} {e : Env} {s : State} {m : MethodId} {below : List Frame} {meth : Method} {c : Code} {cw : Cond} {g : GG} {A : Nat → Prop} {b L : Nat} {xs : Nat → Int32} {C S : Nat} {Q : State → Prop} {H : Heap} {locs : List Loc} {ls : Array Slot} {i : Int32} (Y : LwC p l s m meth c cw g A b L xs) (hi0 : ¬ i < 0) (hiL : i.toInt + 5 ≤ L) (hL : L ≤ 2560) (hrC : C + 1200 ≤ 757246) (hrS : S + 12000 ≤ 6824365) (hS : LwS s g A b i H locs ls)
    (kk : ∀ (H1 : Heap) (locs1 : List Loc) (ls1 : Array Slot), LwS s g A b i H1 locs1 ls1 → W p l e room_1 s m #[.ref b] below meth c H1 locs1 (C + 1200) (S + 12000) Q (F0 m 2441 ls1 [])) : W p l e room_1 s m #[.ref b] below meth c H locs C S Q (F0 m 1545 ls []) := by
  obtain ⟨X, hfl, hK, hT, hnc, hXs, hbl, hbA, hA⟩ := Y
  obtain ⟨hx, hb, hml, hown, hts, hlocks⟩ := id X
  obtain ⟨ad, n, v, sp, dy, la, kn, re, cr, dr, th, rf, pl, pz, mc, hR, B, hl⟩ := hS
  obtain ⟨hla, hlb, hz, hdr⟩ := Rq_b hR
  refine lv_aload_n hx hb dL_law_1545 rfl (lv_at hl 2 rfl) ?_
  refine lv_aload_n hx hb dL_law_1546 rfl (lv_at hl 1 rfl) ?_
  refine lv_iload hx hb dL_law_1547 (lv_at hl 0 rfl) ?_
  refine lv_iconst (v := 1) hx hb dL_law_1549 (by decide) ?_
  refine lv_iadd hx hb dL_law_1550 ?_
  refine va_sld hx hb hXs hbl hbA B.2.2 (ix_k hi0 hiL hL (z := 1) rfl (by decide) (by decide)) dL_law_1551 ?_
  refine lv_aload_n hx hb dL_law_1552 rfl (lv_at hl 1 rfl) ?_
  refine lv_iload hx hb dL_law_1553 (lv_at hl 0 rfl) ?_
  refine lv_iconst (v := 2) hx hb dL_law_1555 (by decide) ?_
  refine lv_iadd hx hb dL_law_1556 ?_
  refine va_sld hx hb hXs hbl hbA B.2.2 (ix_k hi0 hiL hL (z := 2) rfl (by decide) (by decide)) dL_law_1557 ?_
  refine lv_aload_n hx hb dL_law_1558 rfl (lv_at hl 4 rfl) ?_
  have B : WB g A s.heap (36 + pz) ad (cf g ad (LW g ad n v sp dy la kn re cr dr th kn rf pl pz mc) sp dy la kn re) H locs := LW_c ▸ B
  refine k_i (k := C + 7) (n := S + 172) hA B (u_SW (rest := []) X (c_L_times l hfl g (36 + pz) ad (LW g ad n v sp dy la kn re cr dr th kn rf pl pz mc) sp dy la kn re n v (by omega) LW_23 hla hlb (xs (i + 1).toNatClampNeg) (xs (i + 2).toNatClampNeg) H.size) mw_L_times md_L_times rfl lk_L_280 ⟨(Nat.le_of_ble_eq_true rfl), (Nat.le_of_ble_eq_true rfl)⟩ hA hK hT hnc B hl.1 rfl (Nat.le_of_ble_eq_true rfl) dL_law_1559 ⟨by show C + _ ≤ 757246; dsimp only [rm]; omega, by show S + _ ≤ 6824365; dsimp only [rm]; omega⟩) (by dsimp only [rm]; omega) (by dsimp only [rm]; omega) (fun r ad' f' H locs hw B => ?_)
  dsimp only at hw
  obtain ⟨rfl, hw⟩ := hw
  obtain ⟨n', v', sp', dy', la', re', B, hR'⟩ : ∃ (n' : Int64) (v' : Option Nat) (sp' dy' : Nat → TR) (la' re' : Int32), WB g A s.heap (36 + pz) ad (LW g ad n' v' sp' dy' la' kn re' cr dr th kn rf pl pz mc) H locs ∧ Rq sp' dy' la' re' cr dr rf pl pz := by
    rcases hw with ⟨hx0, -, a8, rfl⟩ | ⟨E, -, -, rfl⟩
    · exact ⟨_, _, _, _, _, _, LB_c B, rl_times hR⟩
    · exact ⟨_, _, _, _, _, _, LB_c0 B, hR⟩
  refine lv_istore (lv' := [(5, .int r), (4, .int i), (0, .ref b), (1, .ref (ad 0)), (2, .ref (ad 24)), (3, .ref (ad 23))]) hx hb dL_law_1562 hl (by decide) rfl (fun ls hl => ?_)
  refine lv_aload_n hx hb dL_law_1564 rfl (lv_at hl 4 rfl) ?_
  refine lv_aload_n hx hb dL_law_1565 rfl (lv_at hl 2 rfl) ?_
  refine lv_iload hx hb dL_law_1566 (lv_at hl 1 rfl) ?_
  refine lv_iconst (v := 1) hx hb dL_law_1568 (by decide) ?_
  refine lv_iadd hx hb dL_law_1569 ?_
  refine va_sld hx hb hXs hbl hbA B.2.2 (ix_k hi0 hiL hL (z := 1) rfl (by decide) (by decide)) dL_law_1570 ?_
  refine lv_aload_n hx hb dL_law_1571 rfl (lv_at hl 2 rfl) ?_
  refine lv_iload hx hb dL_law_1572 (lv_at hl 1 rfl) ?_
  refine lv_iconst (v := 2) hx hb dL_law_1574 (by decide) ?_
  refine lv_iadd hx hb dL_law_1575 ?_
  refine va_sld hx hb hXs hbl hbA B.2.2 (ix_k hi0 hiL hL (z := 2) rfl (by decide) (by decide)) dL_law_1576 ?_
  refine k_r (k := C + 15) (n := S + 344) hA B (b_V (q := 24) (rest := []) rfl X (c_X4_times l g (36 + pz) ad (yc g ad n' v' sp' dy' la' kn re') cr dr th kn rf pl pz mc (Nat.le_refl _) (ad 24) rfl (xs (i + 1).toNatClampNeg) (xs (i + 2).toNatClampNeg)  H.size) mw_X4_times md_X4_times rfl lk_L_282 ⟨(Nat.le_of_ble_eq_true rfl), (Nat.le_of_ble_eq_true rfl)⟩ hA hK hT B (by omega) mg_24 rfl rfl hl.1 rfl (Nat.le_of_ble_eq_true rfl) dL_law_1577 ⟨by show C + 7 + _ ≤ 757246; dsimp only [rm]; omega, by show S + 172 + _ ≤ 6824365; dsimp only [rm]; omega⟩) (by dsimp only [rm]; omega) (by dsimp only [rm]; omega) (fun r2 ad' f' H locs hw B => ?_)
  dsimp only at hw
  obtain ⟨rfl, ⟨a9, rfl⟩, rfl⟩ := hw
  have B := LB_m B (fun _ _ => rfl)
  refine lv_astore (lv' := [(6, .ref a9), (5, .int r), (4, .int i), (0, .ref b), (1, .ref (ad 0)), (2, .ref (ad 24)), (3, .ref (ad 23))]) hx hb dL_law_1580 hl (by decide) rfl (fun ls hl => ?_)
  refine lv_goto (tgt := 2441) hx hb dL_law_1582 (by decide) ?_
  refine W.widen (show C + 15 ≤ C + 1200 by omega) (show S + 344 ≤ S + 12000 by omega) ?_
  exact kk H locs ls ⟨ad, n', v', sp', dy', la', kn, re', _, _, _, _, _, _, _, hR', B, lv_sub hl [2, 3, 4, 5, 6] rfl⟩
set_option maxHeartbeats 8000000 in
theorem lc_1585 {p : Program} {l : Launch} {e : Env} {s : State} {m : MethodId} {below : List Frame} {meth : Method} {c : Code} {cw : Cond} {g : GG} {A : Nat → Prop} {b L : Nat} {xs : Nat → Int32} {C S : Nat} {Q : State → Prop} {H : Heap} {locs : List Loc} {ls : Array Slot} {i : Int32} (Y : LwC p l s m meth c cw g A b L xs) (hi0 : ¬ i < 0) (hiL : i.toInt + 5 ≤ L) (hL : L ≤ 2560) (hrC : C + 1200 ≤ 757246) (hrS : S + 12000 ≤ 6824365) (hS : LwS s g A b i H locs ls)
    (kk : ∀ (H1 : Heap) (locs1 : List Loc) (ls1 : Array Slot), LwS s g A b i H1 locs1 ls1 → W p l e room_1 s m #[.ref b] below meth c H1 locs1 (C + 1200) (S + 12000) Q (F0 m 2441 ls1 [])) : W p l e room_1 s m #[.ref b] below meth c H locs C S Q (F0 m 1585 ls []) := by
  obtain ⟨X, hfl, hK, hT, hnc, hXs, hbl, hbA, hA⟩ := Y
  obtain ⟨hx, hb, hml, hown, hts, hlocks⟩ := id X
  obtain ⟨ad, n, v, sp, dy, la, kn, re, cr, dr, th, rf, pl, pz, mc, hR, B, hl⟩ := hS
  obtain ⟨hla, hlb, hz, hdr⟩ := Rq_b hR
  refine lv_aload_n hx hb dL_law_1585 rfl (lv_at hl 2 rfl) ?_
  refine lv_aload_n hx hb dL_law_1586 rfl (lv_at hl 1 rfl) ?_
  refine lv_iload hx hb dL_law_1587 (lv_at hl 0 rfl) ?_
  refine lv_iconst (v := 1) hx hb dL_law_1589 (by decide) ?_
  refine lv_iadd hx hb dL_law_1590 ?_
  refine va_sld hx hb hXs hbl hbA B.2.2 (ix_k hi0 hiL hL (z := 1) rfl (by decide) (by decide)) dL_law_1591 ?_
  refine lv_aload_n hx hb dL_law_1592 rfl (lv_at hl 1 rfl) ?_
  refine lv_iload hx hb dL_law_1593 (lv_at hl 0 rfl) ?_
  refine lv_iconst (v := 2) hx hb dL_law_1595 (by decide) ?_
  refine lv_iadd hx hb dL_law_1596 ?_
  refine va_sld hx hb hXs hbl hbA B.2.2 (ix_k hi0 hiL hL (z := 2) rfl (by decide) (by decide)) dL_law_1597 ?_
  refine lv_aload_n hx hb dL_law_1598 rfl (lv_at hl 4 rfl) ?_
  have B : WB g A s.heap (36 + pz) ad (cf g ad (LW g ad n v sp dy la kn re cr dr th kn rf pl pz mc) sp dy la kn re) H locs := LW_c ▸ B
  refine k_i (k := C + 7) (n := S + 172) hA B (u_SW (rest := []) X (c_L_added l hfl g (36 + pz) ad (LW g ad n v sp dy la kn re cr dr th kn rf pl pz mc) sp dy la kn re n v (by omega) LW_23 hla hlb (xs (i + 1).toNatClampNeg) (xs (i + 2).toNatClampNeg) H.size) mw_L_added md_L_added rfl lk_L_283 ⟨(Nat.le_of_ble_eq_true rfl), (Nat.le_of_ble_eq_true rfl)⟩ hA hK hT hnc B hl.1 rfl (Nat.le_of_ble_eq_true rfl) dL_law_1599 ⟨by show C + _ ≤ 757246; dsimp only [rm]; omega, by show S + _ ≤ 6824365; dsimp only [rm]; omega⟩) (by dsimp only [rm]; omega) (by dsimp only [rm]; omega) (fun r ad' f' H locs hw B => ?_)
  dsimp only at hw
  obtain ⟨rfl, hw⟩ := hw
  obtain ⟨n', v', sp', dy', la', re', B, hR'⟩ : ∃ (n' : Int64) (v' : Option Nat) (sp' dy' : Nat → TR) (la' re' : Int32), WB g A s.heap (36 + pz) ad (LW g ad n' v' sp' dy' la' kn re' cr dr th kn rf pl pz mc) H locs ∧ Rq sp' dy' la' re' cr dr rf pl pz := by
    rcases hw with ⟨hx0, -, a8, rfl⟩ | ⟨E, -, -, rfl⟩
    · exact ⟨_, _, _, _, _, _, LB_c B, rl_added hR⟩
    · exact ⟨_, _, _, _, _, _, LB_c0 B, hR⟩
  refine lv_istore (lv' := [(5, .int r), (4, .int i), (0, .ref b), (1, .ref (ad 0)), (2, .ref (ad 24)), (3, .ref (ad 23))]) hx hb dL_law_1602 hl (by decide) rfl (fun ls hl => ?_)
  refine lv_aload_n hx hb dL_law_1604 rfl (lv_at hl 4 rfl) ?_
  refine lv_aload_n hx hb dL_law_1605 rfl (lv_at hl 2 rfl) ?_
  refine lv_iload hx hb dL_law_1606 (lv_at hl 1 rfl) ?_
  refine lv_iconst (v := 1) hx hb dL_law_1608 (by decide) ?_
  refine lv_iadd hx hb dL_law_1609 ?_
  refine va_sld hx hb hXs hbl hbA B.2.2 (ix_k hi0 hiL hL (z := 1) rfl (by decide) (by decide)) dL_law_1610 ?_
  refine lv_aload_n hx hb dL_law_1611 rfl (lv_at hl 2 rfl) ?_
  refine lv_iload hx hb dL_law_1612 (lv_at hl 1 rfl) ?_
  refine lv_iconst (v := 2) hx hb dL_law_1614 (by decide) ?_
  refine lv_iadd hx hb dL_law_1615 ?_
  refine va_sld hx hb hXs hbl hbA B.2.2 (ix_k hi0 hiL hL (z := 2) rfl (by decide) (by decide)) dL_law_1616 ?_
  refine k_r (k := C + 24) (n := S + 371) hA B (b_V (q := 24) (rest := []) rfl X (c_X4_added l g (36 + pz) ad (yc g ad n' v' sp' dy' la' kn re') cr dr th kn rf pl pz mc (Nat.le_refl _) (ad 24) rfl (xs (i + 1).toNatClampNeg) (xs (i + 2).toNatClampNeg)  H.size) mw_X4_added md_X4_added rfl lk_L_285 ⟨(Nat.le_of_ble_eq_true rfl), (Nat.le_of_ble_eq_true rfl)⟩ hA hK hT B (by omega) mg_24 rfl rfl hl.1 rfl (Nat.le_of_ble_eq_true rfl) dL_law_1617 ⟨by show C + 7 + _ ≤ 757246; dsimp only [rm]; omega, by show S + 172 + _ ≤ 6824365; dsimp only [rm]; omega⟩) (by dsimp only [rm]; omega) (by dsimp only [rm]; omega) (fun r2 ad' f' H locs hw B => ?_)
  dsimp only at hw
  obtain ⟨rfl, ⟨a9, rfl⟩, rfl⟩ := hw
  have B := LB_m B (fun _ _ => rfl)
  refine lv_astore (lv' := [(6, .ref a9), (5, .int r), (4, .int i), (0, .ref b), (1, .ref (ad 0)), (2, .ref (ad 24)), (3, .ref (ad 23))]) hx hb dL_law_1620 hl (by decide) rfl (fun ls hl => ?_)
  refine lv_goto (tgt := 2441) hx hb dL_law_1622 (by decide) ?_
  refine W.widen (show C + 24 ≤ C + 1200 by omega) (show S + 371 ≤ S + 12000 by omega) ?_
  exact kk H locs ls ⟨ad, n', v', sp', dy', la', kn, re', _, _, _, _, _, _, _, hR', B, lv_sub hl [2, 3, 4, 5, 6] rfl⟩
set_option maxHeartbeats 8000000 in
theorem lc_1625 {p : Program} {l : Launch} {e : Env} {s : State} {m : MethodId} {below : List Frame} {meth : Method} {c : Code} {cw : Cond} {g : GG} {A : Nat → Prop} {b L : Nat} {xs : Nat → Int32} {C S : Nat} {Q : State → Prop} {H : Heap} {locs : List Loc} {ls : Array Slot} {i : Int32} (Y : LwC p l s m meth c cw g A b L xs) (hi0 : ¬ i < 0) (hiL : i.toInt + 5 ≤ L) (hL : L ≤ 2560) (hrC : C + 1200 ≤ 757246) (hrS : S + 12000 ≤ 6824365) (hS : LwS s g A b i H locs ls)
    (kk : ∀ (H1 : Heap) (locs1 : List Loc) (ls1 : Array Slot), LwS s g A b i H1 locs1 ls1 → W p l e room_1 s m #[.ref b] below meth c H1 locs1 (C + 1200) (S + 12000) Q (F0 m 2441 ls1 [])) : W p l e room_1 s m #[.ref b] below meth c H locs C S Q (F0 m 1625 ls []) := by
  obtain ⟨X, hfl, hK, hT, hnc, hXs, hbl, hbA, hA⟩ := Y
  obtain ⟨hx, hb, hml, hown, hts, hlocks⟩ := id X
  obtain ⟨ad, n, v, sp, dy, la, kn, re, cr, dr, th, rf, pl, pz, mc, hR, B, hl⟩ := hS
  obtain ⟨hla, hlb, hz, hdr⟩ := Rq_b hR
  refine lv_aload_n hx hb dL_law_1625 rfl (lv_at hl 2 rfl) ?_
  refine lv_aload_n hx hb dL_law_1626 rfl (lv_at hl 1 rfl) ?_
  refine lv_iload hx hb dL_law_1627 (lv_at hl 0 rfl) ?_
  refine lv_iconst (v := 1) hx hb dL_law_1629 (by decide) ?_
  refine lv_iadd hx hb dL_law_1630 ?_
  refine va_sld hx hb hXs hbl hbA B.2.2 (ix_k hi0 hiL hL (z := 1) rfl (by decide) (by decide)) dL_law_1631 ?_
  refine lv_aload_n hx hb dL_law_1632 rfl (lv_at hl 1 rfl) ?_
  refine lv_iload hx hb dL_law_1633 (lv_at hl 0 rfl) ?_
  refine lv_iconst (v := 2) hx hb dL_law_1635 (by decide) ?_
  refine lv_iadd hx hb dL_law_1636 ?_
  refine va_sld hx hb hXs hbl hbA B.2.2 (ix_k hi0 hiL hL (z := 2) rfl (by decide) (by decide)) dL_law_1637 ?_
  refine lv_aload_n hx hb dL_law_1638 rfl (lv_at hl 1 rfl) ?_
  refine lv_iload hx hb dL_law_1639 (lv_at hl 0 rfl) ?_
  refine lv_iconst (v := 3) hx hb dL_law_1641 (by decide) ?_
  refine lv_iadd hx hb dL_law_1642 ?_
  refine va_sld hx hb hXs hbl hbA B.2.2 (ix_k hi0 hiL hL (z := 3) rfl (by decide) (by decide)) dL_law_1643 ?_
  refine p_bool (t1 := 1651) (t2 := 1652) hx hb dL_law_1644 (by decide) (fun Y => lv_iconst (v := 1) hx hb dL_law_1647 (by decide) (lv_goto (tgt := 1652) hx hb dL_law_1648 (by decide) Y)) (fun Y => lv_iconst (v := 0) hx hb dL_law_1651 (by decide) Y) ?_
  refine lv_aload_n hx hb dL_law_1652 rfl (lv_at hl 4 rfl) ?_
  have B : WB g A s.heap (36 + pz) ad (cf g ad (LW g ad n v sp dy la kn re cr dr th kn rf pl pz mc) sp dy la kn re) H locs := LW_c ▸ B
  refine k_i (k := C + 8) (n := S + 178) hA B (u_SW (rest := []) X (c_L_with l hfl g (36 + pz) ad (LW g ad n v sp dy la kn re cr dr th kn rf pl pz mc) sp dy la kn re n v (by omega) LW_23 hla hlb (xs (i + 1).toNatClampNeg) (xs (i + 2).toNatClampNeg) (bz (xs (i + 3).toNatClampNeg)) H.size) mw_L_with md_L_with rfl lk_L_286 ⟨(Nat.le_of_ble_eq_true rfl), (Nat.le_of_ble_eq_true rfl)⟩ hA hK hT hnc B hl.1 rfl (Nat.le_of_ble_eq_true rfl) dL_law_1653 ⟨by show C + _ ≤ 757246; dsimp only [rm]; omega, by show S + _ ≤ 6824365; dsimp only [rm]; omega⟩) (by dsimp only [rm]; omega) (by dsimp only [rm]; omega) (fun r ad' f' H locs hw B => ?_)
  dsimp only at hw
  obtain ⟨rfl, hw⟩ := hw
  obtain ⟨n', v', sp', dy', la', re', B, hR'⟩ : ∃ (n' : Int64) (v' : Option Nat) (sp' dy' : Nat → TR) (la' re' : Int32), WB g A s.heap (36 + pz) ad (LW g ad n' v' sp' dy' la' kn re' cr dr th kn rf pl pz mc) H locs ∧ Rq sp' dy' la' re' cr dr rf pl pz := by
    rcases hw with ⟨hx0, -, a8, rfl⟩ | ⟨E, -, -, rfl⟩
    · exact ⟨_, _, _, _, _, _, LB_c B, rl_with hR⟩
    · exact ⟨_, _, _, _, _, _, LB_c0 B, hR⟩
  refine lv_istore (lv' := [(5, .int r), (4, .int i), (0, .ref b), (1, .ref (ad 0)), (2, .ref (ad 24)), (3, .ref (ad 23))]) hx hb dL_law_1656 hl (by decide) rfl (fun ls hl => ?_)
  refine lv_aload_n hx hb dL_law_1658 rfl (lv_at hl 4 rfl) ?_
  refine lv_aload_n hx hb dL_law_1659 rfl (lv_at hl 2 rfl) ?_
  refine lv_iload hx hb dL_law_1660 (lv_at hl 1 rfl) ?_
  refine lv_iconst (v := 1) hx hb dL_law_1662 (by decide) ?_
  refine lv_iadd hx hb dL_law_1663 ?_
  refine va_sld hx hb hXs hbl hbA B.2.2 (ix_k hi0 hiL hL (z := 1) rfl (by decide) (by decide)) dL_law_1664 ?_
  refine lv_aload_n hx hb dL_law_1665 rfl (lv_at hl 2 rfl) ?_
  refine lv_iload hx hb dL_law_1666 (lv_at hl 1 rfl) ?_
  refine lv_iconst (v := 2) hx hb dL_law_1668 (by decide) ?_
  refine lv_iadd hx hb dL_law_1669 ?_
  refine va_sld hx hb hXs hbl hbA B.2.2 (ix_k hi0 hiL hL (z := 2) rfl (by decide) (by decide)) dL_law_1670 ?_
  refine lv_aload_n hx hb dL_law_1671 rfl (lv_at hl 2 rfl) ?_
  refine lv_iload hx hb dL_law_1672 (lv_at hl 1 rfl) ?_
  refine lv_iconst (v := 3) hx hb dL_law_1674 (by decide) ?_
  refine lv_iadd hx hb dL_law_1675 ?_
  refine va_sld hx hb hXs hbl hbA B.2.2 (ix_k hi0 hiL hL (z := 3) rfl (by decide) (by decide)) dL_law_1676 ?_
  refine p_bool (t1 := 1684) (t2 := 1685) hx hb dL_law_1677 (by decide) (fun Y => lv_iconst (v := 1) hx hb dL_law_1680 (by decide) (lv_goto (tgt := 1685) hx hb dL_law_1681 (by decide) Y)) (fun Y => lv_iconst (v := 0) hx hb dL_law_1684 (by decide) Y) ?_
  refine k_r (k := C + 15) (n := S + 347) hA B (b_V (q := 24) (rest := []) rfl X (c_X4_with l g (36 + pz) ad (yc g ad n' v' sp' dy' la' kn re') cr dr th kn rf pl pz mc (Nat.le_refl _) (ad 24) rfl (xs (i + 1).toNatClampNeg) (xs (i + 2).toNatClampNeg) (bz (xs (i + 3).toNatClampNeg))  H.size) mw_X4_with md_X4_with rfl lk_L_288 ⟨(Nat.le_of_ble_eq_true rfl), (Nat.le_of_ble_eq_true rfl)⟩ hA hK hT B (by omega) mg_24 rfl rfl hl.1 rfl (Nat.le_of_ble_eq_true rfl) dL_law_1685 ⟨by show C + 8 + _ ≤ 757246; dsimp only [rm]; omega, by show S + 178 + _ ≤ 6824365; dsimp only [rm]; omega⟩) (by dsimp only [rm]; omega) (by dsimp only [rm]; omega) (fun r2 ad' f' H locs hw B => ?_)
  dsimp only at hw
  obtain ⟨rfl, ⟨a9, rfl⟩, rfl⟩ := hw
  have B := LB_m B (fun _ _ => rfl)
  refine lv_astore (lv' := [(6, .ref a9), (5, .int r), (4, .int i), (0, .ref b), (1, .ref (ad 0)), (2, .ref (ad 24)), (3, .ref (ad 23))]) hx hb dL_law_1688 hl (by decide) rfl (fun ls hl => ?_)
  refine lv_goto (tgt := 2441) hx hb dL_law_1690 (by decide) ?_
  refine W.widen (show C + 15 ≤ C + 1200 by omega) (show S + 347 ≤ S + 12000 by omega) ?_
  exact kk H locs ls ⟨ad, n', v', sp', dy', la', kn, re', _, _, _, _, _, _, _, hR', B, lv_sub hl [2, 3, 4, 5, 6] rfl⟩
set_option maxHeartbeats 8000000 in
theorem lc_1693 {p : Program} {l : Launch} {e : Env} {s : State} {m : MethodId} {below : List Frame} {meth : Method} {c : Code} {cw : Cond} {g : GG} {A : Nat → Prop} {b L : Nat} {xs : Nat → Int32} {C S : Nat} {Q : State → Prop} {H : Heap} {locs : List Loc} {ls : Array Slot} {i : Int32} (Y : LwC p l s m meth c cw g A b L xs) (hi0 : ¬ i < 0) (hiL : i.toInt + 5 ≤ L) (hL : L ≤ 2560) (hrC : C + 1200 ≤ 757246) (hrS : S + 12000 ≤ 6824365) (hS : LwS s g A b i H locs ls)
    (kk : ∀ (H1 : Heap) (locs1 : List Loc) (ls1 : Array Slot), LwS s g A b i H1 locs1 ls1 → W p l e room_1 s m #[.ref b] below meth c H1 locs1 (C + 1200) (S + 12000) Q (F0 m 2441 ls1 [])) : W p l e room_1 s m #[.ref b] below meth c H locs C S Q (F0 m 1693 ls []) := by
  obtain ⟨X, hfl, hK, hT, hnc, hXs, hbl, hbA, hA⟩ := Y
  obtain ⟨hx, hb, hml, hown, hts, hlocks⟩ := id X
  obtain ⟨ad, n, v, sp, dy, la, kn, re, cr, dr, th, rf, pl, pz, mc, hR, B, hl⟩ := hS
  obtain ⟨hla, hlb, hz, hdr⟩ := Rq_b hR
  refine lv_aload_n hx hb dL_law_1693 rfl (lv_at hl 2 rfl) ?_
  refine lv_aload_n hx hb dL_law_1694 rfl (lv_at hl 1 rfl) ?_
  refine lv_iload hx hb dL_law_1695 (lv_at hl 0 rfl) ?_
  refine lv_iconst (v := 1) hx hb dL_law_1697 (by decide) ?_
  refine lv_iadd hx hb dL_law_1698 ?_
  refine va_sld hx hb hXs hbl hbA B.2.2 (ix_k hi0 hiL hL (z := 1) rfl (by decide) (by decide)) dL_law_1699 ?_
  refine lv_aload_n hx hb dL_law_1700 rfl (lv_at hl 4 rfl) ?_
  have B : WB g A s.heap (36 + pz) ad (cf g ad (LW g ad n v sp dy la kn re cr dr th kn rf pl pz mc) sp dy la kn re) H locs := LW_c ▸ B
  refine k_i (k := C + 7) (n := S + 172) hA B (u_SW (rest := []) X (c_L_tidy l hfl g (36 + pz) ad (LW g ad n v sp dy la kn re cr dr th kn rf pl pz mc) sp dy la kn re n v (by omega) LW_23 hla hlb (xs (i + 1).toNatClampNeg) H.size) mw_L_tidy md_L_tidy rfl lk_L_289 ⟨(Nat.le_of_ble_eq_true rfl), (Nat.le_of_ble_eq_true rfl)⟩ hA hK hT hnc B hl.1 rfl (Nat.le_of_ble_eq_true rfl) dL_law_1701 ⟨by show C + _ ≤ 757246; dsimp only [rm]; omega, by show S + _ ≤ 6824365; dsimp only [rm]; omega⟩) (by dsimp only [rm]; omega) (by dsimp only [rm]; omega) (fun r ad' f' H locs hw B => ?_)
  dsimp only at hw
  obtain ⟨rfl, hw⟩ := hw
  obtain ⟨n', v', sp', dy', la', re', B, hR'⟩ : ∃ (n' : Int64) (v' : Option Nat) (sp' dy' : Nat → TR) (la' re' : Int32), WB g A s.heap (36 + pz) ad (LW g ad n' v' sp' dy' la' kn re' cr dr th kn rf pl pz mc) H locs ∧ Rq sp' dy' la' re' cr dr rf pl pz := by
    rcases hw with ⟨hx0, -, a8, rfl⟩ | ⟨E, -, -, rfl⟩
    · exact ⟨_, _, _, _, _, _, LB_c B, rl_tidy hR⟩
    · exact ⟨_, _, _, _, _, _, LB_c0 B, hR⟩
  refine lv_istore (lv' := [(5, .int r), (4, .int i), (0, .ref b), (1, .ref (ad 0)), (2, .ref (ad 24)), (3, .ref (ad 23))]) hx hb dL_law_1704 hl (by decide) rfl (fun ls hl => ?_)
  refine lv_aload_n hx hb dL_law_1706 rfl (lv_at hl 4 rfl) ?_
  refine lv_aload_n hx hb dL_law_1707 rfl (lv_at hl 2 rfl) ?_
  refine lv_iload hx hb dL_law_1708 (lv_at hl 1 rfl) ?_
  refine lv_iconst (v := 1) hx hb dL_law_1710 (by decide) ?_
  refine lv_iadd hx hb dL_law_1711 ?_
  refine va_sld hx hb hXs hbl hbA B.2.2 (ix_k hi0 hiL hL (z := 1) rfl (by decide) (by decide)) dL_law_1712 ?_
  refine k_r (k := C + 14) (n := S + 341) hA B (b_V (q := 24) (rest := []) rfl X (c_X4_tidy l g (36 + pz) ad (yc g ad n' v' sp' dy' la' kn re') cr dr th kn rf pl pz mc (Nat.le_refl _) (ad 24) rfl (xs (i + 1).toNatClampNeg)  H.size) mw_X4_tidy md_X4_tidy rfl lk_L_291 ⟨(Nat.le_of_ble_eq_true rfl), (Nat.le_of_ble_eq_true rfl)⟩ hA hK hT B (by omega) mg_24 rfl rfl hl.1 rfl (Nat.le_of_ble_eq_true rfl) dL_law_1713 ⟨by show C + 7 + _ ≤ 757246; dsimp only [rm]; omega, by show S + 172 + _ ≤ 6824365; dsimp only [rm]; omega⟩) (by dsimp only [rm]; omega) (by dsimp only [rm]; omega) (fun r2 ad' f' H locs hw B => ?_)
  dsimp only at hw
  obtain ⟨rfl, ⟨a9, rfl⟩, rfl⟩ := hw
  have B := LB_m B (fun _ _ => rfl)
  refine lv_astore (lv' := [(6, .ref a9), (5, .int r), (4, .int i), (0, .ref b), (1, .ref (ad 0)), (2, .ref (ad 24)), (3, .ref (ad 23))]) hx hb dL_law_1716 hl (by decide) rfl (fun ls hl => ?_)
  refine lv_goto (tgt := 2441) hx hb dL_law_1718 (by decide) ?_
  refine W.widen (show C + 14 ≤ C + 1200 by omega) (show S + 341 ≤ S + 12000 by omega) ?_
  exact kk H locs ls ⟨ad, n', v', sp', dy', la', kn, re', _, _, _, _, _, _, _, hR', B, lv_sub hl [2, 3, 4, 5, 6] rfl⟩
set_option maxHeartbeats 8000000 in
theorem lc_1721 {p : Program} {l : Launch} {e : Env} {s : State} {m : MethodId} {below : List Frame} {meth : Method} {c : Code} {cw : Cond} {g : GG} {A : Nat → Prop} {b L : Nat} {xs : Nat → Int32} {C S : Nat} {Q : State → Prop} {H : Heap} {locs : List Loc} {ls : Array Slot} {i : Int32} (Y : LwC p l s m meth c cw g A b L xs) (hi0 : ¬ i < 0) (hiL : i.toInt + 5 ≤ L) (hL : L ≤ 2560) (hrC : C + 1200 ≤ 757246) (hrS : S + 12000 ≤ 6824365) (hS : LwS s g A b i H locs ls)
    (kk : ∀ (H1 : Heap) (locs1 : List Loc) (ls1 : Array Slot), LwS s g A b i H1 locs1 ls1 → W p l e room_1 s m #[.ref b] below meth c H1 locs1 (C + 1200) (S + 12000) Q (F0 m 2441 ls1 [])) : W p l e room_1 s m #[.ref b] below meth c H locs C S Q (F0 m 1721 ls []) := by
  obtain ⟨X, hfl, hK, hT, hnc, hXs, hbl, hbA, hA⟩ := Y
  obtain ⟨hx, hb, hml, hown, hts, hlocks⟩ := id X
  obtain ⟨ad, n, v, sp, dy, la, kn, re, cr, dr, th, rf, pl, pz, mc, hR, B, hl⟩ := hS
  obtain ⟨hla, hlb, hz, hdr⟩ := Rq_b hR
  refine lv_aload_n hx hb dL_law_1721 rfl (lv_at hl 2 rfl) ?_
  refine lv_aload_n hx hb dL_law_1722 rfl (lv_at hl 1 rfl) ?_
  refine lv_iload hx hb dL_law_1723 (lv_at hl 0 rfl) ?_
  refine lv_iconst (v := 1) hx hb dL_law_1725 (by decide) ?_
  refine lv_iadd hx hb dL_law_1726 ?_
  refine va_sld hx hb hXs hbl hbA B.2.2 (ix_k hi0 hiL hL (z := 1) rfl (by decide) (by decide)) dL_law_1727 ?_
  refine lv_aload_n hx hb dL_law_1728 rfl (lv_at hl 4 rfl) ?_
  have B : WB g A s.heap (36 + pz) ad (cf g ad (LW g ad n v sp dy la kn re cr dr th kn rf pl pz mc) sp dy la kn re) H locs := LW_c ▸ B
  refine k_i (k := C + 7) (n := S + 172) hA B (u_SW (rest := []) X (c_L_opposite l hfl g (36 + pz) ad (LW g ad n v sp dy la kn re cr dr th kn rf pl pz mc) sp dy la kn re n v (by omega) LW_23 hla hlb (xs (i + 1).toNatClampNeg) H.size) mw_L_opposite md_L_opposite rfl lk_L_292 ⟨(Nat.le_of_ble_eq_true rfl), (Nat.le_of_ble_eq_true rfl)⟩ hA hK hT hnc B hl.1 rfl (Nat.le_of_ble_eq_true rfl) dL_law_1729 ⟨by show C + _ ≤ 757246; dsimp only [rm]; omega, by show S + _ ≤ 6824365; dsimp only [rm]; omega⟩) (by dsimp only [rm]; omega) (by dsimp only [rm]; omega) (fun r ad' f' H locs hw B => ?_)
  dsimp only at hw
  obtain ⟨rfl, hw⟩ := hw
  obtain ⟨n', v', sp', dy', la', re', B, hR'⟩ : ∃ (n' : Int64) (v' : Option Nat) (sp' dy' : Nat → TR) (la' re' : Int32), WB g A s.heap (36 + pz) ad (LW g ad n' v' sp' dy' la' kn re' cr dr th kn rf pl pz mc) H locs ∧ Rq sp' dy' la' re' cr dr rf pl pz := by
    rcases hw with ⟨hx0, -, a8, rfl⟩ | ⟨E, -, -, rfl⟩
    · exact ⟨_, _, _, _, _, _, LB_c B, rl_opposite hR⟩
    · exact ⟨_, _, _, _, _, _, LB_c0 B, hR⟩
  refine lv_istore (lv' := [(5, .int r), (4, .int i), (0, .ref b), (1, .ref (ad 0)), (2, .ref (ad 24)), (3, .ref (ad 23))]) hx hb dL_law_1732 hl (by decide) rfl (fun ls hl => ?_)
  refine lv_aload_n hx hb dL_law_1734 rfl (lv_at hl 4 rfl) ?_
  refine lv_aload_n hx hb dL_law_1735 rfl (lv_at hl 2 rfl) ?_
  refine lv_iload hx hb dL_law_1736 (lv_at hl 1 rfl) ?_
  refine lv_iconst (v := 1) hx hb dL_law_1738 (by decide) ?_
  refine lv_iadd hx hb dL_law_1739 ?_
  refine va_sld hx hb hXs hbl hbA B.2.2 (ix_k hi0 hiL hL (z := 1) rfl (by decide) (by decide)) dL_law_1740 ?_
  refine k_r (k := C + 15) (n := S + 344) hA B (b_V (q := 24) (rest := []) rfl X (c_X4_opposite l g (36 + pz) ad (yc g ad n' v' sp' dy' la' kn re') cr dr th kn rf pl pz mc (Nat.le_refl _) (ad 24) rfl (xs (i + 1).toNatClampNeg)  H.size) mw_X4_opposite md_X4_opposite rfl lk_L_294 ⟨(Nat.le_of_ble_eq_true rfl), (Nat.le_of_ble_eq_true rfl)⟩ hA hK hT B (by omega) mg_24 rfl rfl hl.1 rfl (Nat.le_of_ble_eq_true rfl) dL_law_1741 ⟨by show C + 7 + _ ≤ 757246; dsimp only [rm]; omega, by show S + 172 + _ ≤ 6824365; dsimp only [rm]; omega⟩) (by dsimp only [rm]; omega) (by dsimp only [rm]; omega) (fun r2 ad' f' H locs hw B => ?_)
  dsimp only at hw
  obtain ⟨rfl, ⟨a9, rfl⟩, rfl⟩ := hw
  have B := LB_m B (fun _ _ => rfl)
  refine lv_astore (lv' := [(6, .ref a9), (5, .int r), (4, .int i), (0, .ref b), (1, .ref (ad 0)), (2, .ref (ad 24)), (3, .ref (ad 23))]) hx hb dL_law_1744 hl (by decide) rfl (fun ls hl => ?_)
  refine lv_goto (tgt := 2441) hx hb dL_law_1746 (by decide) ?_
  refine W.widen (show C + 15 ≤ C + 1200 by omega) (show S + 344 ≤ S + 12000 by omega) ?_
  exact kk H locs ls ⟨ad, n', v', sp', dy', la', kn, re', _, _, _, _, _, _, _, hR', B, lv_sub hl [2, 3, 4, 5, 6] rfl⟩
set_option maxHeartbeats 8000000 in
theorem lc_1749 {p : Program} {l : Launch} {e : Env} {s : State} {m : MethodId} {below : List Frame} {meth : Method} {c : Code} {cw : Cond} {g : GG} {A : Nat → Prop} {b L : Nat} {xs : Nat → Int32} {C S : Nat} {Q : State → Prop} {H : Heap} {locs : List Loc} {ls : Array Slot} {i : Int32} (Y : LwC p l s m meth c cw g A b L xs) (hi0 : ¬ i < 0) (hiL : i.toInt + 5 ≤ L) (hL : L ≤ 2560) (hrC : C + 1200 ≤ 757246) (hrS : S + 12000 ≤ 6824365) (hS : LwS s g A b i H locs ls)
    (kk : ∀ (H1 : Heap) (locs1 : List Loc) (ls1 : Array Slot), LwS s g A b i H1 locs1 ls1 → W p l e room_1 s m #[.ref b] below meth c H1 locs1 (C + 1200) (S + 12000) Q (F0 m 2441 ls1 [])) : W p l e room_1 s m #[.ref b] below meth c H locs C S Q (F0 m 1749 ls []) := by
  obtain ⟨X, hfl, hK, hT, hnc, hXs, hbl, hbA, hA⟩ := Y
  obtain ⟨hx, hb, hml, hown, hts, hlocks⟩ := id X
  obtain ⟨ad, n, v, sp, dy, la, kn, re, cr, dr, th, rf, pl, pz, mc, hR, B, hl⟩ := hS
  obtain ⟨hla, hlb, hz, hdr⟩ := Rq_b hR
  refine lv_aload_n hx hb dL_law_1749 rfl (lv_at hl 2 rfl) ?_
  refine lv_aload_n hx hb dL_law_1750 rfl (lv_at hl 1 rfl) ?_
  refine lv_iload hx hb dL_law_1751 (lv_at hl 0 rfl) ?_
  refine lv_iconst (v := 1) hx hb dL_law_1753 (by decide) ?_
  refine lv_iadd hx hb dL_law_1754 ?_
  refine va_sld hx hb hXs hbl hbA B.2.2 (ix_k hi0 hiL hL (z := 1) rfl (by decide) (by decide)) dL_law_1755 ?_
  refine lv_aload_n hx hb dL_law_1756 rfl (lv_at hl 1 rfl) ?_
  refine lv_iload hx hb dL_law_1757 (lv_at hl 0 rfl) ?_
  refine lv_iconst (v := 2) hx hb dL_law_1759 (by decide) ?_
  refine lv_iadd hx hb dL_law_1760 ?_
  refine va_sld hx hb hXs hbl hbA B.2.2 (ix_k hi0 hiL hL (z := 2) rfl (by decide) (by decide)) dL_law_1761 ?_
  refine lv_aload_n hx hb dL_law_1762 rfl (lv_at hl 1 rfl) ?_
  refine lv_iload hx hb dL_law_1763 (lv_at hl 0 rfl) ?_
  refine lv_iconst (v := 3) hx hb dL_law_1765 (by decide) ?_
  refine lv_iadd hx hb dL_law_1766 ?_
  refine va_sld hx hb hXs hbl hbA B.2.2 (ix_k hi0 hiL hL (z := 3) rfl (by decide) (by decide)) dL_law_1767 ?_
  refine lv_aload_n hx hb dL_law_1768 rfl (lv_at hl 1 rfl) ?_
  refine lv_iload hx hb dL_law_1769 (lv_at hl 0 rfl) ?_
  refine lv_iconst (v := 4) hx hb dL_law_1771 (by decide) ?_
  refine lv_iadd hx hb dL_law_1772 ?_
  refine va_sld hx hb hXs hbl hbA B.2.2 (ix_k hi0 hiL hL (z := 4) rfl (by decide) (by decide)) dL_law_1773 ?_
  refine lv_aload_n hx hb dL_law_1774 rfl (lv_at hl 4 rfl) ?_
  have B : WB g A s.heap (36 + pz) ad (cf g ad (LW g ad n v sp dy la kn re cr dr th kn rf pl pz mc) sp dy la kn re) H locs := LW_c ▸ B
  refine k_i (k := C + 2) (n := S + 12) hA B (u_SW (rest := []) X (c_L_date l hfl g (36 + pz) ad (LW g ad n v sp dy la kn re cr dr th kn rf pl pz mc) sp dy la kn re n v (by omega) LW_23 hla hlb (xs (i + 1).toNatClampNeg) (xs (i + 2).toNatClampNeg) (xs (i + 3).toNatClampNeg) (xs (i + 4).toNatClampNeg) H.size) mw_L_date md_L_date rfl lk_L_295 ⟨(Nat.le_of_ble_eq_true rfl), (Nat.le_of_ble_eq_true rfl)⟩ hA hK hT hnc B hl.1 rfl (Nat.le_of_ble_eq_true rfl) dL_law_1775 ⟨by show C + _ ≤ 757246; dsimp only [rm]; omega, by show S + _ ≤ 6824365; dsimp only [rm]; omega⟩) (by dsimp only [rm]; omega) (by dsimp only [rm]; omega) (fun r ad' f' H locs hw B => ?_)
  dsimp only at hw
  obtain ⟨rfl, hw⟩ := hw
  obtain ⟨n', v', sp', dy', la', re', B, hr, hv, hR'⟩ : ∃ (n' : Int64) (v' : Option Nat) (sp' dy' : Nat → TR) (la' re' : Int32), WB g A s.heap (36 + pz) ad (LW g ad n' v' sp' dy' la' kn re' cr dr th kn rf pl pz mc) H locs ∧ r = (v_X4_date dr (xs (i + 1).toNatClampNeg) (xs (i + 2).toNatClampNeg) (xs (i + 3).toNatClampNeg) (xs (i + 4).toNatClampNeg)).2.2 ∧ (r = 0 → n' = ((v_X4_date dr (xs (i + 1).toNatClampNeg) (xs (i + 2).toNatClampNeg) (xs (i + 3).toNatClampNeg) (xs (i + 4).toNatClampNeg)).1).toInt64) ∧ Rq sp' dy' la' re' cr (v_X4_date dr (xs (i + 1).toNatClampNeg) (xs (i + 2).toNatClampNeg) (xs (i + 3).toNatClampNeg) (xs (i + 4).toNatClampNeg)).2.1 rf pl (pz) := by
    have h := rl_date (a1 := xs (i + 1).toNatClampNeg) (a2 := xs (i + 2).toNatClampNeg) (a3 := xs (i + 3).toNatClampNeg) (a4 := xs (i + 4).toNatClampNeg) hR
    rcases hw with ⟨hx0, rfl, rfl⟩ | ⟨E, hxE, rfl, rfl⟩
    · have h := h.1 hx0
      exact ⟨_, _, _, _, _, _, LB_c B, h.1.symm, fun _ => by rw [h.2.1], h.2.2⟩
    · have h := h.2 E hxE
      exact ⟨_, _, _, _, _, _, LB_c0 B, h.1.symm, fun q => absurd q (xcd_0 E), h.2⟩
  refine lv_istore (lv' := [(5, .int r), (4, .int i), (0, .ref b), (1, .ref (ad 0)), (2, .ref (ad 24)), (3, .ref (ad 23))]) hx hb dL_law_1778 hl (by decide) rfl (fun ls hl => ?_)
  refine lv_aload_n hx hb dL_law_1780 rfl (lv_at hl 4 rfl) ?_
  refine lv_aload_n hx hb dL_law_1781 rfl (lv_at hl 2 rfl) ?_
  refine lv_iload hx hb dL_law_1782 (lv_at hl 1 rfl) ?_
  refine lv_iconst (v := 1) hx hb dL_law_1784 (by decide) ?_
  refine lv_iadd hx hb dL_law_1785 ?_
  refine va_sld hx hb hXs hbl hbA B.2.2 (ix_k hi0 hiL hL (z := 1) rfl (by decide) (by decide)) dL_law_1786 ?_
  refine lv_aload_n hx hb dL_law_1787 rfl (lv_at hl 2 rfl) ?_
  refine lv_iload hx hb dL_law_1788 (lv_at hl 1 rfl) ?_
  refine lv_iconst (v := 2) hx hb dL_law_1790 (by decide) ?_
  refine lv_iadd hx hb dL_law_1791 ?_
  refine va_sld hx hb hXs hbl hbA B.2.2 (ix_k hi0 hiL hL (z := 2) rfl (by decide) (by decide)) dL_law_1792 ?_
  refine lv_aload_n hx hb dL_law_1793 rfl (lv_at hl 2 rfl) ?_
  refine lv_iload hx hb dL_law_1794 (lv_at hl 1 rfl) ?_
  refine lv_iconst (v := 3) hx hb dL_law_1796 (by decide) ?_
  refine lv_iadd hx hb dL_law_1797 ?_
  refine va_sld hx hb hXs hbl hbA B.2.2 (ix_k hi0 hiL hL (z := 3) rfl (by decide) (by decide)) dL_law_1798 ?_
  refine lv_aload_n hx hb dL_law_1799 rfl (lv_at hl 2 rfl) ?_
  refine lv_iload hx hb dL_law_1800 (lv_at hl 1 rfl) ?_
  refine lv_iconst (v := 4) hx hb dL_law_1802 (by decide) ?_
  refine lv_iadd hx hb dL_law_1803 ?_
  refine va_sld hx hb hXs hbl hbA B.2.2 (ix_k hi0 hiL hL (z := 4) rfl (by decide) (by decide)) dL_law_1804 ?_
  refine k_i (k := C + 4) (n := S + 18) hA B (b_V (q := 24) (rest := []) rfl X (c_X4_date l g (36 + pz) ad (yc g ad n' v' sp' dy' la' kn re') cr dr th kn rf pl pz mc (Nat.le_refl _) (ad 24) rfl (xs (i + 1).toNatClampNeg) (xs (i + 2).toNatClampNeg) (xs (i + 3).toNatClampNeg) (xs (i + 4).toNatClampNeg) hdr H.size) mw_X4_date md_X4_date rfl lk_L_297 ⟨(Nat.le_of_ble_eq_true rfl), (Nat.le_of_ble_eq_true rfl)⟩ hA hK hT B (by omega) mg_24 rfl rfl hl.1 rfl (Nat.le_of_ble_eq_true rfl) dL_law_1805 ⟨by show C + 2 + _ ≤ 757246; dsimp only [rm]; omega, by show S + 12 + _ ≤ 6824365; dsimp only [rm]; omega⟩) (by dsimp only [rm]; omega) (by dsimp only [rm]; omega) (fun r2 ad' f' H locs hw B => ?_)
  dsimp only at hw
  obtain ⟨had, hr2, rfl⟩ := hw
  have had : ∀ k, k < 28 → ad' k = ad k := fun k hk => had k (by omega) (Or.inl hk)
  have B := LB_m B had
  have hl : lv_has ls 7 [(5, .int r), (4, .int i), (0, .ref b), (1, .ref (ad' 0)), (2, .ref (ad' 24)), (3, .ref (ad' 23))] := by rw [had 0 (by omega), had 24 (by omega), had 23 (by omega)]; exact hl
  refine lv_istore (lv' := [(6, .int r2), (5, .int r), (4, .int i), (0, .ref b), (1, .ref (ad' 0)), (2, .ref (ad' 24)), (3, .ref (ad' 23))]) hx hb dL_law_1808 hl (by decide) rfl (fun ls hl => ?_)
  refine lv_goto (tgt := 2441) hx hb dL_law_1810 (by decide) ?_
  refine W.widen (show C + 4 ≤ C + 1200 by omega) (show S + 18 ≤ S + 12000 by omega) ?_
  exact kk H locs ls ⟨ad', n', v', sp', dy', la', kn, re', _, _, _, _, _, _, _, hR', B, lv_sub hl [2, 3, 4, 5, 6] rfl⟩
set_option maxHeartbeats 8000000 in
theorem lc_1813 {p : Program} {l : Launch} {e : Env} {s : State} {m : MethodId} {below : List Frame} {meth : Method} {c : Code} {cw : Cond} {g : GG} {A : Nat → Prop} {b L : Nat} {xs : Nat → Int32} {C S : Nat} {Q : State → Prop} {H : Heap} {locs : List Loc} {ls : Array Slot} {i : Int32} (Y : LwC p l s m meth c cw g A b L xs) (hi0 : ¬ i < 0) (hiL : i.toInt + 5 ≤ L) (hL : L ≤ 2560) (hrC : C + 1200 ≤ 757246) (hrS : S + 12000 ≤ 6824365) (hS : LwS s g A b i H locs ls)
    (kk : ∀ (H1 : Heap) (locs1 : List Loc) (ls1 : Array Slot), LwS s g A b i H1 locs1 ls1 → W p l e room_1 s m #[.ref b] below meth c H1 locs1 (C + 1200) (S + 12000) Q (F0 m 2441 ls1 [])) : W p l e room_1 s m #[.ref b] below meth c H locs C S Q (F0 m 1813 ls []) := by
  obtain ⟨X, hfl, hK, hT, hnc, hXs, hbl, hbA, hA⟩ := Y
  obtain ⟨hx, hb, hml, hown, hts, hlocks⟩ := id X
  obtain ⟨ad, n, v, sp, dy, la, kn, re, cr, dr, th, rf, pl, pz, mc, hR, B, hl⟩ := hS
  obtain ⟨hla, hlb, hz, hdr⟩ := Rq_b hR
  refine lv_aload_n hx hb dL_law_1813 rfl (lv_at hl 2 rfl) ?_
  refine lv_aload_n hx hb dL_law_1814 rfl (lv_at hl 1 rfl) ?_
  refine lv_iload hx hb dL_law_1815 (lv_at hl 0 rfl) ?_
  refine lv_iconst (v := 1) hx hb dL_law_1817 (by decide) ?_
  refine lv_iadd hx hb dL_law_1818 ?_
  refine va_sld hx hb hXs hbl hbA B.2.2 (ix_k hi0 hiL hL (z := 1) rfl (by decide) (by decide)) dL_law_1819 ?_
  refine lv_aload_n hx hb dL_law_1820 rfl (lv_at hl 1 rfl) ?_
  refine lv_iload hx hb dL_law_1821 (lv_at hl 0 rfl) ?_
  refine lv_iconst (v := 2) hx hb dL_law_1823 (by decide) ?_
  refine lv_iadd hx hb dL_law_1824 ?_
  refine va_sld hx hb hXs hbl hbA B.2.2 (ix_k hi0 hiL hL (z := 2) rfl (by decide) (by decide)) dL_law_1825 ?_
  refine lv_aload_n hx hb dL_law_1826 rfl (lv_at hl 4 rfl) ?_
  have B : WB g A s.heap (36 + pz) ad (cf g ad (LW g ad n v sp dy la kn re cr dr th kn rf pl pz mc) sp dy la kn re) H locs := LW_c ▸ B
  refine k_i (k := C + 2) (n := S + 12) hA B (u_SW (rest := []) X (c_L_copyDate l hfl g (36 + pz) ad (LW g ad n v sp dy la kn re cr dr th kn rf pl pz mc) sp dy la kn re n v (by omega) LW_23 hla hlb (xs (i + 1).toNatClampNeg) (xs (i + 2).toNatClampNeg) H.size) mw_L_copyDate md_L_copyDate rfl lk_L_298 ⟨(Nat.le_of_ble_eq_true rfl), (Nat.le_of_ble_eq_true rfl)⟩ hA hK hT hnc B hl.1 rfl (Nat.le_of_ble_eq_true rfl) dL_law_1827 ⟨by show C + _ ≤ 757246; dsimp only [rm]; omega, by show S + _ ≤ 6824365; dsimp only [rm]; omega⟩) (by dsimp only [rm]; omega) (by dsimp only [rm]; omega) (fun r ad' f' H locs hw B => ?_)
  dsimp only at hw
  obtain ⟨rfl, hw⟩ := hw
  obtain ⟨n', v', sp', dy', la', re', B, hr, hv, hR'⟩ : ∃ (n' : Int64) (v' : Option Nat) (sp' dy' : Nat → TR) (la' re' : Int32), WB g A s.heap (36 + pz) ad (LW g ad n' v' sp' dy' la' kn re' cr dr th kn rf pl pz mc) H locs ∧ r = (v_X4_copyDate dr (xs (i + 1).toNatClampNeg) (xs (i + 2).toNatClampNeg)).2.2 ∧ (r = 0 → n' = ((v_X4_copyDate dr (xs (i + 1).toNatClampNeg) (xs (i + 2).toNatClampNeg)).1).toInt64) ∧ Rq sp' dy' la' re' cr (v_X4_copyDate dr (xs (i + 1).toNatClampNeg) (xs (i + 2).toNatClampNeg)).2.1 rf pl (pz) := by
    have h := rl_copyDate (a1 := xs (i + 1).toNatClampNeg) (a2 := xs (i + 2).toNatClampNeg) hR
    rcases hw with ⟨hx0, rfl, rfl⟩ | ⟨E, hxE, rfl, rfl⟩
    · have h := h.1 hx0
      exact ⟨_, _, _, _, _, _, LB_c B, h.1.symm, fun _ => by rw [h.2.1], h.2.2⟩
    · have h := h.2 E hxE
      exact ⟨_, _, _, _, _, _, LB_c0 B, h.1.symm, fun q => absurd q (xcd_0 E), h.2⟩
  refine lv_istore (lv' := [(5, .int r), (4, .int i), (0, .ref b), (1, .ref (ad 0)), (2, .ref (ad 24)), (3, .ref (ad 23))]) hx hb dL_law_1830 hl (by decide) rfl (fun ls hl => ?_)
  refine lv_aload_n hx hb dL_law_1832 rfl (lv_at hl 4 rfl) ?_
  refine lv_aload_n hx hb dL_law_1833 rfl (lv_at hl 2 rfl) ?_
  refine lv_iload hx hb dL_law_1834 (lv_at hl 1 rfl) ?_
  refine lv_iconst (v := 1) hx hb dL_law_1836 (by decide) ?_
  refine lv_iadd hx hb dL_law_1837 ?_
  refine va_sld hx hb hXs hbl hbA B.2.2 (ix_k hi0 hiL hL (z := 1) rfl (by decide) (by decide)) dL_law_1838 ?_
  refine lv_aload_n hx hb dL_law_1839 rfl (lv_at hl 2 rfl) ?_
  refine lv_iload hx hb dL_law_1840 (lv_at hl 1 rfl) ?_
  refine lv_iconst (v := 2) hx hb dL_law_1842 (by decide) ?_
  refine lv_iadd hx hb dL_law_1843 ?_
  refine va_sld hx hb hXs hbl hbA B.2.2 (ix_k hi0 hiL hL (z := 2) rfl (by decide) (by decide)) dL_law_1844 ?_
  refine k_i (k := C + 3) (n := S + 15) hA B (b_V (q := 24) (rest := []) rfl X (c_X4_copyDate l g (36 + pz) ad (yc g ad n' v' sp' dy' la' kn re') cr dr th kn rf pl pz mc (Nat.le_refl _) (ad 24) rfl (xs (i + 1).toNatClampNeg) (xs (i + 2).toNatClampNeg) hdr H.size) mw_X4_copyDate md_X4_copyDate rfl lk_L_300 ⟨(Nat.le_of_ble_eq_true rfl), (Nat.le_of_ble_eq_true rfl)⟩ hA hK hT B (by omega) mg_24 rfl rfl hl.1 rfl (Nat.le_of_ble_eq_true rfl) dL_law_1845 ⟨by show C + 2 + _ ≤ 757246; dsimp only [rm]; omega, by show S + 12 + _ ≤ 6824365; dsimp only [rm]; omega⟩) (by dsimp only [rm]; omega) (by dsimp only [rm]; omega) (fun r2 ad' f' H locs hw B => ?_)
  dsimp only at hw
  obtain ⟨had, hr2, rfl⟩ := hw
  have had : ∀ k, k < 28 → ad' k = ad k := fun k hk => had k (by omega) (Or.inl hk)
  have B := LB_m B had
  have hl : lv_has ls 7 [(5, .int r), (4, .int i), (0, .ref b), (1, .ref (ad' 0)), (2, .ref (ad' 24)), (3, .ref (ad' 23))] := by rw [had 0 (by omega), had 24 (by omega), had 23 (by omega)]; exact hl
  refine lv_istore (lv' := [(6, .int r2), (5, .int r), (4, .int i), (0, .ref b), (1, .ref (ad' 0)), (2, .ref (ad' 24)), (3, .ref (ad' 23))]) hx hb dL_law_1848 hl (by decide) rfl (fun ls hl => ?_)
  refine lv_goto (tgt := 2441) hx hb dL_law_1850 (by decide) ?_
  refine W.widen (show C + 3 ≤ C + 1200 by omega) (show S + 15 ≤ S + 12000 by omega) ?_
  exact kk H locs ls ⟨ad', n', v', sp', dy', la', kn, re', _, _, _, _, _, _, _, hR', B, lv_sub hl [2, 3, 4, 5, 6] rfl⟩
set_option maxHeartbeats 8000000 in
theorem lc_1853 {p : Program} {l : Launch} {e : Env} {s : State} {m : MethodId} {below : List Frame} {meth : Method} {c : Code} {cw : Cond} {g : GG} {A : Nat → Prop} {b L : Nat} {xs : Nat → Int32} {C S : Nat} {Q : State → Prop} {H : Heap} {locs : List Loc} {ls : Array Slot} {i : Int32} (Y : LwC p l s m meth c cw g A b L xs) (hi0 : ¬ i < 0) (hiL : i.toInt + 5 ≤ L) (hL : L ≤ 2560) (hrC : C + 1200 ≤ 757246) (hrS : S + 12000 ≤ 6824365) (hS : LwS s g A b i H locs ls)
    (kk : ∀ (H1 : Heap) (locs1 : List Loc) (ls1 : Array Slot), LwS s g A b i H1 locs1 ls1 → W p l e room_1 s m #[.ref b] below meth c H1 locs1 (C + 1200) (S + 12000) Q (F0 m 2441 ls1 [])) : W p l e room_1 s m #[.ref b] below meth c H locs C S Q (F0 m 1853 ls []) := by
  obtain ⟨X, hfl, hK, hT, hnc, hXs, hbl, hbA, hA⟩ := Y
  obtain ⟨hx, hb, hml, hown, hts, hlocks⟩ := id X
  obtain ⟨ad, n, v, sp, dy, la, kn, re, cr, dr, th, rf, pl, pz, mc, hR, B, hl⟩ := hS
  obtain ⟨hla, hlb, hz, hdr⟩ := Rq_b hR
  refine lv_aload_n hx hb dL_law_1853 rfl (lv_at hl 2 rfl) ?_
  refine lv_aload_n hx hb dL_law_1854 rfl (lv_at hl 1 rfl) ?_
  refine lv_iload hx hb dL_law_1855 (lv_at hl 0 rfl) ?_
  refine lv_iconst (v := 1) hx hb dL_law_1857 (by decide) ?_
  refine lv_iadd hx hb dL_law_1858 ?_
  refine va_sld hx hb hXs hbl hbA B.2.2 (ix_k hi0 hiL hL (z := 1) rfl (by decide) (by decide)) dL_law_1859 ?_
  refine lv_aload_n hx hb dL_law_1860 rfl (lv_at hl 1 rfl) ?_
  refine lv_iload hx hb dL_law_1861 (lv_at hl 0 rfl) ?_
  refine lv_iconst (v := 2) hx hb dL_law_1863 (by decide) ?_
  refine lv_iadd hx hb dL_law_1864 ?_
  refine va_sld hx hb hXs hbl hbA B.2.2 (ix_k hi0 hiL hL (z := 2) rfl (by decide) (by decide)) dL_law_1865 ?_
  refine lv_aload_n hx hb dL_law_1866 rfl (lv_at hl 4 rfl) ?_
  have B : WB g A s.heap (36 + pz) ad (cf g ad (LW g ad n v sp dy la kn re cr dr th kn rf pl pz mc) sp dy la kn re) H locs := LW_c ▸ B
  refine k_i (k := C + 2) (n := S + 12) hA B (u_SW (rest := []) X (c_L_move l hfl g (36 + pz) ad (LW g ad n v sp dy la kn re cr dr th kn rf pl pz mc) sp dy la kn re n v (by omega) LW_23 hla hlb (xs (i + 1).toNatClampNeg) (xs (i + 2).toNatClampNeg) H.size) mw_L_move md_L_move rfl lk_L_301 ⟨(Nat.le_of_ble_eq_true rfl), (Nat.le_of_ble_eq_true rfl)⟩ hA hK hT hnc B hl.1 rfl (Nat.le_of_ble_eq_true rfl) dL_law_1867 ⟨by show C + _ ≤ 757246; dsimp only [rm]; omega, by show S + _ ≤ 6824365; dsimp only [rm]; omega⟩) (by dsimp only [rm]; omega) (by dsimp only [rm]; omega) (fun r ad' f' H locs hw B => ?_)
  dsimp only at hw
  obtain ⟨rfl, hw⟩ := hw
  obtain ⟨n', v', sp', dy', la', re', B, hr, hv, hR'⟩ : ∃ (n' : Int64) (v' : Option Nat) (sp' dy' : Nat → TR) (la' re' : Int32), WB g A s.heap (36 + pz) ad (LW g ad n' v' sp' dy' la' kn re' cr dr th kn rf pl pz mc) H locs ∧ r = (v_X4_move cr dr rf (xs (i + 1).toNatClampNeg) (xs (i + 2).toNatClampNeg)).2.2.1 ∧ (r = 0 → n' = ((v_X4_move cr dr rf (xs (i + 1).toNatClampNeg) (xs (i + 2).toNatClampNeg)).1).toInt64) ∧ Rq sp' dy' la' re' cr (v_X4_move cr dr rf (xs (i + 1).toNatClampNeg) (xs (i + 2).toNatClampNeg)).2.1 (v_X4_move cr dr rf (xs (i + 1).toNatClampNeg) (xs (i + 2).toNatClampNeg)).2.2.2 pl (pz) := by
    have h := rl_move (a1 := xs (i + 1).toNatClampNeg) (a2 := xs (i + 2).toNatClampNeg) hR
    rcases hw with ⟨hx0, rfl, rfl⟩ | ⟨E, hxE, rfl, rfl⟩
    · have h := h.1 hx0
      exact ⟨_, _, _, _, _, _, LB_c B, h.1.symm, fun _ => by rw [h.2.1], h.2.2⟩
    · have h := h.2 E hxE
      exact ⟨_, _, _, _, _, _, LB_c0 B, h.1.symm, fun q => absurd q (xcd_0 E), h.2⟩
  refine lv_istore (lv' := [(5, .int r), (4, .int i), (0, .ref b), (1, .ref (ad 0)), (2, .ref (ad 24)), (3, .ref (ad 23))]) hx hb dL_law_1870 hl (by decide) rfl (fun ls hl => ?_)
  refine lv_aload_n hx hb dL_law_1872 rfl (lv_at hl 4 rfl) ?_
  refine lv_aload_n hx hb dL_law_1873 rfl (lv_at hl 2 rfl) ?_
  refine lv_iload hx hb dL_law_1874 (lv_at hl 1 rfl) ?_
  refine lv_iconst (v := 1) hx hb dL_law_1876 (by decide) ?_
  refine lv_iadd hx hb dL_law_1877 ?_
  refine va_sld hx hb hXs hbl hbA B.2.2 (ix_k hi0 hiL hL (z := 1) rfl (by decide) (by decide)) dL_law_1878 ?_
  refine lv_aload_n hx hb dL_law_1879 rfl (lv_at hl 2 rfl) ?_
  refine lv_iload hx hb dL_law_1880 (lv_at hl 1 rfl) ?_
  refine lv_iconst (v := 2) hx hb dL_law_1882 (by decide) ?_
  refine lv_iadd hx hb dL_law_1883 ?_
  refine va_sld hx hb hXs hbl hbA B.2.2 (ix_k hi0 hiL hL (z := 2) rfl (by decide) (by decide)) dL_law_1884 ?_
  refine k_i (k := C + 5) (n := S + 21) hA B (b_V (q := 24) (rest := []) rfl X (c_X4_move l g (36 + pz) ad (yc g ad n' v' sp' dy' la' kn re') cr dr th kn rf pl pz mc (Nat.le_refl _) (ad 24) rfl (xs (i + 1).toNatClampNeg) (xs (i + 2).toNatClampNeg) hdr H.size) mw_X4_move md_X4_move rfl lk_L_303 ⟨(Nat.le_of_ble_eq_true rfl), (Nat.le_of_ble_eq_true rfl)⟩ hA hK hT B (by omega) mg_24 rfl rfl hl.1 rfl (Nat.le_of_ble_eq_true rfl) dL_law_1885 ⟨by show C + 2 + _ ≤ 757246; dsimp only [rm]; omega, by show S + 12 + _ ≤ 6824365; dsimp only [rm]; omega⟩) (by dsimp only [rm]; omega) (by dsimp only [rm]; omega) (fun r2 ad' f' H locs hw B => ?_)
  dsimp only at hw
  obtain ⟨had, hr2, rfl⟩ := hw
  have had : ∀ k, k < 28 → ad' k = ad k := fun k hk => had k (by omega) (Or.inl hk)
  have B := LB_m B had
  have hl : lv_has ls 7 [(5, .int r), (4, .int i), (0, .ref b), (1, .ref (ad' 0)), (2, .ref (ad' 24)), (3, .ref (ad' 23))] := by rw [had 0 (by omega), had 24 (by omega), had 23 (by omega)]; exact hl
  refine lv_istore (lv' := [(6, .int r2), (5, .int r), (4, .int i), (0, .ref b), (1, .ref (ad' 0)), (2, .ref (ad' 24)), (3, .ref (ad' 23))]) hx hb dL_law_1888 hl (by decide) rfl (fun ls hl => ?_)
  refine lv_goto (tgt := 2441) hx hb dL_law_1890 (by decide) ?_
  refine W.widen (show C + 5 ≤ C + 1200 by omega) (show S + 21 ≤ S + 12000 by omega) ?_
  exact kk H locs ls ⟨ad', n', v', sp', dy', la', kn, re', _, _, _, _, _, _, _, hR', B, lv_sub hl [2, 3, 4, 5, 6] rfl⟩
set_option maxHeartbeats 8000000 in
theorem lc_1893 {p : Program} {l : Launch} {e : Env} {s : State} {m : MethodId} {below : List Frame} {meth : Method} {c : Code} {cw : Cond} {g : GG} {A : Nat → Prop} {b L : Nat} {xs : Nat → Int32} {C S : Nat} {Q : State → Prop} {H : Heap} {locs : List Loc} {ls : Array Slot} {i : Int32} (Y : LwC p l s m meth c cw g A b L xs) (hi0 : ¬ i < 0) (hiL : i.toInt + 5 ≤ L) (hL : L ≤ 2560) (hrC : C + 1200 ≤ 757246) (hrS : S + 12000 ≤ 6824365) (hS : LwS s g A b i H locs ls)
    (kk : ∀ (H1 : Heap) (locs1 : List Loc) (ls1 : Array Slot), LwS s g A b i H1 locs1 ls1 → W p l e room_1 s m #[.ref b] below meth c H1 locs1 (C + 1200) (S + 12000) Q (F0 m 2441 ls1 [])) : W p l e room_1 s m #[.ref b] below meth c H locs C S Q (F0 m 1893 ls []) := by
  obtain ⟨X, hfl, hK, hT, hnc, hXs, hbl, hbA, hA⟩ := Y
  obtain ⟨hx, hb, hml, hown, hts, hlocks⟩ := id X
  obtain ⟨ad, n, v, sp, dy, la, kn, re, cr, dr, th, rf, pl, pz, mc, hR, B, hl⟩ := hS
  obtain ⟨hla, hlb, hz, hdr⟩ := Rq_b hR
  refine lv_aload_n hx hb dL_law_1893 rfl (lv_at hl 2 rfl) ?_
  refine lv_aload_n hx hb dL_law_1894 rfl (lv_at hl 1 rfl) ?_
  refine lv_iload hx hb dL_law_1895 (lv_at hl 0 rfl) ?_
  refine lv_iconst (v := 1) hx hb dL_law_1897 (by decide) ?_
  refine lv_iadd hx hb dL_law_1898 ?_
  refine va_sld hx hb hXs hbl hbA B.2.2 (ix_k hi0 hiL hL (z := 1) rfl (by decide) (by decide)) dL_law_1899 ?_
  refine lv_aload_n hx hb dL_law_1900 rfl (lv_at hl 1 rfl) ?_
  refine lv_iload hx hb dL_law_1901 (lv_at hl 0 rfl) ?_
  refine lv_iconst (v := 2) hx hb dL_law_1903 (by decide) ?_
  refine lv_iadd hx hb dL_law_1904 ?_
  refine va_sld hx hb hXs hbl hbA B.2.2 (ix_k hi0 hiL hL (z := 2) rfl (by decide) (by decide)) dL_law_1905 ?_
  refine lv_aload_n hx hb dL_law_1906 rfl (lv_at hl 4 rfl) ?_
  have B : WB g A s.heap (36 + pz) ad (cf g ad (LW g ad n v sp dy la kn re cr dr th kn rf pl pz mc) sp dy la kn re) H locs := LW_c ▸ B
  refine k_i (k := C + 2) (n := S + 12) hA B (u_SW (rest := []) X (c_L_back l hfl g (36 + pz) ad (LW g ad n v sp dy la kn re cr dr th kn rf pl pz mc) sp dy la kn re n v (by omega) LW_23 hla hlb (xs (i + 1).toNatClampNeg) (xs (i + 2).toNatClampNeg) H.size) mw_L_back md_L_back rfl lk_L_304 ⟨(Nat.le_of_ble_eq_true rfl), (Nat.le_of_ble_eq_true rfl)⟩ hA hK hT hnc B hl.1 rfl (Nat.le_of_ble_eq_true rfl) dL_law_1907 ⟨by show C + _ ≤ 757246; dsimp only [rm]; omega, by show S + _ ≤ 6824365; dsimp only [rm]; omega⟩) (by dsimp only [rm]; omega) (by dsimp only [rm]; omega) (fun r ad' f' H locs hw B => ?_)
  dsimp only at hw
  obtain ⟨rfl, hw⟩ := hw
  obtain ⟨n', v', sp', dy', la', re', B, hr, hv, hR'⟩ : ∃ (n' : Int64) (v' : Option Nat) (sp' dy' : Nat → TR) (la' re' : Int32), WB g A s.heap (36 + pz) ad (LW g ad n' v' sp' dy' la' kn re' cr dr th kn rf pl pz mc) H locs ∧ r = (v_X4_back cr dr rf (xs (i + 1).toNatClampNeg) (xs (i + 2).toNatClampNeg)).2.2.1 ∧ (r = 0 → n' = ((v_X4_back cr dr rf (xs (i + 1).toNatClampNeg) (xs (i + 2).toNatClampNeg)).1).toInt64) ∧ Rq sp' dy' la' re' cr (v_X4_back cr dr rf (xs (i + 1).toNatClampNeg) (xs (i + 2).toNatClampNeg)).2.1 (v_X4_back cr dr rf (xs (i + 1).toNatClampNeg) (xs (i + 2).toNatClampNeg)).2.2.2 pl (pz) := by
    have h := rl_back (a1 := xs (i + 1).toNatClampNeg) (a2 := xs (i + 2).toNatClampNeg) hR
    rcases hw with ⟨hx0, rfl, rfl⟩ | ⟨E, hxE, rfl, rfl⟩
    · have h := h.1 hx0
      exact ⟨_, _, _, _, _, _, LB_c B, h.1.symm, fun _ => by rw [h.2.1], h.2.2⟩
    · have h := h.2 E hxE
      exact ⟨_, _, _, _, _, _, LB_c0 B, h.1.symm, fun q => absurd q (xcd_0 E), h.2⟩
  refine lv_istore (lv' := [(5, .int r), (4, .int i), (0, .ref b), (1, .ref (ad 0)), (2, .ref (ad 24)), (3, .ref (ad 23))]) hx hb dL_law_1910 hl (by decide) rfl (fun ls hl => ?_)
  refine lv_aload_n hx hb dL_law_1912 rfl (lv_at hl 4 rfl) ?_
  refine lv_aload_n hx hb dL_law_1913 rfl (lv_at hl 2 rfl) ?_
  refine lv_iload hx hb dL_law_1914 (lv_at hl 1 rfl) ?_
  refine lv_iconst (v := 1) hx hb dL_law_1916 (by decide) ?_
  refine lv_iadd hx hb dL_law_1917 ?_
  refine va_sld hx hb hXs hbl hbA B.2.2 (ix_k hi0 hiL hL (z := 1) rfl (by decide) (by decide)) dL_law_1918 ?_
  refine lv_aload_n hx hb dL_law_1919 rfl (lv_at hl 2 rfl) ?_
  refine lv_iload hx hb dL_law_1920 (lv_at hl 1 rfl) ?_
  refine lv_iconst (v := 2) hx hb dL_law_1922 (by decide) ?_
  refine lv_iadd hx hb dL_law_1923 ?_
  refine va_sld hx hb hXs hbl hbA B.2.2 (ix_k hi0 hiL hL (z := 2) rfl (by decide) (by decide)) dL_law_1924 ?_
  refine k_i (k := C + 5) (n := S + 21) hA B (b_V (q := 24) (rest := []) rfl X (c_X4_back l g (36 + pz) ad (yc g ad n' v' sp' dy' la' kn re') cr dr th kn rf pl pz mc (Nat.le_refl _) (ad 24) rfl (xs (i + 1).toNatClampNeg) (xs (i + 2).toNatClampNeg) hdr H.size) mw_X4_back md_X4_back rfl lk_L_306 ⟨(Nat.le_of_ble_eq_true rfl), (Nat.le_of_ble_eq_true rfl)⟩ hA hK hT B (by omega) mg_24 rfl rfl hl.1 rfl (Nat.le_of_ble_eq_true rfl) dL_law_1925 ⟨by show C + 2 + _ ≤ 757246; dsimp only [rm]; omega, by show S + 12 + _ ≤ 6824365; dsimp only [rm]; omega⟩) (by dsimp only [rm]; omega) (by dsimp only [rm]; omega) (fun r2 ad' f' H locs hw B => ?_)
  dsimp only at hw
  obtain ⟨had, hr2, rfl⟩ := hw
  have had : ∀ k, k < 28 → ad' k = ad k := fun k hk => had k (by omega) (Or.inl hk)
  have B := LB_m B had
  have hl : lv_has ls 7 [(5, .int r), (4, .int i), (0, .ref b), (1, .ref (ad' 0)), (2, .ref (ad' 24)), (3, .ref (ad' 23))] := by rw [had 0 (by omega), had 24 (by omega), had 23 (by omega)]; exact hl
  refine lv_istore (lv' := [(6, .int r2), (5, .int r), (4, .int i), (0, .ref b), (1, .ref (ad' 0)), (2, .ref (ad' 24)), (3, .ref (ad' 23))]) hx hb dL_law_1928 hl (by decide) rfl (fun ls hl => ?_)
  refine lv_goto (tgt := 2441) hx hb dL_law_1930 (by decide) ?_
  refine W.widen (show C + 5 ≤ C + 1200 by omega) (show S + 21 ≤ S + 12000 by omega) ?_
  exact kk H locs ls ⟨ad', n', v', sp', dy', la', kn, re', _, _, _, _, _, _, _, hR', B, lv_sub hl [2, 3, 4, 5, 6] rfl⟩
set_option maxHeartbeats 8000000 in
theorem lc_1933 {p : Program} {l : Launch} {e : Env} {s : State} {m : MethodId} {below : List Frame} {meth : Method} {c : Code} {cw : Cond} {g : GG} {A : Nat → Prop} {b L : Nat} {xs : Nat → Int32} {C S : Nat} {Q : State → Prop} {H : Heap} {locs : List Loc} {ls : Array Slot} {i : Int32} (Y : LwC p l s m meth c cw g A b L xs) (hi0 : ¬ i < 0) (hiL : i.toInt + 5 ≤ L) (hL : L ≤ 2560) (hrC : C + 1200 ≤ 757246) (hrS : S + 12000 ≤ 6824365) (hS : LwS s g A b i H locs ls)
    (kk : ∀ (H1 : Heap) (locs1 : List Loc) (ls1 : Array Slot), LwS s g A b i H1 locs1 ls1 → W p l e room_1 s m #[.ref b] below meth c H1 locs1 (C + 1200) (S + 12000) Q (F0 m 2441 ls1 [])) : W p l e room_1 s m #[.ref b] below meth c H locs C S Q (F0 m 1933 ls []) := by
  obtain ⟨X, hfl, hK, hT, hnc, hXs, hbl, hbA, hA⟩ := Y
  obtain ⟨hx, hb, hml, hown, hts, hlocks⟩ := id X
  obtain ⟨ad, n, v, sp, dy, la, kn, re, cr, dr, th, rf, pl, pz, mc, hR, B, hl⟩ := hS
  obtain ⟨hla, hlb, hz, hdr⟩ := Rq_b hR
  refine lv_aload_n hx hb dL_law_1933 rfl (lv_at hl 2 rfl) ?_
  refine lv_aload_n hx hb dL_law_1934 rfl (lv_at hl 1 rfl) ?_
  refine lv_iload hx hb dL_law_1935 (lv_at hl 0 rfl) ?_
  refine lv_iconst (v := 1) hx hb dL_law_1937 (by decide) ?_
  refine lv_iadd hx hb dL_law_1938 ?_
  refine va_sld hx hb hXs hbl hbA B.2.2 (ix_k hi0 hiL hL (z := 1) rfl (by decide) (by decide)) dL_law_1939 ?_
  refine lv_aload_n hx hb dL_law_1940 rfl (lv_at hl 1 rfl) ?_
  refine lv_iload hx hb dL_law_1941 (lv_at hl 0 rfl) ?_
  refine lv_iconst (v := 2) hx hb dL_law_1943 (by decide) ?_
  refine lv_iadd hx hb dL_law_1944 ?_
  refine va_sld hx hb hXs hbl hbA B.2.2 (ix_k hi0 hiL hL (z := 2) rfl (by decide) (by decide)) dL_law_1945 ?_
  refine lv_aload_n hx hb dL_law_1946 rfl (lv_at hl 1 rfl) ?_
  refine lv_iload hx hb dL_law_1947 (lv_at hl 0 rfl) ?_
  refine lv_iconst (v := 3) hx hb dL_law_1949 (by decide) ?_
  refine lv_iadd hx hb dL_law_1950 ?_
  refine va_sld hx hb hXs hbl hbA B.2.2 (ix_k hi0 hiL hL (z := 3) rfl (by decide) (by decide)) dL_law_1951 ?_
  refine lv_aload_n hx hb dL_law_1952 rfl (lv_at hl 4 rfl) ?_
  have B : WB g A s.heap (36 + pz) ad (cf g ad (LW g ad n v sp dy la kn re cr dr th kn rf pl pz mc) sp dy la kn re) H locs := LW_c ▸ B
  refine k_i (k := C + 3) (n := S + 18) hA B (u_SW (rest := []) X (c_L_walk l hfl g (36 + pz) ad (LW g ad n v sp dy la kn re cr dr th kn rf pl pz mc) sp dy la kn re n v (by omega) LW_23 hla hlb (xs (i + 1).toNatClampNeg) (xs (i + 2).toNatClampNeg) (xs (i + 3).toNatClampNeg) H.size) mw_L_walk md_L_walk rfl lk_L_307 ⟨(Nat.le_of_ble_eq_true rfl), (Nat.le_of_ble_eq_true rfl)⟩ hA hK hT hnc B hl.1 rfl (Nat.le_of_ble_eq_true rfl) dL_law_1953 ⟨by show C + _ ≤ 757246; dsimp only [rm]; omega, by show S + _ ≤ 6824365; dsimp only [rm]; omega⟩) (by dsimp only [rm]; omega) (by dsimp only [rm]; omega) (fun r ad' f' H locs hw B => ?_)
  dsimp only at hw
  obtain ⟨rfl, hw⟩ := hw
  obtain ⟨n', v', sp', dy', la', re', B, hr, hv, hR'⟩ : ∃ (n' : Int64) (v' : Option Nat) (sp' dy' : Nat → TR) (la' re' : Int32), WB g A s.heap (36 + pz) ad (LW g ad n' v' sp' dy' la' kn re' cr dr th kn rf pl pz mc) H locs ∧ r = (v_X4_walk cr dr (xs (i + 1).toNatClampNeg) (xs (i + 2).toNatClampNeg) (xs (i + 3).toNatClampNeg)).2.2 ∧ (r = 0 → n' = ((v_X4_walk cr dr (xs (i + 1).toNatClampNeg) (xs (i + 2).toNatClampNeg) (xs (i + 3).toNatClampNeg)).1).toInt64) ∧ Rq sp' dy' la' re' cr (v_X4_walk cr dr (xs (i + 1).toNatClampNeg) (xs (i + 2).toNatClampNeg) (xs (i + 3).toNatClampNeg)).2.1 rf pl (pz) := by
    have h := rl_walk (a1 := xs (i + 1).toNatClampNeg) (a2 := xs (i + 2).toNatClampNeg) (a3 := xs (i + 3).toNatClampNeg) hR
    rcases hw with ⟨hx0, rfl, rfl⟩ | ⟨E, hxE, rfl, rfl⟩
    · have h := h.1 hx0
      exact ⟨_, _, _, _, _, _, LB_c B, h.1.symm, fun _ => by rw [h.2.1], h.2.2⟩
    · have h := h.2 E hxE
      exact ⟨_, _, _, _, _, _, LB_c0 B, h.1.symm, fun q => absurd q (xcd_0 E), h.2⟩
  refine lv_istore (lv' := [(5, .int r), (4, .int i), (0, .ref b), (1, .ref (ad 0)), (2, .ref (ad 24)), (3, .ref (ad 23))]) hx hb dL_law_1956 hl (by decide) rfl (fun ls hl => ?_)
  refine lv_aload_n hx hb dL_law_1958 rfl (lv_at hl 4 rfl) ?_
  refine lv_aload_n hx hb dL_law_1959 rfl (lv_at hl 2 rfl) ?_
  refine lv_iload hx hb dL_law_1960 (lv_at hl 1 rfl) ?_
  refine lv_iconst (v := 1) hx hb dL_law_1962 (by decide) ?_
  refine lv_iadd hx hb dL_law_1963 ?_
  refine va_sld hx hb hXs hbl hbA B.2.2 (ix_k hi0 hiL hL (z := 1) rfl (by decide) (by decide)) dL_law_1964 ?_
  refine lv_aload_n hx hb dL_law_1965 rfl (lv_at hl 2 rfl) ?_
  refine lv_iload hx hb dL_law_1966 (lv_at hl 1 rfl) ?_
  refine lv_iconst (v := 2) hx hb dL_law_1968 (by decide) ?_
  refine lv_iadd hx hb dL_law_1969 ?_
  refine va_sld hx hb hXs hbl hbA B.2.2 (ix_k hi0 hiL hL (z := 2) rfl (by decide) (by decide)) dL_law_1970 ?_
  refine lv_aload_n hx hb dL_law_1971 rfl (lv_at hl 2 rfl) ?_
  refine lv_iload hx hb dL_law_1972 (lv_at hl 1 rfl) ?_
  refine lv_iconst (v := 3) hx hb dL_law_1974 (by decide) ?_
  refine lv_iadd hx hb dL_law_1975 ?_
  refine va_sld hx hb hXs hbl hbA B.2.2 (ix_k hi0 hiL hL (z := 3) rfl (by decide) (by decide)) dL_law_1976 ?_
  refine k_i (k := C + 68) (n := S + 213) hA B (b_V (q := 24) (rest := []) rfl X (c_X4_walk l g (36 + pz) ad (yc g ad n' v' sp' dy' la' kn re') cr dr th kn rf pl pz mc (Nat.le_refl _) (ad 24) rfl (xs (i + 1).toNatClampNeg) (xs (i + 2).toNatClampNeg) (xs (i + 3).toNatClampNeg) hdr H.size) mw_X4_walk md_X4_walk rfl lk_L_309 ⟨(Nat.le_of_ble_eq_true rfl), (Nat.le_of_ble_eq_true rfl)⟩ hA hK hT B (by omega) mg_24 rfl rfl hl.1 rfl (Nat.le_of_ble_eq_true rfl) dL_law_1977 ⟨by show C + 3 + _ ≤ 757246; dsimp only [rm]; omega, by show S + 18 + _ ≤ 6824365; dsimp only [rm]; omega⟩) (by dsimp only [rm]; omega) (by dsimp only [rm]; omega) (fun r2 ad' f' H locs hw B => ?_)
  dsimp only at hw
  obtain ⟨had, hr2, rfl⟩ := hw
  have had : ∀ k, k < 28 → ad' k = ad k := fun k hk => had k (by omega) (Or.inl hk)
  have B := LB_m B had
  have hl : lv_has ls 7 [(5, .int r), (4, .int i), (0, .ref b), (1, .ref (ad' 0)), (2, .ref (ad' 24)), (3, .ref (ad' 23))] := by rw [had 0 (by omega), had 24 (by omega), had 23 (by omega)]; exact hl
  refine lv_istore (lv' := [(6, .int r2), (5, .int r), (4, .int i), (0, .ref b), (1, .ref (ad' 0)), (2, .ref (ad' 24)), (3, .ref (ad' 23))]) hx hb dL_law_1980 hl (by decide) rfl (fun ls hl => ?_)
  refine lv_goto (tgt := 2441) hx hb dL_law_1982 (by decide) ?_
  refine W.widen (show C + 68 ≤ C + 1200 by omega) (show S + 213 ≤ S + 12000 by omega) ?_
  exact kk H locs ls ⟨ad', n', v', sp', dy', la', kn, re', _, _, _, _, _, _, _, hR', B, lv_sub hl [2, 3, 4, 5, 6] rfl⟩
set_option maxHeartbeats 8000000 in
theorem lc_1985 {p : Program} {l : Launch} {e : Env} {s : State} {m : MethodId} {below : List Frame} {meth : Method} {c : Code} {cw : Cond} {g : GG} {A : Nat → Prop} {b L : Nat} {xs : Nat → Int32} {C S : Nat} {Q : State → Prop} {H : Heap} {locs : List Loc} {ls : Array Slot} {i : Int32} (Y : LwC p l s m meth c cw g A b L xs) (hi0 : ¬ i < 0) (hiL : i.toInt + 5 ≤ L) (hL : L ≤ 2560) (hrC : C + 1200 ≤ 757246) (hrS : S + 12000 ≤ 6824365) (hS : LwS s g A b i H locs ls)
    (kk : ∀ (H1 : Heap) (locs1 : List Loc) (ls1 : Array Slot), LwS s g A b i H1 locs1 ls1 → W p l e room_1 s m #[.ref b] below meth c H1 locs1 (C + 1200) (S + 12000) Q (F0 m 2441 ls1 [])) : W p l e room_1 s m #[.ref b] below meth c H locs C S Q (F0 m 1985 ls []) := by
  obtain ⟨X, hfl, hK, hT, hnc, hXs, hbl, hbA, hA⟩ := Y
  obtain ⟨hx, hb, hml, hown, hts, hlocks⟩ := id X
  obtain ⟨ad, n, v, sp, dy, la, kn, re, cr, dr, th, rf, pl, pz, mc, hR, B, hl⟩ := hS
  obtain ⟨hla, hlb, hz, hdr⟩ := Rq_b hR
  refine lv_aload_n hx hb dL_law_1985 rfl (lv_at hl 2 rfl) ?_
  refine lv_aload_n hx hb dL_law_1986 rfl (lv_at hl 1 rfl) ?_
  refine lv_iload hx hb dL_law_1987 (lv_at hl 0 rfl) ?_
  refine lv_iconst (v := 1) hx hb dL_law_1989 (by decide) ?_
  refine lv_iadd hx hb dL_law_1990 ?_
  refine va_sld hx hb hXs hbl hbA B.2.2 (ix_k hi0 hiL hL (z := 1) rfl (by decide) (by decide)) dL_law_1991 ?_
  refine lv_aload_n hx hb dL_law_1992 rfl (lv_at hl 1 rfl) ?_
  refine lv_iload hx hb dL_law_1993 (lv_at hl 0 rfl) ?_
  refine lv_iconst (v := 2) hx hb dL_law_1995 (by decide) ?_
  refine lv_iadd hx hb dL_law_1996 ?_
  refine va_sld hx hb hXs hbl hbA B.2.2 (ix_k hi0 hiL hL (z := 2) rfl (by decide) (by decide)) dL_law_1997 ?_
  refine lv_aload_n hx hb dL_law_1998 rfl (lv_at hl 1 rfl) ?_
  refine lv_iload hx hb dL_law_1999 (lv_at hl 0 rfl) ?_
  refine lv_iconst (v := 3) hx hb dL_law_2001 (by decide) ?_
  refine lv_iadd hx hb dL_law_2002 ?_
  refine va_sld hx hb hXs hbl hbA B.2.2 (ix_k hi0 hiL hL (z := 3) rfl (by decide) (by decide)) dL_law_2003 ?_
  refine lv_aload_n hx hb dL_law_2004 rfl (lv_at hl 4 rfl) ?_
  have B : WB g A s.heap (36 + pz) ad (cf g ad (LW g ad n v sp dy la kn re cr dr th kn rf pl pz mc) sp dy la kn re) H locs := LW_c ▸ B
  refine k_i (k := C + 3) (n := S + 18) hA B (u_SW (rest := []) X (c_L_between l hfl g (36 + pz) ad (LW g ad n v sp dy la kn re cr dr th kn rf pl pz mc) sp dy la kn re n v (by omega) LW_23 hla hlb (xs (i + 1).toNatClampNeg) (xs (i + 2).toNatClampNeg) (xs (i + 3).toNatClampNeg) H.size) mw_L_between md_L_between rfl lk_L_310 ⟨(Nat.le_of_ble_eq_true rfl), (Nat.le_of_ble_eq_true rfl)⟩ hA hK hT hnc B hl.1 rfl (Nat.le_of_ble_eq_true rfl) dL_law_2005 ⟨by show C + _ ≤ 757246; dsimp only [rm]; omega, by show S + _ ≤ 6824365; dsimp only [rm]; omega⟩) (by dsimp only [rm]; omega) (by dsimp only [rm]; omega) (fun r ad' f' H locs hw B => ?_)
  dsimp only at hw
  obtain ⟨rfl, hw⟩ := hw
  obtain ⟨n', v', sp', dy', la', re', B, hr, hv, hR'⟩ : ∃ (n' : Int64) (v' : Option Nat) (sp' dy' : Nat → TR) (la' re' : Int32), WB g A s.heap (36 + pz) ad (LW g ad n' v' sp' dy' la' kn re' cr dr th kn rf pl pz mc) H locs ∧ r = (v_X4_between cr dr rf (xs (i + 1).toNatClampNeg) (xs (i + 2).toNatClampNeg) (xs (i + 3).toNatClampNeg)).2.2.1 ∧ (r = 0 → n' = ((v_X4_between cr dr rf (xs (i + 1).toNatClampNeg) (xs (i + 2).toNatClampNeg) (xs (i + 3).toNatClampNeg)).1).toInt64) ∧ Rq sp' dy' la' re' (v_X4_between cr dr rf (xs (i + 1).toNatClampNeg) (xs (i + 2).toNatClampNeg) (xs (i + 3).toNatClampNeg)).2.1 dr (v_X4_between cr dr rf (xs (i + 1).toNatClampNeg) (xs (i + 2).toNatClampNeg) (xs (i + 3).toNatClampNeg)).2.2.2 pl (pz) := by
    have h := rl_between (a1 := xs (i + 1).toNatClampNeg) (a2 := xs (i + 2).toNatClampNeg) (a3 := xs (i + 3).toNatClampNeg) hR
    rcases hw with ⟨hx0, rfl, rfl⟩ | ⟨E, hxE, rfl, rfl⟩
    · have h := h.1 hx0
      exact ⟨_, _, _, _, _, _, LB_c B, h.1.symm, fun _ => by rw [h.2.1], h.2.2⟩
    · have h := h.2 E hxE
      exact ⟨_, _, _, _, _, _, LB_c0 B, h.1.symm, fun q => absurd q (xcd_0 E), h.2⟩
  refine lv_istore (lv' := [(5, .int r), (4, .int i), (0, .ref b), (1, .ref (ad 0)), (2, .ref (ad 24)), (3, .ref (ad 23))]) hx hb dL_law_2008 hl (by decide) rfl (fun ls hl => ?_)
  refine lv_aload_n hx hb dL_law_2010 rfl (lv_at hl 4 rfl) ?_
  refine lv_aload_n hx hb dL_law_2011 rfl (lv_at hl 2 rfl) ?_
  refine lv_iload hx hb dL_law_2012 (lv_at hl 1 rfl) ?_
  refine lv_iconst (v := 1) hx hb dL_law_2014 (by decide) ?_
  refine lv_iadd hx hb dL_law_2015 ?_
  refine va_sld hx hb hXs hbl hbA B.2.2 (ix_k hi0 hiL hL (z := 1) rfl (by decide) (by decide)) dL_law_2016 ?_
  refine lv_aload_n hx hb dL_law_2017 rfl (lv_at hl 2 rfl) ?_
  refine lv_iload hx hb dL_law_2018 (lv_at hl 1 rfl) ?_
  refine lv_iconst (v := 2) hx hb dL_law_2020 (by decide) ?_
  refine lv_iadd hx hb dL_law_2021 ?_
  refine va_sld hx hb hXs hbl hbA B.2.2 (ix_k hi0 hiL hL (z := 2) rfl (by decide) (by decide)) dL_law_2022 ?_
  refine lv_aload_n hx hb dL_law_2023 rfl (lv_at hl 2 rfl) ?_
  refine lv_iload hx hb dL_law_2024 (lv_at hl 1 rfl) ?_
  refine lv_iconst (v := 3) hx hb dL_law_2026 (by decide) ?_
  refine lv_iadd hx hb dL_law_2027 ?_
  refine va_sld hx hb hXs hbl hbA B.2.2 (ix_k hi0 hiL hL (z := 3) rfl (by decide) (by decide)) dL_law_2028 ?_
  refine k_i (k := C + 6) (n := S + 27) hA B (b_V (q := 24) (rest := []) rfl X (c_X4_between l g (36 + pz) ad (yc g ad n' v' sp' dy' la' kn re') cr dr th kn rf pl pz mc (Nat.le_refl _) (ad 24) rfl (xs (i + 1).toNatClampNeg) (xs (i + 2).toNatClampNeg) (xs (i + 3).toNatClampNeg) hdr H.size) mw_X4_between md_X4_between rfl lk_L_312 ⟨(Nat.le_of_ble_eq_true rfl), (Nat.le_of_ble_eq_true rfl)⟩ hA hK hT B (by omega) mg_24 rfl rfl hl.1 rfl (Nat.le_of_ble_eq_true rfl) dL_law_2029 ⟨by show C + 3 + _ ≤ 757246; dsimp only [rm]; omega, by show S + 18 + _ ≤ 6824365; dsimp only [rm]; omega⟩) (by dsimp only [rm]; omega) (by dsimp only [rm]; omega) (fun r2 ad' f' H locs hw B => ?_)
  dsimp only at hw
  obtain ⟨had, hr2, rfl⟩ := hw
  have had : ∀ k, k < 28 → ad' k = ad k := fun k hk => had k (by omega) (Or.inl hk)
  have B := LB_m B had
  have hl : lv_has ls 7 [(5, .int r), (4, .int i), (0, .ref b), (1, .ref (ad' 0)), (2, .ref (ad' 24)), (3, .ref (ad' 23))] := by rw [had 0 (by omega), had 24 (by omega), had 23 (by omega)]; exact hl
  refine lv_istore (lv' := [(6, .int r2), (5, .int r), (4, .int i), (0, .ref b), (1, .ref (ad' 0)), (2, .ref (ad' 24)), (3, .ref (ad' 23))]) hx hb dL_law_2032 hl (by decide) rfl (fun ls hl => ?_)
  refine lv_goto (tgt := 2441) hx hb dL_law_2034 (by decide) ?_
  refine W.widen (show C + 6 ≤ C + 1200 by omega) (show S + 27 ≤ S + 12000 by omega) ?_
  exact kk H locs ls ⟨ad', n', v', sp', dy', la', kn, re', _, _, _, _, _, _, _, hR', B, lv_sub hl [2, 3, 4, 5, 6] rfl⟩
set_option maxHeartbeats 8000000 in
theorem lc_2037 {p : Program} {l : Launch} {e : Env} {s : State} {m : MethodId} {below : List Frame} {meth : Method} {c : Code} {cw : Cond} {g : GG} {A : Nat → Prop} {b L : Nat} {xs : Nat → Int32} {C S : Nat} {Q : State → Prop} {H : Heap} {locs : List Loc} {ls : Array Slot} {i : Int32} (Y : LwC p l s m meth c cw g A b L xs) (hi0 : ¬ i < 0) (hiL : i.toInt + 5 ≤ L) (hL : L ≤ 2560) (hrC : C + 1200 ≤ 757246) (hrS : S + 12000 ≤ 6824365) (hS : LwS s g A b i H locs ls)
    (kk : ∀ (H1 : Heap) (locs1 : List Loc) (ls1 : Array Slot), LwS s g A b i H1 locs1 ls1 → W p l e room_1 s m #[.ref b] below meth c H1 locs1 (C + 1200) (S + 12000) Q (F0 m 2441 ls1 [])) : W p l e room_1 s m #[.ref b] below meth c H locs C S Q (F0 m 2037 ls []) := by
  obtain ⟨X, hfl, hK, hT, hnc, hXs, hbl, hbA, hA⟩ := Y
  obtain ⟨hx, hb, hml, hown, hts, hlocks⟩ := id X
  obtain ⟨ad, n, v, sp, dy, la, kn, re, cr, dr, th, rf, pl, pz, mc, hR, B, hl⟩ := hS
  obtain ⟨hla, hlb, hz, hdr⟩ := Rq_b hR
  refine lv_aload_n hx hb dL_law_2037 rfl (lv_at hl 2 rfl) ?_
  refine lv_aload_n hx hb dL_law_2038 rfl (lv_at hl 1 rfl) ?_
  refine lv_iload hx hb dL_law_2039 (lv_at hl 0 rfl) ?_
  refine lv_iconst (v := 1) hx hb dL_law_2041 (by decide) ?_
  refine lv_iadd hx hb dL_law_2042 ?_
  refine va_sld hx hb hXs hbl hbA B.2.2 (ix_k hi0 hiL hL (z := 1) rfl (by decide) (by decide)) dL_law_2043 ?_
  refine lv_aload_n hx hb dL_law_2044 rfl (lv_at hl 1 rfl) ?_
  refine lv_iload hx hb dL_law_2045 (lv_at hl 0 rfl) ?_
  refine lv_iconst (v := 2) hx hb dL_law_2047 (by decide) ?_
  refine lv_iadd hx hb dL_law_2048 ?_
  refine va_sld hx hb hXs hbl hbA B.2.2 (ix_k hi0 hiL hL (z := 2) rfl (by decide) (by decide)) dL_law_2049 ?_
  refine lv_aload_n hx hb dL_law_2050 rfl (lv_at hl 1 rfl) ?_
  refine lv_iload hx hb dL_law_2051 (lv_at hl 0 rfl) ?_
  refine lv_iconst (v := 3) hx hb dL_law_2053 (by decide) ?_
  refine lv_iadd hx hb dL_law_2054 ?_
  refine va_sld hx hb hXs hbl hbA B.2.2 (ix_k hi0 hiL hL (z := 3) rfl (by decide) (by decide)) dL_law_2055 ?_
  refine lv_aload_n hx hb dL_law_2056 rfl (lv_at hl 4 rfl) ?_
  have B : WB g A s.heap (36 + pz) ad (cf g ad (LW g ad n v sp dy la kn re cr dr th kn rf pl pz mc) sp dy la kn re) H locs := LW_c ▸ B
  refine k_i (k := C + 3) (n := S + 18) hA B (u_SW (rest := []) X (c_L_until l hfl g (36 + pz) ad (LW g ad n v sp dy la kn re cr dr th kn rf pl pz mc) sp dy la kn re n v (by omega) LW_23 hla hlb (xs (i + 1).toNatClampNeg) (xs (i + 2).toNatClampNeg) (xs (i + 3).toNatClampNeg) H.size) mw_L_until md_L_until rfl lk_L_313 ⟨(Nat.le_of_ble_eq_true rfl), (Nat.le_of_ble_eq_true rfl)⟩ hA hK hT hnc B hl.1 rfl (Nat.le_of_ble_eq_true rfl) dL_law_2057 ⟨by show C + _ ≤ 757246; dsimp only [rm]; omega, by show S + _ ≤ 6824365; dsimp only [rm]; omega⟩) (by dsimp only [rm]; omega) (by dsimp only [rm]; omega) (fun r ad' f' H locs hw B => ?_)
  dsimp only at hw
  obtain ⟨rfl, hw⟩ := hw
  obtain ⟨n', v', sp', dy', la', re', B, hr, hv, hR'⟩ : ∃ (n' : Int64) (v' : Option Nat) (sp' dy' : Nat → TR) (la' re' : Int32), WB g A s.heap (36 + pz) ad (LW g ad n' v' sp' dy' la' kn re' cr dr th kn rf pl pz mc) H locs ∧ r = (v_X4_until cr dr rf (xs (i + 1).toNatClampNeg) (xs (i + 2).toNatClampNeg) (xs (i + 3).toNatClampNeg)).2.2.1 ∧ (r = 0 → n' = ((v_X4_until cr dr rf (xs (i + 1).toNatClampNeg) (xs (i + 2).toNatClampNeg) (xs (i + 3).toNatClampNeg)).1).toInt64) ∧ Rq sp' dy' la' re' (v_X4_until cr dr rf (xs (i + 1).toNatClampNeg) (xs (i + 2).toNatClampNeg) (xs (i + 3).toNatClampNeg)).2.1 dr (v_X4_until cr dr rf (xs (i + 1).toNatClampNeg) (xs (i + 2).toNatClampNeg) (xs (i + 3).toNatClampNeg)).2.2.2 pl (pz) := by
    have h := rl_until (a1 := xs (i + 1).toNatClampNeg) (a2 := xs (i + 2).toNatClampNeg) (a3 := xs (i + 3).toNatClampNeg) hR
    rcases hw with ⟨hx0, rfl, rfl⟩ | ⟨E, hxE, rfl, rfl⟩
    · have h := h.1 hx0
      exact ⟨_, _, _, _, _, _, LB_c B, h.1.symm, fun _ => by rw [h.2.1], h.2.2⟩
    · have h := h.2 E hxE
      exact ⟨_, _, _, _, _, _, LB_c0 B, h.1.symm, fun q => absurd q (xcd_0 E), h.2⟩
  refine lv_istore (lv' := [(5, .int r), (4, .int i), (0, .ref b), (1, .ref (ad 0)), (2, .ref (ad 24)), (3, .ref (ad 23))]) hx hb dL_law_2060 hl (by decide) rfl (fun ls hl => ?_)
  refine lv_aload_n hx hb dL_law_2062 rfl (lv_at hl 4 rfl) ?_
  refine lv_aload_n hx hb dL_law_2063 rfl (lv_at hl 2 rfl) ?_
  refine lv_iload hx hb dL_law_2064 (lv_at hl 1 rfl) ?_
  refine lv_iconst (v := 1) hx hb dL_law_2066 (by decide) ?_
  refine lv_iadd hx hb dL_law_2067 ?_
  refine va_sld hx hb hXs hbl hbA B.2.2 (ix_k hi0 hiL hL (z := 1) rfl (by decide) (by decide)) dL_law_2068 ?_
  refine lv_aload_n hx hb dL_law_2069 rfl (lv_at hl 2 rfl) ?_
  refine lv_iload hx hb dL_law_2070 (lv_at hl 1 rfl) ?_
  refine lv_iconst (v := 2) hx hb dL_law_2072 (by decide) ?_
  refine lv_iadd hx hb dL_law_2073 ?_
  refine va_sld hx hb hXs hbl hbA B.2.2 (ix_k hi0 hiL hL (z := 2) rfl (by decide) (by decide)) dL_law_2074 ?_
  refine lv_aload_n hx hb dL_law_2075 rfl (lv_at hl 2 rfl) ?_
  refine lv_iload hx hb dL_law_2076 (lv_at hl 1 rfl) ?_
  refine lv_iconst (v := 3) hx hb dL_law_2078 (by decide) ?_
  refine lv_iadd hx hb dL_law_2079 ?_
  refine va_sld hx hb hXs hbl hbA B.2.2 (ix_k hi0 hiL hL (z := 3) rfl (by decide) (by decide)) dL_law_2080 ?_
  refine k_i (k := C + 6) (n := S + 27) hA B (b_V (q := 24) (rest := []) rfl X (c_X4_until l g (36 + pz) ad (yc g ad n' v' sp' dy' la' kn re') cr dr th kn rf pl pz mc (Nat.le_refl _) (ad 24) rfl (xs (i + 1).toNatClampNeg) (xs (i + 2).toNatClampNeg) (xs (i + 3).toNatClampNeg) hdr H.size) mw_X4_until md_X4_until rfl lk_L_315 ⟨(Nat.le_of_ble_eq_true rfl), (Nat.le_of_ble_eq_true rfl)⟩ hA hK hT B (by omega) mg_24 rfl rfl hl.1 rfl (Nat.le_of_ble_eq_true rfl) dL_law_2081 ⟨by show C + 3 + _ ≤ 757246; dsimp only [rm]; omega, by show S + 18 + _ ≤ 6824365; dsimp only [rm]; omega⟩) (by dsimp only [rm]; omega) (by dsimp only [rm]; omega) (fun r2 ad' f' H locs hw B => ?_)
  dsimp only at hw
  obtain ⟨had, hr2, rfl⟩ := hw
  have had : ∀ k, k < 28 → ad' k = ad k := fun k hk => had k (by omega) (Or.inl hk)
  have B := LB_m B had
  have hl : lv_has ls 7 [(5, .int r), (4, .int i), (0, .ref b), (1, .ref (ad' 0)), (2, .ref (ad' 24)), (3, .ref (ad' 23))] := by rw [had 0 (by omega), had 24 (by omega), had 23 (by omega)]; exact hl
  refine lv_istore (lv' := [(6, .int r2), (5, .int r), (4, .int i), (0, .ref b), (1, .ref (ad' 0)), (2, .ref (ad' 24)), (3, .ref (ad' 23))]) hx hb dL_law_2084 hl (by decide) rfl (fun ls hl => ?_)
  refine lv_goto (tgt := 2441) hx hb dL_law_2086 (by decide) ?_
  refine W.widen (show C + 6 ≤ C + 1200 by omega) (show S + 27 ≤ S + 12000 by omega) ?_
  exact kk H locs ls ⟨ad', n', v', sp', dy', la', kn, re', _, _, _, _, _, _, _, hR', B, lv_sub hl [2, 3, 4, 5, 6] rfl⟩
set_option maxHeartbeats 8000000 in
theorem lc_2089 {p : Program} {l : Launch} {e : Env} {s : State} {m : MethodId} {below : List Frame} {meth : Method} {c : Code} {cw : Cond} {g : GG} {A : Nat → Prop} {b L : Nat} {xs : Nat → Int32} {C S : Nat} {Q : State → Prop} {H : Heap} {locs : List Loc} {ls : Array Slot} {i : Int32} (Y : LwC p l s m meth c cw g A b L xs) (hi0 : ¬ i < 0) (hiL : i.toInt + 5 ≤ L) (hL : L ≤ 2560) (hrC : C + 1200 ≤ 757246) (hrS : S + 12000 ≤ 6824365) (hS : LwS s g A b i H locs ls)
    (kk : ∀ (H1 : Heap) (locs1 : List Loc) (ls1 : Array Slot), LwS s g A b i H1 locs1 ls1 → W p l e room_1 s m #[.ref b] below meth c H1 locs1 (C + 1200) (S + 12000) Q (F0 m 2441 ls1 [])) : W p l e room_1 s m #[.ref b] below meth c H locs C S Q (F0 m 2089 ls []) := by
  obtain ⟨X, hfl, hK, hT, hnc, hXs, hbl, hbA, hA⟩ := Y
  obtain ⟨hx, hb, hml, hown, hts, hlocks⟩ := id X
  obtain ⟨ad, n, v, sp, dy, la, kn, re, cr, dr, th, rf, pl, pz, mc, hR, B, hl⟩ := hS
  obtain ⟨hla, hlb, hz, hdr⟩ := Rq_b hR
  refine lv_aload_n hx hb dL_law_2089 rfl (lv_at hl 2 rfl) ?_
  refine lv_aload_n hx hb dL_law_2090 rfl (lv_at hl 1 rfl) ?_
  refine lv_iload hx hb dL_law_2091 (lv_at hl 0 rfl) ?_
  refine lv_iconst (v := 1) hx hb dL_law_2093 (by decide) ?_
  refine lv_iadd hx hb dL_law_2094 ?_
  refine va_sld hx hb hXs hbl hbA B.2.2 (ix_k hi0 hiL hL (z := 1) rfl (by decide) (by decide)) dL_law_2095 ?_
  refine lv_aload_n hx hb dL_law_2096 rfl (lv_at hl 1 rfl) ?_
  refine lv_iload hx hb dL_law_2097 (lv_at hl 0 rfl) ?_
  refine lv_iconst (v := 2) hx hb dL_law_2099 (by decide) ?_
  refine lv_iadd hx hb dL_law_2100 ?_
  refine va_sld hx hb hXs hbl hbA B.2.2 (ix_k hi0 hiL hL (z := 2) rfl (by decide) (by decide)) dL_law_2101 ?_
  refine lv_aload_n hx hb dL_law_2102 rfl (lv_at hl 4 rfl) ?_
  have B : WB g A s.heap (36 + pz) ad (cf g ad (LW g ad n v sp dy la kn re cr dr th kn rf pl pz mc) sp dy la kn re) H locs := LW_c ▸ B
  refine k_i (k := C + 2) (n := S + 12) hA B (u_SW (rest := []) X (c_L_ofDate l hfl g (36 + pz) ad (LW g ad n v sp dy la kn re cr dr th kn rf pl pz mc) sp dy la kn re n v (by omega) LW_23 hla hlb (xs (i + 1).toNatClampNeg) (xs (i + 2).toNatClampNeg) H.size) mw_L_ofDate md_L_ofDate rfl lk_L_316 ⟨(Nat.le_of_ble_eq_true rfl), (Nat.le_of_ble_eq_true rfl)⟩ hA hK hT hnc B hl.1 rfl (Nat.le_of_ble_eq_true rfl) dL_law_2103 ⟨by show C + _ ≤ 757246; dsimp only [rm]; omega, by show S + _ ≤ 6824365; dsimp only [rm]; omega⟩) (by dsimp only [rm]; omega) (by dsimp only [rm]; omega) (fun r ad' f' H locs hw B => ?_)
  dsimp only at hw
  obtain ⟨rfl, hw⟩ := hw
  obtain ⟨n', v', sp', dy', la', re', B, hr, hv, hR'⟩ : ∃ (n' : Int64) (v' : Option Nat) (sp' dy' : Nat → TR) (la' re' : Int32), WB g A s.heap (36 + pz) ad (LW g ad n' v' sp' dy' la' kn re' cr dr th kn rf pl pz mc) H locs ∧ r = (v_X4_ofDate dr (xs (i + 1).toNatClampNeg) (xs (i + 2).toNatClampNeg)).2 ∧ (r = 0 → n' = ((v_X4_ofDate dr (xs (i + 1).toNatClampNeg) (xs (i + 2).toNatClampNeg)).1).toInt64) ∧ Rq sp' dy' la' re' cr dr rf pl (pz) := by
    have h := rl_ofDate (a1 := xs (i + 1).toNatClampNeg) (a2 := xs (i + 2).toNatClampNeg) hR
    rcases hw with ⟨hx0, rfl, rfl⟩ | ⟨E, hxE, rfl, rfl⟩
    · have h := h.1 hx0
      exact ⟨_, _, _, _, _, _, LB_c B, h.1.symm, fun _ => by rw [h.2.1], hR⟩
    · have h := h.2 E hxE
      exact ⟨_, _, _, _, _, _, LB_c0 B, h.1.symm, fun q => absurd q (xcd_0 E), hR⟩
  refine lv_istore (lv' := [(5, .int r), (4, .int i), (0, .ref b), (1, .ref (ad 0)), (2, .ref (ad 24)), (3, .ref (ad 23))]) hx hb dL_law_2106 hl (by decide) rfl (fun ls hl => ?_)
  refine lv_aload_n hx hb dL_law_2108 rfl (lv_at hl 4 rfl) ?_
  refine lv_aload_n hx hb dL_law_2109 rfl (lv_at hl 2 rfl) ?_
  refine lv_iload hx hb dL_law_2110 (lv_at hl 1 rfl) ?_
  refine lv_iconst (v := 1) hx hb dL_law_2112 (by decide) ?_
  refine lv_iadd hx hb dL_law_2113 ?_
  refine va_sld hx hb hXs hbl hbA B.2.2 (ix_k hi0 hiL hL (z := 1) rfl (by decide) (by decide)) dL_law_2114 ?_
  refine lv_aload_n hx hb dL_law_2115 rfl (lv_at hl 2 rfl) ?_
  refine lv_iload hx hb dL_law_2116 (lv_at hl 1 rfl) ?_
  refine lv_iconst (v := 2) hx hb dL_law_2118 (by decide) ?_
  refine lv_iadd hx hb dL_law_2119 ?_
  refine va_sld hx hb hXs hbl hbA B.2.2 (ix_k hi0 hiL hL (z := 2) rfl (by decide) (by decide)) dL_law_2120 ?_
  refine k_i (k := C + 2) (n := S + 12) hA B (b_V (q := 24) (rest := []) rfl X (c_X4_ofDate l g (36 + pz) ad (yc g ad n' v' sp' dy' la' kn re') cr dr th kn rf pl pz mc (Nat.le_refl _) (ad 24) rfl (xs (i + 1).toNatClampNeg) (xs (i + 2).toNatClampNeg) hdr H.size) mw_X4_ofDate md_X4_ofDate rfl lk_L_318 ⟨(Nat.le_of_ble_eq_true rfl), (Nat.le_of_ble_eq_true rfl)⟩ hA hK hT B (by omega) mg_24 rfl rfl hl.1 rfl (Nat.le_of_ble_eq_true rfl) dL_law_2121 ⟨by show C + 2 + _ ≤ 757246; dsimp only [rm]; omega, by show S + 12 + _ ≤ 6824365; dsimp only [rm]; omega⟩) (by dsimp only [rm]; omega) (by dsimp only [rm]; omega) (fun r2 ad' f' H locs hw B => ?_)
  dsimp only at hw
  obtain ⟨rfl, hr2, rfl⟩ := hw
  have B := LB_m B (fun _ _ => rfl)
  refine lv_istore (lv' := [(6, .int r2), (5, .int r), (4, .int i), (0, .ref b), (1, .ref (ad 0)), (2, .ref (ad 24)), (3, .ref (ad 23))]) hx hb dL_law_2124 hl (by decide) rfl (fun ls hl => ?_)
  refine lv_goto (tgt := 2441) hx hb dL_law_2126 (by decide) ?_
  refine W.widen (show C + 2 ≤ C + 1200 by omega) (show S + 12 ≤ S + 12000 by omega) ?_
  exact kk H locs ls ⟨ad, n', v', sp', dy', la', kn, re', _, _, _, _, _, _, _, hR', B, lv_sub hl [2, 3, 4, 5, 6] rfl⟩
set_option maxHeartbeats 8000000 in
theorem lc_2129 {p : Program} {l : Launch} {e : Env} {s : State} {m : MethodId} {below : List Frame} {meth : Method} {c : Code} {cw : Cond} {g : GG} {A : Nat → Prop} {b L : Nat} {xs : Nat → Int32} {C S : Nat} {Q : State → Prop} {H : Heap} {locs : List Loc} {ls : Array Slot} {i : Int32} (Y : LwC p l s m meth c cw g A b L xs) (hi0 : ¬ i < 0) (hiL : i.toInt + 5 ≤ L) (hL : L ≤ 2560) (hrC : C + 1200 ≤ 757246) (hrS : S + 12000 ≤ 6824365) (hS : LwS s g A b i H locs ls)
    (kk : ∀ (H1 : Heap) (locs1 : List Loc) (ls1 : Array Slot), LwS s g A b i H1 locs1 ls1 → W p l e room_1 s m #[.ref b] below meth c H1 locs1 (C + 1200) (S + 12000) Q (F0 m 2441 ls1 [])) : W p l e room_1 s m #[.ref b] below meth c H locs C S Q (F0 m 2129 ls []) := by
  obtain ⟨X, hfl, hK, hT, hnc, hXs, hbl, hbA, hA⟩ := Y
  obtain ⟨hx, hb, hml, hown, hts, hlocks⟩ := id X
  obtain ⟨ad, n, v, sp, dy, la, kn, re, cr, dr, th, rf, pl, pz, mc, hR, B, hl⟩ := hS
  obtain ⟨hla, hlb, hz, hdr⟩ := Rq_b hR
  refine lv_aload_n hx hb dL_law_2129 rfl (lv_at hl 2 rfl) ?_
  refine lv_aload_n hx hb dL_law_2130 rfl (lv_at hl 1 rfl) ?_
  refine lv_iload hx hb dL_law_2131 (lv_at hl 0 rfl) ?_
  refine lv_iconst (v := 1) hx hb dL_law_2133 (by decide) ?_
  refine lv_iadd hx hb dL_law_2134 ?_
  refine va_sld hx hb hXs hbl hbA B.2.2 (ix_k hi0 hiL hL (z := 1) rfl (by decide) (by decide)) dL_law_2135 ?_
  refine lv_aload_n hx hb dL_law_2136 rfl (lv_at hl 4 rfl) ?_
  have B : WB g A s.heap (36 + pz) ad (cf g ad (LW g ad n v sp dy la kn re cr dr th kn rf pl pz mc) sp dy la kn re) H locs := LW_c ▸ B
  refine k_i (k := C + 7) (n := S + 172) hA B (u_SW (rest := []) X (c_L_dateText l hfl g (36 + pz) ad (LW g ad n v sp dy la kn re cr dr th kn rf pl pz mc) sp dy la kn re n v (by omega) LW_23 hla hlb (xs (i + 1).toNatClampNeg) H.size) mw_L_dateText md_L_dateText rfl lk_L_319 ⟨(Nat.le_of_ble_eq_true rfl), (Nat.le_of_ble_eq_true rfl)⟩ hA hK hT hnc B hl.1 rfl (Nat.le_of_ble_eq_true rfl) dL_law_2137 ⟨by show C + _ ≤ 757246; dsimp only [rm]; omega, by show S + _ ≤ 6824365; dsimp only [rm]; omega⟩) (by dsimp only [rm]; omega) (by dsimp only [rm]; omega) (fun r ad' f' H locs hw B => ?_)
  dsimp only at hw
  obtain ⟨rfl, hw⟩ := hw
  obtain ⟨n', v', sp', dy', la', re', B, hR'⟩ : ∃ (n' : Int64) (v' : Option Nat) (sp' dy' : Nat → TR) (la' re' : Int32), WB g A s.heap (36 + pz) ad (LW g ad n' v' sp' dy' la' kn re' cr dr th kn rf pl pz mc) H locs ∧ Rq sp' dy' la' re' cr dr rf pl pz := by
    rcases hw with ⟨hx0, -, a8, rfl⟩ | ⟨E, -, -, rfl⟩
    · exact ⟨_, _, _, _, _, _, LB_c B, hR⟩
    · exact ⟨_, _, _, _, _, _, LB_c0 B, hR⟩
  refine lv_istore (lv' := [(5, .int r), (4, .int i), (0, .ref b), (1, .ref (ad 0)), (2, .ref (ad 24)), (3, .ref (ad 23))]) hx hb dL_law_2140 hl (by decide) rfl (fun ls hl => ?_)
  refine lv_aload_n hx hb dL_law_2142 rfl (lv_at hl 4 rfl) ?_
  refine lv_aload_n hx hb dL_law_2143 rfl (lv_at hl 2 rfl) ?_
  refine lv_iload hx hb dL_law_2144 (lv_at hl 1 rfl) ?_
  refine lv_iconst (v := 1) hx hb dL_law_2146 (by decide) ?_
  refine lv_iadd hx hb dL_law_2147 ?_
  refine va_sld hx hb hXs hbl hbA B.2.2 (ix_k hi0 hiL hL (z := 1) rfl (by decide) (by decide)) dL_law_2148 ?_
  refine k_r (k := C + 11) (n := S + 206) hA B (b_V (q := 24) (rest := []) rfl X (c_X4_dateText l g (36 + pz) ad (yc g ad n' v' sp' dy' la' kn re') cr dr th kn rf pl pz mc (Nat.le_refl _) (ad 24) rfl (xs (i + 1).toNatClampNeg) hdr H.size) mw_X4_dateText md_X4_dateText rfl lk_L_321 ⟨(Nat.le_of_ble_eq_true rfl), (Nat.le_of_ble_eq_true rfl)⟩ hA hK hT B (by omega) mg_24 rfl rfl hl.1 rfl (Nat.le_of_ble_eq_true rfl) dL_law_2149 ⟨by show C + 7 + _ ≤ 757246; dsimp only [rm]; omega, by show S + 172 + _ ≤ 6824365; dsimp only [rm]; omega⟩) (by dsimp only [rm]; omega) (by dsimp only [rm]; omega) (fun r2 ad' f' H locs hw B => ?_)
  dsimp only at hw
  obtain ⟨rfl, ⟨a9, rfl⟩, rfl⟩ := hw
  have B := LB_m B (fun _ _ => rfl)
  refine lv_astore (lv' := [(6, .ref a9), (5, .int r), (4, .int i), (0, .ref b), (1, .ref (ad 0)), (2, .ref (ad 24)), (3, .ref (ad 23))]) hx hb dL_law_2152 hl (by decide) rfl (fun ls hl => ?_)
  refine lv_goto (tgt := 2441) hx hb dL_law_2154 (by decide) ?_
  refine W.widen (show C + 11 ≤ C + 1200 by omega) (show S + 206 ≤ S + 12000 by omega) ?_
  exact kk H locs ls ⟨ad, n', v', sp', dy', la', kn, re', _, _, _, _, _, _, _, hR', B, lv_sub hl [2, 3, 4, 5, 6] rfl⟩
set_option maxHeartbeats 8000000 in
theorem lc_2157 {p : Program} {l : Launch} {e : Env} {s : State} {m : MethodId} {below : List Frame} {meth : Method} {c : Code} {cw : Cond} {g : GG} {A : Nat → Prop} {b L : Nat} {xs : Nat → Int32} {C S : Nat} {Q : State → Prop} {H : Heap} {locs : List Loc} {ls : Array Slot} {i : Int32} (Y : LwC p l s m meth c cw g A b L xs) (hi0 : ¬ i < 0) (hiL : i.toInt + 5 ≤ L) (hL : L ≤ 2560) (hrC : C + 1200 ≤ 757246) (hrS : S + 12000 ≤ 6824365) (hS : LwS s g A b i H locs ls)
    (kk : ∀ (H1 : Heap) (locs1 : List Loc) (ls1 : Array Slot), LwS s g A b i H1 locs1 ls1 → W p l e room_1 s m #[.ref b] below meth c H1 locs1 (C + 1200) (S + 12000) Q (F0 m 2441 ls1 [])) : W p l e room_1 s m #[.ref b] below meth c H locs C S Q (F0 m 2157 ls []) := by
  obtain ⟨X, hfl, hK, hT, hnc, hXs, hbl, hbA, hA⟩ := Y
  obtain ⟨hx, hb, hml, hown, hts, hlocks⟩ := id X
  obtain ⟨ad, n, v, sp, dy, la, kn, re, cr, dr, th, rf, pl, pz, mc, hR, B, hl⟩ := hS
  obtain ⟨hla, hlb, hz, hdr⟩ := Rq_b hR
  refine lv_aload_n hx hb dL_law_2157 rfl (lv_at hl 2 rfl) ?_
  refine lv_aload_n hx hb dL_law_2158 rfl (lv_at hl 1 rfl) ?_
  refine lv_iload hx hb dL_law_2159 (lv_at hl 0 rfl) ?_
  refine lv_iconst (v := 1) hx hb dL_law_2161 (by decide) ?_
  refine lv_iadd hx hb dL_law_2162 ?_
  refine va_sld hx hb hXs hbl hbA B.2.2 (ix_k hi0 hiL hL (z := 1) rfl (by decide) (by decide)) dL_law_2163 ?_
  refine lv_aload_n hx hb dL_law_2164 rfl (lv_at hl 1 rfl) ?_
  refine lv_iload hx hb dL_law_2165 (lv_at hl 0 rfl) ?_
  refine lv_iconst (v := 2) hx hb dL_law_2167 (by decide) ?_
  refine lv_iadd hx hb dL_law_2168 ?_
  refine va_sld hx hb hXs hbl hbA B.2.2 (ix_k hi0 hiL hL (z := 2) rfl (by decide) (by decide)) dL_law_2169 ?_
  refine lv_aload_n hx hb dL_law_2170 rfl (lv_at hl 1 rfl) ?_
  refine lv_iload hx hb dL_law_2171 (lv_at hl 0 rfl) ?_
  refine lv_iconst (v := 3) hx hb dL_law_2173 (by decide) ?_
  refine lv_iadd hx hb dL_law_2174 ?_
  refine va_sld hx hb hXs hbl hbA B.2.2 (ix_k hi0 hiL hL (z := 3) rfl (by decide) (by decide)) dL_law_2175 ?_
  refine p_bool (t1 := 2183) (t2 := 2184) hx hb dL_law_2176 (by decide) (fun Y => lv_iconst (v := 1) hx hb dL_law_2179 (by decide) (lv_goto (tgt := 2184) hx hb dL_law_2180 (by decide) Y)) (fun Y => lv_iconst (v := 0) hx hb dL_law_2183 (by decide) Y) ?_
  refine lv_aload_n hx hb dL_law_2184 rfl (lv_at hl 4 rfl) ?_
  have B : WB g A s.heap (36 + pz) ad (cf g ad (LW g ad n v sp dy la kn re cr dr th kn rf pl pz mc) sp dy la kn re) H locs := LW_c ▸ B
  refine k_i (k := C + 8) (n := S + 178) hA B (u_SW (rest := []) X (c_L_moved l hfl g (36 + pz) ad (LW g ad n v sp dy la kn re cr dr th kn rf pl pz mc) sp dy la kn re n v (by omega) LW_23 hla hlb (xs (i + 1).toNatClampNeg) (xs (i + 2).toNatClampNeg) (bz (xs (i + 3).toNatClampNeg)) H.size) mw_L_moved md_L_moved rfl lk_L_322 ⟨(Nat.le_of_ble_eq_true rfl), (Nat.le_of_ble_eq_true rfl)⟩ hA hK hT hnc B hl.1 rfl (Nat.le_of_ble_eq_true rfl) dL_law_2185 ⟨by show C + _ ≤ 757246; dsimp only [rm]; omega, by show S + _ ≤ 6824365; dsimp only [rm]; omega⟩) (by dsimp only [rm]; omega) (by dsimp only [rm]; omega) (fun r ad' f' H locs hw B => ?_)
  dsimp only at hw
  obtain ⟨rfl, hw⟩ := hw
  obtain ⟨n', v', sp', dy', la', re', B, hR'⟩ : ∃ (n' : Int64) (v' : Option Nat) (sp' dy' : Nat → TR) (la' re' : Int32), WB g A s.heap (36 + pz) ad (LW g ad n' v' sp' dy' la' kn re' cr dr th kn rf pl pz mc) H locs ∧ Rq sp' dy' la' re' cr dr rf pl pz := by
    rcases hw with ⟨hx0, -, a8, rfl⟩ | ⟨E, -, -, rfl⟩
    · exact ⟨_, _, _, _, _, _, LB_c B, rl_moved (x_da hx0).1 hR⟩
    · exact ⟨_, _, _, _, _, _, LB_c0 B, hR⟩
  refine lv_istore (lv' := [(5, .int r), (4, .int i), (0, .ref b), (1, .ref (ad 0)), (2, .ref (ad 24)), (3, .ref (ad 23))]) hx hb dL_law_2188 hl (by decide) rfl (fun ls hl => ?_)
  refine lv_aload_n hx hb dL_law_2190 rfl (lv_at hl 4 rfl) ?_
  refine lv_aload_n hx hb dL_law_2191 rfl (lv_at hl 2 rfl) ?_
  refine lv_iload hx hb dL_law_2192 (lv_at hl 1 rfl) ?_
  refine lv_iconst (v := 1) hx hb dL_law_2194 (by decide) ?_
  refine lv_iadd hx hb dL_law_2195 ?_
  refine va_sld hx hb hXs hbl hbA B.2.2 (ix_k hi0 hiL hL (z := 1) rfl (by decide) (by decide)) dL_law_2196 ?_
  refine lv_aload_n hx hb dL_law_2197 rfl (lv_at hl 2 rfl) ?_
  refine lv_iload hx hb dL_law_2198 (lv_at hl 1 rfl) ?_
  refine lv_iconst (v := 2) hx hb dL_law_2200 (by decide) ?_
  refine lv_iadd hx hb dL_law_2201 ?_
  refine va_sld hx hb hXs hbl hbA B.2.2 (ix_k hi0 hiL hL (z := 2) rfl (by decide) (by decide)) dL_law_2202 ?_
  refine lv_aload_n hx hb dL_law_2203 rfl (lv_at hl 2 rfl) ?_
  refine lv_iload hx hb dL_law_2204 (lv_at hl 1 rfl) ?_
  refine lv_iconst (v := 3) hx hb dL_law_2206 (by decide) ?_
  refine lv_iadd hx hb dL_law_2207 ?_
  refine va_sld hx hb hXs hbl hbA B.2.2 (ix_k hi0 hiL hL (z := 3) rfl (by decide) (by decide)) dL_law_2208 ?_
  refine p_bool (t1 := 2216) (t2 := 2217) hx hb dL_law_2209 (by decide) (fun Y => lv_iconst (v := 1) hx hb dL_law_2212 (by decide) (lv_goto (tgt := 2217) hx hb dL_law_2213 (by decide) Y)) (fun Y => lv_iconst (v := 0) hx hb dL_law_2216 (by decide) Y) ?_
  refine k_r (k := C + 14) (n := S + 218) hA B (b_V (q := 24) (rest := []) rfl X (c_X4_moved l g (36 + pz) ad (yc g ad n' v' sp' dy' la' kn re') cr dr th kn rf pl pz mc (Nat.le_refl _) (ad 24) rfl (xs (i + 1).toNatClampNeg) (xs (i + 2).toNatClampNeg) (bz (xs (i + 3).toNatClampNeg)) hdr H.size) mw_X4_moved md_X4_moved rfl lk_L_324 ⟨(Nat.le_of_ble_eq_true rfl), (Nat.le_of_ble_eq_true rfl)⟩ hA hK hT B (by omega) mg_24 rfl rfl hl.1 rfl (Nat.le_of_ble_eq_true rfl) dL_law_2217 ⟨by show C + 8 + _ ≤ 757246; dsimp only [rm]; omega, by show S + 178 + _ ≤ 6824365; dsimp only [rm]; omega⟩) (by dsimp only [rm]; omega) (by dsimp only [rm]; omega) (fun r2 ad' f' H locs hw B => ?_)
  dsimp only at hw
  obtain ⟨rfl, ⟨a9, rfl⟩, rfl⟩ := hw
  have B := LB_m B (fun _ _ => rfl)
  refine lv_astore (lv' := [(6, .ref a9), (5, .int r), (4, .int i), (0, .ref b), (1, .ref (ad 0)), (2, .ref (ad 24)), (3, .ref (ad 23))]) hx hb dL_law_2220 hl (by decide) rfl (fun ls hl => ?_)
  refine lv_goto (tgt := 2441) hx hb dL_law_2222 (by decide) ?_
  refine W.widen (show C + 14 ≤ C + 1200 by omega) (show S + 218 ≤ S + 12000 by omega) ?_
  exact kk H locs ls ⟨ad, n', v', sp', dy', la', kn, re', _, _, _, _, _, _, _, hR', B, lv_sub hl [2, 3, 4, 5, 6] rfl⟩
set_option maxHeartbeats 8000000 in
theorem lc_2225 {p : Program} {l : Launch} {e : Env} {s : State} {m : MethodId} {below : List Frame} {meth : Method} {c : Code} {cw : Cond} {g : GG} {A : Nat → Prop} {b L : Nat} {xs : Nat → Int32} {C S : Nat} {Q : State → Prop} {H : Heap} {locs : List Loc} {ls : Array Slot} {i : Int32} (Y : LwC p l s m meth c cw g A b L xs) (hi0 : ¬ i < 0) (hiL : i.toInt + 5 ≤ L) (hL : L ≤ 2560) (hrC : C + 1200 ≤ 757246) (hrS : S + 12000 ≤ 6824365) (hS : LwS s g A b i H locs ls)
    (kk : ∀ (H1 : Heap) (locs1 : List Loc) (ls1 : Array Slot), LwS s g A b i H1 locs1 ls1 → W p l e room_1 s m #[.ref b] below meth c H1 locs1 (C + 1200) (S + 12000) Q (F0 m 2441 ls1 [])) : W p l e room_1 s m #[.ref b] below meth c H locs C S Q (F0 m 2225 ls []) := by
  obtain ⟨X, hfl, hK, hT, hnc, hXs, hbl, hbA, hA⟩ := Y
  obtain ⟨hx, hb, hml, hown, hts, hlocks⟩ := id X
  obtain ⟨ad, n, v, sp, dy, la, kn, re, cr, dr, th, rf, pl, pz, mc, hR, B, hl⟩ := hS
  obtain ⟨hla, hlb, hz, hdr⟩ := Rq_b hR
  refine lv_aload_n hx hb dL_law_2225 rfl (lv_at hl 2 rfl) ?_
  refine lv_aload_n hx hb dL_law_2226 rfl (lv_at hl 1 rfl) ?_
  refine lv_iload hx hb dL_law_2227 (lv_at hl 0 rfl) ?_
  refine lv_iconst (v := 1) hx hb dL_law_2229 (by decide) ?_
  refine lv_iadd hx hb dL_law_2230 ?_
  refine va_sld hx hb hXs hbl hbA B.2.2 (ix_k hi0 hiL hL (z := 1) rfl (by decide) (by decide)) dL_law_2231 ?_
  refine lv_aload_n hx hb dL_law_2232 rfl (lv_at hl 1 rfl) ?_
  refine lv_iload hx hb dL_law_2233 (lv_at hl 0 rfl) ?_
  refine lv_iconst (v := 2) hx hb dL_law_2235 (by decide) ?_
  refine lv_iadd hx hb dL_law_2236 ?_
  refine va_sld hx hb hXs hbl hbA B.2.2 (ix_k hi0 hiL hL (z := 2) rfl (by decide) (by decide)) dL_law_2237 ?_
  refine lv_aload_n hx hb dL_law_2238 rfl (lv_at hl 4 rfl) ?_
  have B : WB g A s.heap (36 + pz) ad (cf g ad (LW g ad n v sp dy la kn re cr dr th kn rf pl pz mc) sp dy la kn re) H locs := LW_c ▸ B
  refine k_i (k := C + 8) (n := S + 178) hA B (u_SW (rest := []) X (c_L_apart l hfl g (36 + pz) ad (LW g ad n v sp dy la kn re cr dr th kn rf pl pz mc) sp dy la kn re n v (by omega) LW_23 hla hlb (xs (i + 1).toNatClampNeg) (xs (i + 2).toNatClampNeg) H.size) mw_L_apart md_L_apart rfl lk_L_325 ⟨(Nat.le_of_ble_eq_true rfl), (Nat.le_of_ble_eq_true rfl)⟩ hA hK hT hnc B hl.1 rfl (Nat.le_of_ble_eq_true rfl) dL_law_2239 ⟨by show C + _ ≤ 757246; dsimp only [rm]; omega, by show S + _ ≤ 6824365; dsimp only [rm]; omega⟩) (by dsimp only [rm]; omega) (by dsimp only [rm]; omega) (fun r ad' f' H locs hw B => ?_)
  dsimp only at hw
  obtain ⟨rfl, hw⟩ := hw
  obtain ⟨n', v', sp', dy', la', re', B, hR'⟩ : ∃ (n' : Int64) (v' : Option Nat) (sp' dy' : Nat → TR) (la' re' : Int32), WB g A s.heap (36 + pz) ad (LW g ad n' v' sp' dy' la' kn re' cr dr th kn rf pl pz mc) H locs ∧ Rq sp' dy' la' re' cr dr rf pl pz := by
    rcases hw with ⟨hx0, -, a8, rfl⟩ | ⟨E, -, -, rfl⟩
    · exact ⟨_, _, _, _, _, _, LB_c B, rl_apart (x_da hx0).1 (x_da (x_da hx0).2).1 hR⟩
    · exact ⟨_, _, _, _, _, _, LB_c0 B, hR⟩
  refine lv_istore (lv' := [(5, .int r), (4, .int i), (0, .ref b), (1, .ref (ad 0)), (2, .ref (ad 24)), (3, .ref (ad 23))]) hx hb dL_law_2242 hl (by decide) rfl (fun ls hl => ?_)
  refine lv_aload_n hx hb dL_law_2244 rfl (lv_at hl 4 rfl) ?_
  refine lv_aload_n hx hb dL_law_2245 rfl (lv_at hl 2 rfl) ?_
  refine lv_iload hx hb dL_law_2246 (lv_at hl 1 rfl) ?_
  refine lv_iconst (v := 1) hx hb dL_law_2248 (by decide) ?_
  refine lv_iadd hx hb dL_law_2249 ?_
  refine va_sld hx hb hXs hbl hbA B.2.2 (ix_k hi0 hiL hL (z := 1) rfl (by decide) (by decide)) dL_law_2250 ?_
  refine lv_aload_n hx hb dL_law_2251 rfl (lv_at hl 2 rfl) ?_
  refine lv_iload hx hb dL_law_2252 (lv_at hl 1 rfl) ?_
  refine lv_iconst (v := 2) hx hb dL_law_2254 (by decide) ?_
  refine lv_iadd hx hb dL_law_2255 ?_
  refine va_sld hx hb hXs hbl hbA B.2.2 (ix_k hi0 hiL hL (z := 2) rfl (by decide) (by decide)) dL_law_2256 ?_
  refine k_r (k := C + 16) (n := S + 350) hA B (b_V (q := 24) (rest := []) rfl X (c_X4_apart_ l g (36 + pz) ad (yc g ad n' v' sp' dy' la' kn re') cr dr th kn rf pl pz mc (Nat.le_refl _) (ad 24) rfl (xs (i + 1).toNatClampNeg) (xs (i + 2).toNatClampNeg) hdr H.size) mw_X4_apart_ md_X4_apart_ rfl lk_L_327 ⟨(Nat.le_of_ble_eq_true rfl), (Nat.le_of_ble_eq_true rfl)⟩ hA hK hT B (by omega) mg_24 rfl rfl hl.1 rfl (Nat.le_of_ble_eq_true rfl) dL_law_2257 ⟨by show C + 8 + _ ≤ 757246; dsimp only [rm]; omega, by show S + 178 + _ ≤ 6824365; dsimp only [rm]; omega⟩) (by dsimp only [rm]; omega) (by dsimp only [rm]; omega) (fun r2 ad' f' H locs hw B => ?_)
  dsimp only at hw
  obtain ⟨rfl, ⟨a9, rfl⟩, rfl⟩ := hw
  have B := LB_m B (fun _ _ => rfl)
  refine lv_astore (lv' := [(6, .ref a9), (5, .int r), (4, .int i), (0, .ref b), (1, .ref (ad 0)), (2, .ref (ad 24)), (3, .ref (ad 23))]) hx hb dL_law_2260 hl (by decide) rfl (fun ls hl => ?_)
  refine lv_goto (tgt := 2441) hx hb dL_law_2262 (by decide) ?_
  refine W.widen (show C + 16 ≤ C + 1200 by omega) (show S + 350 ≤ S + 12000 by omega) ?_
  exact kk H locs ls ⟨ad, n', v', sp', dy', la', kn, re', _, _, _, _, _, _, _, hR', B, lv_sub hl [2, 3, 4, 5, 6] rfl⟩
set_option maxHeartbeats 8000000 in
theorem lc_2265 {p : Program} {l : Launch} {e : Env} {s : State} {m : MethodId} {below : List Frame} {meth : Method} {c : Code} {cw : Cond} {g : GG} {A : Nat → Prop} {b L : Nat} {xs : Nat → Int32} {C S : Nat} {Q : State → Prop} {H : Heap} {locs : List Loc} {ls : Array Slot} {i : Int32} (Y : LwC p l s m meth c cw g A b L xs) (hi0 : ¬ i < 0) (hiL : i.toInt + 5 ≤ L) (hL : L ≤ 2560) (hrC : C + 1200 ≤ 757246) (hrS : S + 12000 ≤ 6824365) (hS : LwS s g A b i H locs ls)
    (kk : ∀ (H1 : Heap) (locs1 : List Loc) (ls1 : Array Slot), LwS s g A b i H1 locs1 ls1 → W p l e room_1 s m #[.ref b] below meth c H1 locs1 (C + 1200) (S + 12000) Q (F0 m 2441 ls1 [])) : W p l e room_1 s m #[.ref b] below meth c H locs C S Q (F0 m 2265 ls []) := by
  obtain ⟨X, hfl, hK, hT, hnc, hXs, hbl, hbA, hA⟩ := Y
  obtain ⟨hx, hb, hml, hown, hts, hlocks⟩ := id X
  obtain ⟨ad, n, v, sp, dy, la, kn, re, cr, dr, th, rf, pl, pz, mc, hR, B, hl⟩ := hS
  obtain ⟨hla, hlb, hz, hdr⟩ := Rq_b hR
  refine lv_aload_n hx hb dL_law_2265 rfl (lv_at hl 2 rfl) ?_
  refine lv_aload_n hx hb dL_law_2266 rfl (lv_at hl 1 rfl) ?_
  refine lv_iload hx hb dL_law_2267 (lv_at hl 0 rfl) ?_
  refine lv_iconst (v := 1) hx hb dL_law_2269 (by decide) ?_
  refine lv_iadd hx hb dL_law_2270 ?_
  refine va_sld hx hb hXs hbl hbA B.2.2 (ix_k hi0 hiL hL (z := 1) rfl (by decide) (by decide)) dL_law_2271 ?_
  refine lv_aload_n hx hb dL_law_2272 rfl (lv_at hl 1 rfl) ?_
  refine lv_iload hx hb dL_law_2273 (lv_at hl 0 rfl) ?_
  refine lv_iconst (v := 2) hx hb dL_law_2275 (by decide) ?_
  refine lv_iadd hx hb dL_law_2276 ?_
  refine va_sld hx hb hXs hbl hbA B.2.2 (ix_k hi0 hiL hL (z := 2) rfl (by decide) (by decide)) dL_law_2277 ?_
  refine lv_aload_n hx hb dL_law_2278 rfl (lv_at hl 4 rfl) ?_
  have B : WB g A s.heap (36 + pz) ad (cf g ad (LW g ad n v sp dy la kn re cr dr th kn rf pl pz mc) sp dy la kn re) H locs := LW_c ▸ B
  refine k_i (k := C + 2) (n := S + 12) hA B (u_SW (rest := []) X (c_L_isToldBack l hfl g (36 + pz) ad (LW g ad n v sp dy la kn re cr dr th kn rf pl pz mc) sp dy la kn re n v (by omega) LW_23 hla hlb (xs (i + 1).toNatClampNeg) (xs (i + 2).toNatClampNeg) H.size) mw_L_isToldBack md_L_isToldBack rfl lk_L_328 ⟨(Nat.le_of_ble_eq_true rfl), (Nat.le_of_ble_eq_true rfl)⟩ hA hK hT hnc B hl.1 rfl (Nat.le_of_ble_eq_true rfl) dL_law_2279 ⟨by show C + _ ≤ 757246; dsimp only [rm]; omega, by show S + _ ≤ 6824365; dsimp only [rm]; omega⟩) (by dsimp only [rm]; omega) (by dsimp only [rm]; omega) (fun r ad' f' H locs hw B => ?_)
  dsimp only at hw
  obtain ⟨rfl, hw⟩ := hw
  obtain ⟨n', v', sp', dy', la', re', B, hr, hv, hR'⟩ : ∃ (n' : Int64) (v' : Option Nat) (sp' dy' : Nat → TR) (la' re' : Int32), WB g A s.heap (36 + pz) ad (LW g ad n' v' sp' dy' la' kn re' cr dr th kn rf pl pz mc) H locs ∧ r = (v_X4_isToldBack dr (xs (i + 1).toNatClampNeg) (xs (i + 2).toNatClampNeg)).2 ∧ (r = 0 → n' = bl ((v_X4_isToldBack dr (xs (i + 1).toNatClampNeg) (xs (i + 2).toNatClampNeg)).1)) ∧ Rq sp' dy' la' re' cr dr rf pl (pz) := by
    have h := rl_isToldBack (a1 := xs (i + 1).toNatClampNeg) (a2 := xs (i + 2).toNatClampNeg) hR
    rcases hw with ⟨hx0, rfl, rfl⟩ | ⟨E, hxE, rfl, rfl⟩
    · have h := h.1 hx0
      exact ⟨_, _, _, _, _, _, LB_c B, h.1.symm, fun _ => by rw [h.2.1], h.2.2⟩
    · have h := h.2 E hxE
      exact ⟨_, _, _, _, _, _, LB_c0 B, h.1.symm, fun q => absurd q (xcd_0 E), hR⟩
  refine lv_istore (lv' := [(5, .int r), (4, .int i), (0, .ref b), (1, .ref (ad 0)), (2, .ref (ad 24)), (3, .ref (ad 23))]) hx hb dL_law_2282 hl (by decide) rfl (fun ls hl => ?_)
  refine lv_aload_n hx hb dL_law_2284 rfl (lv_at hl 4 rfl) ?_
  refine lv_aload_n hx hb dL_law_2285 rfl (lv_at hl 2 rfl) ?_
  refine lv_iload hx hb dL_law_2286 (lv_at hl 1 rfl) ?_
  refine lv_iconst (v := 1) hx hb dL_law_2288 (by decide) ?_
  refine lv_iadd hx hb dL_law_2289 ?_
  refine va_sld hx hb hXs hbl hbA B.2.2 (ix_k hi0 hiL hL (z := 1) rfl (by decide) (by decide)) dL_law_2290 ?_
  refine lv_aload_n hx hb dL_law_2291 rfl (lv_at hl 2 rfl) ?_
  refine lv_iload hx hb dL_law_2292 (lv_at hl 1 rfl) ?_
  refine lv_iconst (v := 2) hx hb dL_law_2294 (by decide) ?_
  refine lv_iadd hx hb dL_law_2295 ?_
  refine va_sld hx hb hXs hbl hbA B.2.2 (ix_k hi0 hiL hL (z := 2) rfl (by decide) (by decide)) dL_law_2296 ?_
  refine k_i (k := C + 6) (n := S + 24) hA B (b_V (q := 24) (rest := []) rfl X (c_X4_isToldBack l g (36 + pz) ad (yc g ad n' v' sp' dy' la' kn re') cr dr th kn rf pl pz mc (Nat.le_refl _) (ad 24) rfl (xs (i + 1).toNatClampNeg) (xs (i + 2).toNatClampNeg) hdr H.size) mw_X4_isToldBack md_X4_isToldBack rfl lk_L_330 ⟨(Nat.le_of_ble_eq_true rfl), (Nat.le_of_ble_eq_true rfl)⟩ hA hK hT B (by omega) mg_24 rfl rfl hl.1 rfl (Nat.le_of_ble_eq_true rfl) dL_law_2297 ⟨by show C + 2 + _ ≤ 757246; dsimp only [rm]; omega, by show S + 12 + _ ≤ 6824365; dsimp only [rm]; omega⟩) (by dsimp only [rm]; omega) (by dsimp only [rm]; omega) (fun r2 ad' f' H locs hw B => ?_)
  dsimp only at hw
  obtain ⟨rfl, hr2, rfl⟩ := hw
  have B := LB_m B (fun _ _ => rfl)
  refine lv_istore (lv' := [(6, .int r2), (5, .int r), (4, .int i), (0, .ref b), (1, .ref (ad 0)), (2, .ref (ad 24)), (3, .ref (ad 23))]) hx hb dL_law_2300 hl (by decide) rfl (fun ls hl => ?_)
  refine lv_goto (tgt := 2441) hx hb dL_law_2302 (by decide) ?_
  refine W.widen (show C + 6 ≤ C + 1200 by omega) (show S + 24 ≤ S + 12000 by omega) ?_
  exact kk H locs ls ⟨ad, n', v', sp', dy', la', kn, re', _, _, _, _, _, _, _, hR', B, lv_sub hl [2, 3, 4, 5, 6] rfl⟩
set_option maxHeartbeats 8000000 in
theorem lc_2305 {p : Program} {l : Launch} {e : Env} {s : State} {m : MethodId} {below : List Frame} {meth : Method} {c : Code} {cw : Cond} {g : GG} {A : Nat → Prop} {b L : Nat} {xs : Nat → Int32} {C S : Nat} {Q : State → Prop} {H : Heap} {locs : List Loc} {ls : Array Slot} {i : Int32} (Y : LwC p l s m meth c cw g A b L xs) (hi0 : ¬ i < 0) (hiL : i.toInt + 5 ≤ L) (hL : L ≤ 2560) (hrC : C + 1200 ≤ 757246) (hrS : S + 12000 ≤ 6824365) (hS : LwS s g A b i H locs ls)
    (kk : ∀ (H1 : Heap) (locs1 : List Loc) (ls1 : Array Slot), LwS s g A b i H1 locs1 ls1 → W p l e room_1 s m #[.ref b] below meth c H1 locs1 (C + 1200) (S + 12000) Q (F0 m 2441 ls1 [])) : W p l e room_1 s m #[.ref b] below meth c H locs C S Q (F0 m 2305 ls []) := by
  obtain ⟨X, hfl, hK, hT, hnc, hXs, hbl, hbA, hA⟩ := Y
  obtain ⟨hx, hb, hml, hown, hts, hlocks⟩ := id X
  obtain ⟨ad, n, v, sp, dy, la, kn, re, cr, dr, th, rf, pl, pz, mc, hR, B, hl⟩ := hS
  obtain ⟨hla, hlb, hz, hdr⟩ := Rq_b hR
  refine lv_aload_n hx hb dL_law_2305 rfl (lv_at hl 2 rfl) ?_
  refine lv_aload_n hx hb dL_law_2306 rfl (lv_at hl 1 rfl) ?_
  refine lv_iload hx hb dL_law_2307 (lv_at hl 0 rfl) ?_
  refine lv_iconst (v := 1) hx hb dL_law_2309 (by decide) ?_
  refine lv_iadd hx hb dL_law_2310 ?_
  refine va_sld hx hb hXs hbl hbA B.2.2 (ix_k hi0 hiL hL (z := 1) rfl (by decide) (by decide)) dL_law_2311 ?_
  refine lv_aload_n hx hb dL_law_2312 rfl (lv_at hl 1 rfl) ?_
  refine lv_iload hx hb dL_law_2313 (lv_at hl 0 rfl) ?_
  refine lv_iconst (v := 2) hx hb dL_law_2315 (by decide) ?_
  refine lv_iadd hx hb dL_law_2316 ?_
  refine va_sld hx hb hXs hbl hbA B.2.2 (ix_k hi0 hiL hL (z := 2) rfl (by decide) (by decide)) dL_law_2317 ?_
  refine lv_aload_n hx hb dL_law_2318 rfl (lv_at hl 4 rfl) ?_
  have B : WB g A s.heap (36 + pz) ad (cf g ad (LW g ad n v sp dy la kn re cr dr th kn rf pl pz mc) sp dy la kn re) H locs := LW_c ▸ B
  refine k_i (k := C + 2) (n := S + 12) hA B (u_SW (rest := []) X (c_L_order l hfl g (36 + pz) ad (LW g ad n v sp dy la kn re cr dr th kn rf pl pz mc) sp dy la kn re n v (by omega) LW_23 hla hlb (xs (i + 1).toNatClampNeg) (xs (i + 2).toNatClampNeg) H.size) mw_L_order md_L_order rfl lk_L_331 ⟨(Nat.le_of_ble_eq_true rfl), (Nat.le_of_ble_eq_true rfl)⟩ hA hK hT hnc B hl.1 rfl (Nat.le_of_ble_eq_true rfl) dL_law_2319 ⟨by show C + _ ≤ 757246; dsimp only [rm]; omega, by show S + _ ≤ 6824365; dsimp only [rm]; omega⟩) (by dsimp only [rm]; omega) (by dsimp only [rm]; omega) (fun r ad' f' H locs hw B => ?_)
  dsimp only at hw
  obtain ⟨rfl, hw⟩ := hw
  obtain ⟨n', v', sp', dy', la', re', B, hr, hv, hR'⟩ : ∃ (n' : Int64) (v' : Option Nat) (sp' dy' : Nat → TR) (la' re' : Int32), WB g A s.heap (36 + pz) ad (LW g ad n' v' sp' dy' la' kn re' cr dr th kn rf pl pz mc) H locs ∧ r = (v_X4_order dr (xs (i + 1).toNatClampNeg) (xs (i + 2).toNatClampNeg)).2 ∧ (r = 0 → n' = ((v_X4_order dr (xs (i + 1).toNatClampNeg) (xs (i + 2).toNatClampNeg)).1).toInt64) ∧ Rq sp' dy' la' re' cr dr rf pl (pz) := by
    have h := rl_order (a1 := xs (i + 1).toNatClampNeg) (a2 := xs (i + 2).toNatClampNeg) hR
    rcases hw with ⟨hx0, rfl, rfl⟩ | ⟨E, hxE, rfl, rfl⟩
    · have h := h.1 hx0
      exact ⟨_, _, _, _, _, _, LB_c B, h.1.symm, fun _ => by rw [h.2.1], hR⟩
    · have h := h.2 E hxE
      exact ⟨_, _, _, _, _, _, LB_c0 B, h.1.symm, fun q => absurd q (xcd_0 E), hR⟩
  refine lv_istore (lv' := [(5, .int r), (4, .int i), (0, .ref b), (1, .ref (ad 0)), (2, .ref (ad 24)), (3, .ref (ad 23))]) hx hb dL_law_2322 hl (by decide) rfl (fun ls hl => ?_)
  refine lv_aload_n hx hb dL_law_2324 rfl (lv_at hl 4 rfl) ?_
  refine lv_aload_n hx hb dL_law_2325 rfl (lv_at hl 2 rfl) ?_
  refine lv_iload hx hb dL_law_2326 (lv_at hl 1 rfl) ?_
  refine lv_iconst (v := 1) hx hb dL_law_2328 (by decide) ?_
  refine lv_iadd hx hb dL_law_2329 ?_
  refine va_sld hx hb hXs hbl hbA B.2.2 (ix_k hi0 hiL hL (z := 1) rfl (by decide) (by decide)) dL_law_2330 ?_
  refine lv_aload_n hx hb dL_law_2331 rfl (lv_at hl 2 rfl) ?_
  refine lv_iload hx hb dL_law_2332 (lv_at hl 1 rfl) ?_
  refine lv_iconst (v := 2) hx hb dL_law_2334 (by decide) ?_
  refine lv_iadd hx hb dL_law_2335 ?_
  refine va_sld hx hb hXs hbl hbA B.2.2 (ix_k hi0 hiL hL (z := 2) rfl (by decide) (by decide)) dL_law_2336 ?_
  refine k_i (k := C + 2) (n := S + 12) hA B (b_V (q := 24) (rest := []) rfl X (c_X4_order l g (36 + pz) ad (yc g ad n' v' sp' dy' la' kn re') cr dr th kn rf pl pz mc (Nat.le_refl _) (ad 24) rfl (xs (i + 1).toNatClampNeg) (xs (i + 2).toNatClampNeg) hdr H.size) mw_X4_order md_X4_order rfl lk_L_333 ⟨(Nat.le_of_ble_eq_true rfl), (Nat.le_of_ble_eq_true rfl)⟩ hA hK hT B (by omega) mg_24 rfl rfl hl.1 rfl (Nat.le_of_ble_eq_true rfl) dL_law_2337 ⟨by show C + 2 + _ ≤ 757246; dsimp only [rm]; omega, by show S + 12 + _ ≤ 6824365; dsimp only [rm]; omega⟩) (by dsimp only [rm]; omega) (by dsimp only [rm]; omega) (fun r2 ad' f' H locs hw B => ?_)
  dsimp only at hw
  obtain ⟨rfl, hr2, rfl⟩ := hw
  have B := LB_m B (fun _ _ => rfl)
  refine lv_istore (lv' := [(6, .int r2), (5, .int r), (4, .int i), (0, .ref b), (1, .ref (ad 0)), (2, .ref (ad 24)), (3, .ref (ad 23))]) hx hb dL_law_2340 hl (by decide) rfl (fun ls hl => ?_)
  refine lv_goto (tgt := 2441) hx hb dL_law_2342 (by decide) ?_
  refine W.widen (show C + 2 ≤ C + 1200 by omega) (show S + 12 ≤ S + 12000 by omega) ?_
  exact kk H locs ls ⟨ad, n', v', sp', dy', la', kn, re', _, _, _, _, _, _, _, hR', B, lv_sub hl [2, 3, 4, 5, 6] rfl⟩
set_option maxHeartbeats 8000000 in
theorem lc_2345 {p : Program} {l : Launch} {e : Env} {s : State} {m : MethodId} {below : List Frame} {meth : Method} {c : Code} {cw : Cond} {g : GG} {A : Nat → Prop} {b L : Nat} {xs : Nat → Int32} {C S : Nat} {Q : State → Prop} {H : Heap} {locs : List Loc} {ls : Array Slot} {i : Int32} (Y : LwC p l s m meth c cw g A b L xs) (hi0 : ¬ i < 0) (hiL : i.toInt + 5 ≤ L) (hL : L ≤ 2560) (hrC : C + 1200 ≤ 757246) (hrS : S + 12000 ≤ 6824365) (hS : LwS s g A b i H locs ls)
    (kk : ∀ (H1 : Heap) (locs1 : List Loc) (ls1 : Array Slot), LwS s g A b i H1 locs1 ls1 → W p l e room_1 s m #[.ref b] below meth c H1 locs1 (C + 1200) (S + 12000) Q (F0 m 2441 ls1 [])) : W p l e room_1 s m #[.ref b] below meth c H locs C S Q (F0 m 2345 ls []) := by
  obtain ⟨X, hfl, hK, hT, hnc, hXs, hbl, hbA, hA⟩ := Y
  obtain ⟨hx, hb, hml, hown, hts, hlocks⟩ := id X
  obtain ⟨ad, n, v, sp, dy, la, kn, re, cr, dr, th, rf, pl, pz, mc, hR, B, hl⟩ := hS
  obtain ⟨hla, hlb, hz, hdr⟩ := Rq_b hR
  refine lv_aload_n hx hb dL_law_2345 rfl (lv_at hl 2 rfl) ?_
  have B : WB g A s.heap (36 + pz) ad (cf g ad (LW g ad n v sp dy la kn re cr dr th kn rf pl pz mc) sp dy la kn re) H locs := LW_c ▸ B
  refine k_i (k := C) (n := S) hA B (u_V (q := 0) (rest := []) X (c_X2_knock l g (36 + pz) ad (LW g ad n v sp dy la kn re cr dr th kn rf pl pz mc) sp dy la kn re (by omega) H.size) mw_X2_knock md_X2_knock rfl lk_L_334 ⟨(Nat.le_of_ble_eq_true rfl), (Nat.le_of_ble_eq_true rfl)⟩ hA hK hT B (by omega) cf_0 rfl rfl hl.1 rfl (Nat.le_of_ble_eq_true rfl) dL_law_2346 ⟨by show C + _ ≤ 757246; dsimp only [rm]; omega, by show S + _ ≤ 6824365; dsimp only [rm]; omega⟩) (by dsimp only [rm]; omega) (by dsimp only [rm]; omega) (fun r ad' f' H locs hw B => ?_)
  obtain ⟨rfl, hr1, rfl⟩ := hw
  have B := LB_c0 B
  refine lv_pop hx hb dL_law_2349 rfl ?_
  refine lv_aload_n hx hb dL_law_2350 rfl (lv_at hl 3 rfl) ?_
  refine k_i (k := C) (n := S) hA B (b_V (q := 24) (rest := []) rfl X (c_X4_knock l g (36 + pz) ad (yc g ad n v sp dy la (v_X2_knock kn).2 re) cr dr th kn rf pl pz mc (Nat.le_refl _) (ad 24) rfl H.size) mw_X4_knock md_X4_knock rfl lk_L_338 ⟨(Nat.le_of_ble_eq_true rfl), (Nat.le_of_ble_eq_true rfl)⟩ hA hK hT B (by omega) mg_24 rfl rfl hl.1 rfl (Nat.le_of_ble_eq_true rfl) dL_law_2351 ⟨by show C + _ ≤ 757246; dsimp only [rm]; omega, by show S + _ ≤ 6824365; dsimp only [rm]; omega⟩) (by dsimp only [rm]; omega) (by dsimp only [rm]; omega) (fun r2 ad' f' H locs hw B => ?_)
  obtain ⟨rfl, hr2, rfl⟩ := hw
  have B := LB_m B (fun _ _ => rfl)
  refine lv_pop hx hb dL_law_2354 rfl ?_
  refine lv_goto (tgt := 2441) hx hb dL_law_2355 (by decide) ?_
  refine W.widen (show C + 0 ≤ C + 1200 by omega) (show S + 0 ≤ S + 12000 by omega) ?_
  exact kk H locs ls ⟨ad, n, v, sp, dy, la, _, re, cr, dr, _, rf, pl, pz, mc, hR, B, hl⟩
set_option maxHeartbeats 8000000 in
theorem lc_2358 {p : Program} {l : Launch} {e : Env} {s : State} {m : MethodId} {below : List Frame} {meth : Method} {c : Code} {cw : Cond} {g : GG} {A : Nat → Prop} {b L : Nat} {xs : Nat → Int32} {C S : Nat} {Q : State → Prop} {H : Heap} {locs : List Loc} {ls : Array Slot} {i : Int32} (Y : LwC p l s m meth c cw g A b L xs) (hi0 : ¬ i < 0) (hiL : i.toInt + 5 ≤ L) (hL : L ≤ 2560) (hrC : C + 1200 ≤ 757246) (hrS : S + 12000 ≤ 6824365) (hS : LwS s g A b i H locs ls)
    (kk : ∀ (H1 : Heap) (locs1 : List Loc) (ls1 : Array Slot), LwS s g A b i H1 locs1 ls1 → W p l e room_1 s m #[.ref b] below meth c H1 locs1 (C + 1200) (S + 12000) Q (F0 m 2441 ls1 [])) : W p l e room_1 s m #[.ref b] below meth c H locs C S Q (F0 m 2358 ls []) := by
  obtain ⟨X, hfl, hK, hT, hnc, hXs, hbl, hbA, hA⟩ := Y
  obtain ⟨hx, hb, hml, hown, hts, hlocks⟩ := id X
  obtain ⟨ad, n, v, sp, dy, la, kn, re, cr, dr, th, rf, pl, pz, mc, hR, B, hl⟩ := hS
  obtain ⟨hla, hlb, hz, hdr⟩ := Rq_b hR
  refine lv_aload_n hx hb dL_law_2358 rfl (lv_at hl 2 rfl) ?_
  refine lv_aload_n hx hb dL_law_2359 rfl (lv_at hl 1 rfl) ?_
  refine lv_iload hx hb dL_law_2360 (lv_at hl 0 rfl) ?_
  refine lv_iconst (v := 1) hx hb dL_law_2362 (by decide) ?_
  refine lv_iadd hx hb dL_law_2363 ?_
  refine va_sld hx hb hXs hbl hbA B.2.2 (ix_k hi0 hiL hL (z := 1) rfl (by decide) (by decide)) dL_law_2364 ?_
  refine lv_aload_n hx hb dL_law_2365 rfl (lv_at hl 4 rfl) ?_
  have B : WB g A s.heap (36 + pz) ad (cf g ad (LW g ad n v sp dy la kn re cr dr th kn rf pl pz mc) sp dy la kn re) H locs := LW_c ▸ B
  refine k_i (k := C + 1) (n := S + 6) hA B (u_SW (rest := []) X (c_L_house l hfl g (36 + pz) ad (LW g ad n v sp dy la kn re cr dr th kn rf pl pz mc) sp dy la kn re n v (by omega) LW_23 hla hlb (xs (i + 1).toNatClampNeg) H.size) mw_L_house md_L_house rfl lk_L_339 ⟨(Nat.le_of_ble_eq_true rfl), (Nat.le_of_ble_eq_true rfl)⟩ hA hK hT hnc B hl.1 rfl (Nat.le_of_ble_eq_true rfl) dL_law_2366 ⟨by show C + _ ≤ 757246; dsimp only [rm]; omega, by show S + _ ≤ 6824365; dsimp only [rm]; omega⟩) (by dsimp only [rm]; omega) (by dsimp only [rm]; omega) (fun r ad' f' H locs hw B => ?_)
  dsimp only at hw
  obtain ⟨rfl, hw⟩ := hw
  obtain ⟨n', v', sp', dy', la', re', B, hr, hv, hR'⟩ : ∃ (n' : Int64) (v' : Option Nat) (sp' dy' : Nat → TR) (la' re' : Int32), WB g A s.heap (36 + pz) ad (LW g ad n' v' sp' dy' la' kn re' cr dr th kn rf pl pz mc) H locs ∧ r = (v_X4_house cr kn rf pz (xs (i + 1).toNatClampNeg)).2 ∧ (r = 0 → n' = ((v_X4_house cr kn rf pz (xs (i + 1).toNatClampNeg)).1).toInt64) ∧ Rq sp' dy' la' re' cr dr rf pl (pz) := by
    have h := rl_house (a1 := xs (i + 1).toNatClampNeg) (kn := kn) hR
    rcases hw with ⟨hx0, rfl, rfl⟩ | ⟨E, hxE, rfl, rfl⟩
    · have h := h.1 hx0
      exact ⟨_, _, _, _, _, _, LB_c B, h.1.symm, fun _ => by rw [h.2], hR⟩
    · have h := h.2 E hxE
      exact ⟨_, _, _, _, _, _, LB_c0 B, h.symm, fun q => absurd q (by show ¬ (1 : Int32) = 0; decide), hR⟩
  refine lv_istore (lv' := [(5, .int r), (4, .int i), (0, .ref b), (1, .ref (ad 0)), (2, .ref (ad 24)), (3, .ref (ad 23))]) hx hb dL_law_2369 hl (by decide) rfl (fun ls hl => ?_)
  refine lv_aload_n hx hb dL_law_2371 rfl (lv_at hl 4 rfl) ?_
  refine lv_aload_n hx hb dL_law_2372 rfl (lv_at hl 2 rfl) ?_
  refine lv_iload hx hb dL_law_2373 (lv_at hl 1 rfl) ?_
  refine lv_iconst (v := 1) hx hb dL_law_2375 (by decide) ?_
  refine lv_iadd hx hb dL_law_2376 ?_
  refine va_sld hx hb hXs hbl hbA B.2.2 (ix_k hi0 hiL hL (z := 1) rfl (by decide) (by decide)) dL_law_2377 ?_
  refine k_i (k := C + 7) (n := S + 26) hA B (b_V (q := 24) (rest := []) rfl X (c_X4_house l g (36 + pz) ad (yc g ad n' v' sp' dy' la' kn re') cr dr th kn rf pl pz mc (Nat.le_refl _) (ad 24) rfl (xs (i + 1).toNatClampNeg)  H.size) mw_X4_house md_X4_house rfl lk_L_341 ⟨(Nat.le_of_ble_eq_true rfl), (Nat.le_of_ble_eq_true rfl)⟩ hA hK hT B (by omega) mg_24 rfl rfl hl.1 rfl (Nat.le_of_ble_eq_true rfl) dL_law_2378 ⟨by show C + 1 + _ ≤ 757246; dsimp only [rm]; omega, by show S + 6 + _ ≤ 6824365; dsimp only [rm]; omega⟩) (by dsimp only [rm]; omega) (by dsimp only [rm]; omega) (fun r2 ad' f' H locs hw B => ?_)
  dsimp only at hw
  obtain ⟨rfl, hr2, rfl⟩ := hw
  have B := LB_m B (fun _ _ => rfl)
  refine lv_istore (lv' := [(6, .int r2), (5, .int r), (4, .int i), (0, .ref b), (1, .ref (ad 0)), (2, .ref (ad 24)), (3, .ref (ad 23))]) hx hb dL_law_2381 hl (by decide) rfl (fun ls hl => ?_)
  refine lv_aload_n hx hb dL_law_2383 rfl (lv_at hl 5 rfl) ?_
  refine k_i (k := C + 7) (n := S + 26) hA B (b_V (q := 24) (rest := []) rfl X (c_X4_thrown l g (36 + pz) ad (yc g ad n' v' sp' dy' la' kn re') cr dr (v_X4_house cr kn rf pz (xs (i + 1).toNatClampNeg)).2 kn rf pl pz mc (Nat.le_refl _) (ad 24) rfl H.size) mw_X4_thrown md_X4_thrown rfl lk_L_342 ⟨(Nat.le_of_ble_eq_true rfl), (Nat.le_of_ble_eq_true rfl)⟩ hA hK hT B (by omega) mg_24 rfl rfl hl.1 rfl (Nat.le_of_ble_eq_true rfl) dL_law_2384 ⟨by show C + 7 + _ ≤ 757246; dsimp only [rm]; omega, by show S + 26 + _ ≤ 6824365; dsimp only [rm]; omega⟩) (by dsimp only [rm]; omega) (by dsimp only [rm]; omega) (fun r3 ad8 f8 H locs hw B => ?_)
  obtain ⟨rfl, hr3, rfl⟩ := hw
  have B := LB_m B (fun _ _ => rfl)
  refine lv_iload hx hb dL_law_2387 (lv_at hl 1 rfl) ?_
  refine lv_icmp_eq (tgt := 2394) hx hb dL_law_2389 (by decide) (fun _ => ?_) (fun z => absurd (hr3.symm.trans hr.symm) z)
  refine lv_iload hx hb dL_law_2394 (lv_at hl 1 rfl) ?_
  refine lv_if_ne (tgt := 2412) hx hb dL_law_2396 (by decide) (fun _ => ?_) (fun h0 => ?_)
  · refine lv_goto (tgt := 2441) hx hb dL_law_2412 (by decide) ?_
    refine W.widen (show C + 7 ≤ C + 1200 by omega) (show S + 26 ≤ S + 12000 by omega) ?_
    exact kk H locs ls ⟨ad, n', v', sp', dy', la', kn, re', _, _, _, _, _, _, _, hR', B, lv_sub hl [2, 3, 4, 5, 6] rfl⟩
  · refine lv_aload_n hx hb dL_law_2399 rfl (lv_at hl 6 rfl) ?_
    refine g_getN (q := 23) (k := 0) (fs := [.long n', va_rf v']) X hK hT B rfl in_X3 (by omega) LW_23 (by decide) lk_L_13 rfl rfl dL_law_2400 ?_
    refine lv_iload hx hb dL_law_2403 (lv_at hl 0 rfl) ?_
    refine lv_i2l (v := r2.toInt64) hx hb dL_law_2405 rfl ?_
    refine W.lcmp hx hb dL_law_2406 ?_
    refine lv_if_eq (tgt := 2412) hx hb dL_law_2407 (by decide) (fun _ => ?_) (fun z => absurd ((lg_cmp_eq _ _).mpr ((hv h0).trans (by rw [hr2]))) z)
    refine lv_goto (tgt := 2441) hx hb dL_law_2412 (by decide) ?_
    refine W.widen (show C + 7 ≤ C + 1200 by omega) (show S + 26 ≤ S + 12000 by omega) ?_
    exact kk H locs ls ⟨ad, n', v', sp', dy', la', kn, re', _, _, _, _, _, _, _, hR', B, lv_sub hl [2, 3, 4, 5, 6] rfl⟩
set_option maxHeartbeats 8000000 in
theorem lc_2415 {p : Program} {l : Launch} {e : Env} {s : State} {m : MethodId} {below : List Frame} {meth : Method} {c : Code} {cw : Cond} {g : GG} {A : Nat → Prop} {b L : Nat} {xs : Nat → Int32} {C S : Nat} {Q : State → Prop} {H : Heap} {locs : List Loc} {ls : Array Slot} {i : Int32} (Y : LwC p l s m meth c cw g A b L xs) (hi0 : ¬ i < 0) (hiL : i.toInt + 5 ≤ L) (hL : L ≤ 2560) (hrC : C + 1200 ≤ 757246) (hrS : S + 12000 ≤ 6824365) (hS : LwS s g A b i H locs ls)
    (kk : ∀ (H1 : Heap) (locs1 : List Loc) (ls1 : Array Slot), LwS s g A b i H1 locs1 ls1 → W p l e room_1 s m #[.ref b] below meth c H1 locs1 (C + 1200) (S + 12000) Q (F0 m 2441 ls1 [])) : W p l e room_1 s m #[.ref b] below meth c H locs C S Q (F0 m 2415 ls []) := by
  obtain ⟨X, hfl, hK, hT, hnc, hXs, hbl, hbA, hA⟩ := Y
  obtain ⟨hx, hb, hml, hown, hts, hlocks⟩ := id X
  obtain ⟨ad, n, v, sp, dy, la, kn, re, cr, dr, th, rf, pl, pz, mc, hR, B, hl⟩ := hS
  obtain ⟨hla, hlb, hz, hdr⟩ := Rq_b hR
  refine lv_aload_n hx hb dL_law_2415 rfl (lv_at hl 2 rfl) ?_
  have B : WB g A s.heap (36 + pz) ad (cf g ad (LW g ad n v sp dy la kn re cr dr th kn rf pl pz mc) sp dy la kn re) H locs := LW_c ▸ B
  refine k_i (k := C) (n := S) hA B (u_V (q := 0) (rest := []) X (c_X2_isSound l g (36 + pz) ad (LW g ad n v sp dy la kn re cr dr th kn rf pl pz mc) sp dy la kn re (by omega) H.size) mw_X2_isSound md_X2_isSound rfl lk_L_345 ⟨(Nat.le_of_ble_eq_true rfl), (Nat.le_of_ble_eq_true rfl)⟩ hA hK hT B (by omega) cf_0 rfl rfl hl.1 rfl (Nat.le_of_ble_eq_true rfl) dL_law_2416 ⟨by show C + _ ≤ 757246; dsimp only [rm]; omega, by show S + _ ≤ 6824365; dsimp only [rm]; omega⟩) (by dsimp only [rm]; omega) (by dsimp only [rm]; omega) (fun r ad' f' H locs hw B => ?_)
  obtain ⟨rfl, sp', dy', hs12, hd4, rfl⟩ := hw
  have B := LB_c0 B
  have hR := RL_far hR hs12 hd4
  refine lv_pop hx hb dL_law_2419 rfl ?_
  refine lv_aload_n hx hb dL_law_2420 rfl (lv_at hl 3 rfl) ?_
  refine k_i (k := C + 465) (n := S + 1395) hA B (b_V (q := 24) (rest := []) rfl X (c_X4_isSound l g (36 + pz) ad (yc g ad n v sp' dy' la kn re) cr dr th kn rf pl pz mc (Nat.le_refl _) (ad 24) rfl hdr H.size) mw_X4_isSound md_X4_isSound rfl lk_L_349 ⟨(Nat.le_of_ble_eq_true rfl), (Nat.le_of_ble_eq_true rfl)⟩ hA hK hT B (by omega) mg_24 rfl rfl hl.1 rfl (Nat.le_of_ble_eq_true rfl) dL_law_2421 ⟨by show C + _ ≤ 757246; dsimp only [rm]; omega, by show S + _ ≤ 6824365; dsimp only [rm]; omega⟩) (by dsimp only [rm]; omega) (by dsimp only [rm]; omega) (fun r2 ad' f' H locs hw B => ?_)
  obtain ⟨rfl, -, rfl⟩ := hw
  have B := LB_m B (fun _ _ => rfl)
  refine lv_pop hx hb dL_law_2424 rfl ?_
  refine lv_goto (tgt := 2441) hx hb dL_law_2425 (by decide) ?_
  refine W.widen (show C + 465 ≤ C + 1200 by omega) (show S + 1395 ≤ S + 12000 by omega) ?_
  exact kk H locs ls ⟨ad, n, v, sp', dy', la, kn, re, cr, dr, _, rf, pl, pz, mc, hR, B, hl⟩
set_option maxHeartbeats 8000000 in
theorem lc_2428 {p : Program} {l : Launch} {e : Env} {s : State} {m : MethodId} {below : List Frame} {meth : Method} {c : Code} {cw : Cond} {g : GG} {A : Nat → Prop} {b L : Nat} {xs : Nat → Int32} {C S : Nat} {Q : State → Prop} {H : Heap} {locs : List Loc} {ls : Array Slot} {i : Int32} (Y : LwC p l s m meth c cw g A b L xs) (hi0 : ¬ i < 0) (hiL : i.toInt + 5 ≤ L) (hL : L ≤ 2560) (hrC : C + 1200 ≤ 757246) (hrS : S + 12000 ≤ 6824365) (hS : LwS s g A b i H locs ls)
    (kk : ∀ (H1 : Heap) (locs1 : List Loc) (ls1 : Array Slot), LwS s g A b i H1 locs1 ls1 → W p l e room_1 s m #[.ref b] below meth c H1 locs1 (C + 1200) (S + 12000) Q (F0 m 2441 ls1 [])) : W p l e room_1 s m #[.ref b] below meth c H locs C S Q (F0 m 2428 ls []) := by
  obtain ⟨X, hfl, hK, hT, hnc, hXs, hbl, hbA, hA⟩ := Y
  obtain ⟨hx, hb, hml, hown, hts, hlocks⟩ := id X
  obtain ⟨ad, n, v, sp, dy, la, kn, re, cr, dr, th, rf, pl, pz, mc, hR, B, hl⟩ := hS
  obtain ⟨hla, hlb, hz, hdr⟩ := Rq_b hR
  refine lv_aload_n hx hb dL_law_2428 rfl (lv_at hl 2 rfl) ?_
  have B : WB g A s.heap (36 + pz) ad (cf g ad (LW g ad n v sp dy la kn re cr dr th kn rf pl pz mc) sp dy la kn re) H locs := LW_c ▸ B
  refine k_l (k := C) (n := S) hA B (u_V (q := 0) (rest := []) X (c_X2_digest l g (36 + pz) ad (LW g ad n v sp dy la kn re cr dr th kn rf pl pz mc) sp dy la kn re (by omega) hla hlb H.size) mw_X2_digest md_X2_digest rfl lk_L_350 ⟨(Nat.le_of_ble_eq_true rfl), (Nat.le_of_ble_eq_true rfl)⟩ hA hK hT B (by omega) cf_0 rfl rfl hl.1 rfl (Nat.le_of_ble_eq_true rfl) dL_law_2429 ⟨by show C + _ ≤ 757246; dsimp only [rm]; omega, by show S + _ ≤ 6824365; dsimp only [rm]; omega⟩) (by dsimp only [rm]; omega) (by dsimp only [rm]; omega) (fun r ad' f' H locs hw B => ?_)
  obtain ⟨rfl, sp', dy', hs12, hd4, rfl⟩ := hw
  have B := LB_c0 B
  have hR := RL_far hR hs12 hd4
  refine lv_pop2_2 hx hb dL_law_2432 rfl ?_
  refine lv_aload_n hx hb dL_law_2433 rfl (lv_at hl 3 rfl) ?_
  refine k_l (k := C + 1165) (n := S + 11859) hA B (b_V (q := 24) (rest := []) rfl X (c_X4_digest l g (36 + pz) ad (yc g ad n v sp' dy' la kn re) cr dr th kn rf pl pz mc (Nat.le_refl _) (ad 24) rfl hz hdr H.size) mw_X4_digest md_X4_digest rfl lk_L_354 ⟨(Nat.le_of_ble_eq_true rfl), (Nat.le_of_ble_eq_true rfl)⟩ hA hK hT B (by omega) mg_24 rfl rfl hl.1 rfl (Nat.le_of_ble_eq_true rfl) dL_law_2434 ⟨by show C + _ ≤ 757246; dsimp only [rm]; omega, by show S + _ ≤ 6824365; dsimp only [rm]; omega⟩) (by dsimp only [rm]; omega) (by dsimp only [rm]; omega) (fun r2 ad' f' H locs hw B => ?_)
  obtain ⟨rfl, rfl⟩ := hw
  have B := LB_m B (fun _ _ => rfl)
  refine lv_pop2_2 hx hb dL_law_2437 rfl ?_
  refine lv_goto (tgt := 2441) hx hb dL_law_2438 (by decide) ?_
  refine W.widen (show C + 1165 ≤ C + 1200 by omega) (show S + 11859 ≤ S + 12000 by omega) ?_
  exact kk H locs ls ⟨ad, n, v, sp', dy', la, kn, re, cr, dr, _, rf, pl, pz, mc, hR, B, hl⟩
