/-! texts under way: a builder and its bytes -/
theorem wcl_same : Cond.sameMethod "[B" "java/lang/Object" "clone" "()Ljava/lang/Object;" ∈ tb_all := tb_in (lw_at 177 (by decide +kernel)) rfl
theorem wcl_inst : Cond.instanceMethod ⟨"java/lang/Object", "clone", "()Ljava/lang/Object;"⟩ ∈ tb_all := tb_in (lw_at 179 (by decide +kernel)) rfl
theorem wcl_sel : Cond.selects "[B" ⟨"[B", "clone", "()Ljava/lang/Object;"⟩ ⟨"java/lang/Object", "clone", "()Ljava/lang/Object;"⟩ ∈ tb_all := tb_in (lw_at 180 (by decide +kernel)) rfl
theorem wcl_cast : Cond.castable "[B" "java/lang/Cloneable" ∈ lw_tbl := lw_at 181 (by decide +kernel)
theorem wob_inst : Cond.instanceMethod objectInit ∈ tb_all := tb_in (lw_at 35 (by decide +kernel)) rfl
theorem wob_code : Cond.code objectInit ⟨#[0xb1]⟩ 1 none ∈ tb_all := tb_in (lw_at 36 (by decide +kernel)) rfl
theorem in_sys : Cond.initialized "java/lang/System" ∈ tb_all := tb_in (lw_at 17 (by decide +kernel)) rfl
abbrev c_sb (v : Nat) (ml : Int32) (n : Nat) : va_E := .inr (1, [.ref v, .int 0, .int ml, .int (nI n)])
abbrev c_ba (g : GG) (m : Nat) (h : Nat → Int32) : va_E := .inl (g.2.1 1, m, .inl h)
abbrev c_st (v : Nat) : va_E := .inr (0, [.ref v, .int 0, .int 0, .int 0])
def gC (m m' : Nat) : Nat := if m' = m then 0 else 1
def gS (m m' : Nat) : Nat := if m' = m then 0 else m'
theorem g_no {q m : Nat} (h : q ≤ m) : sb_cap q m = m ∧ gC m (sb_cap q m) = 0 ∧ gS m (sb_cap q m) = 0 := by
  have e : sb_cap q m = m := if_pos h
  rw [e]
  exact ⟨rfl, if_pos rfl, if_pos rfl⟩
theorem g_yes {q m : Nat} (h : ¬ q ≤ m) (h2 : q ≤ 2 * m + 2) : sb_cap q m = 2 * m + 2 ∧ gC m (sb_cap q m) = 1 ∧ gS m (sb_cap q m) = 2 * m + 2 := by
  have e : sb_cap q m = 2 * m + 2 := by
    unfold sb_cap
    rw [if_neg h, if_neg (by omega)]
  rw [e]
  exact ⟨rfl, if_neg (by omega), if_neg (by omega)⟩
theorem sw_s {f : Nat → va_E} {qs qv : Nat} {a b a' : va_E} (h : qs ≠ qv) : va_up (va_up (va_up f qs a) qv b) qs a' = va_up (va_up f qs a') qv b := by
  funext k
  by_cases h1 : k = qs
  · rw [h1, va_up_self, va_up_ne _ _ h, va_up_self]
  · rw [va_up_ne _ _ h1]
    by_cases h2 : k = qv
    · rw [h2, va_up_self, va_up_self]
    · rw [va_up_ne _ _ h2, va_up_ne _ _ h2, va_up_ne _ _ h1, va_up_ne _ _ h1]
theorem sw_4 {f : Nat → va_E} {qs qv : Nat} {a b a' b' : va_E} (h : qs ≠ qv) : va_up (va_up (va_up (va_up f qs a) qv b) qs a') qv b' = va_up (va_up f qs a') qv b' := by
  rw [sw_s h, bx_uu]
theorem sw_in {f : Nat → va_E} {qs qv : Nat} {a b : va_E} (hs : f qs = a) (hv : f qv = b) : va_up (va_up f qs a) qv b = f := by
  funext k
  by_cases h2 : k = qv
  · rw [h2, va_up_self, hv]
  · rw [va_up_ne _ _ h2]
    by_cases h1 : k = qs
    · rw [h1, va_up_self, hs]
    · rw [va_up_ne _ _ h1]
theorem up_in {ad : Nat → Nat} {q v : Nat} (h : ad q = v) : va_up ad q v = ad := by
  funext k
  by_cases h1 : k = q
  · rw [h1, va_up_self, h]
  · rw [va_up_ne _ _ h1]
/-- numbers -/
theorem n_sub {a b : Nat} (h : b ≤ a) (ha : a < 1000) : nI a - nI b = nI (a - b) := by
  refine Int32.toInt_inj.mp ?_
  rw [sub_i (by rw [nI_toInt (by omega), nI_toInt (by omega)]; omega) (by rw [nI_toInt (by omega), nI_toInt (by omega)]; omega), nI_toInt (by omega), nI_toInt (by omega), nI_toInt (by omega)]
  omega
theorem n_subi {a b : Nat} (ha : a < 1000) (hb : b < 1000) : (nI a - nI b).toInt = (a : Int) - b := by
  rw [sub_i (by rw [nI_toInt (by omega), nI_toInt (by omega)]; omega) (by rw [nI_toInt (by omega), nI_toInt (by omega)]; omega), nI_toInt (by omega), nI_toInt (by omega)]
theorem n_le {a b : Nat} (ha : a < 1000) (hb : b < 1000) : nI a - nI b ≤ 0 ↔ a ≤ b := by
  rw [Int32.le_iff_toInt_le, n_subi ha hb, show (0 : Int32).toInt = 0 from rfl]
  omega
theorem n_mx {d m : Nat} (h : d ≤ m) (hm : m < 1000) : (if nI d < nI m then nI m else nI d) = nI m := by
  by_cases c : d < m
  · rw [if_pos (nI_lt c (by omega))]
  · rw [if_neg (nI_nlt (by omega) (by omega)), show d = m by omega]
theorem n_ne {a : Nat} (ha : a < 1000) : ¬ nI a = 2147483647 := fun q => by
  have e := congrArg Int32.toInt q
  rw [nI_toInt (by omega), show (2147483647 : Int32).toInt = 2147483647 from rfl] at e
  omega
theorem n_big {a : Nat} (ha : a < 1000) : ¬ (2147483639 : Int32) < nI a := fun q => by
  rw [Int32.lt_iff_toInt_lt, nI_toInt (by omega), show (2147483639 : Int32).toInt = 2147483639 from rfl] at q
  omega
theorem n_pos {a : Nat} (h : 0 < a) (ha : a < 1000) : ¬ nI a ≤ 0 := nI_nle h (by omega)
theorem n_dbl (m : Nat) : nI m + nI (m + 2) = nI (2 * m + 2) := by
  rw [nI_add]
  congr 1
  omega
theorem n_inj {a b : Nat} (h : a ≠ b) (ha : a < 1000) (hb : b < 1000) : ¬ nI a = nI b := fun q => h ((nI_eq (by omega) (by omega)).mp q)
theorem fit_nar (x : Int32) : fits .byte (.int (vp_nar .byte x)) = true := pk_fb x
theorem fitW : ∀ (n : Nat) (xx pp ss : Int32) (bt : Nat → Int32), sb_Fit bt → sb_Fit (wJ6_getChars_ba4f3_22 n xx pp ss bt).2 := by
  intro n
  induction n with
  | zero => intro xx pp ss bt h; exact h
  | succ n ih =>
    intro xx pp ss bt h
    rw [wJ6_getChars_ba4f3_22]
    by_cases c1 : (-100) < xx
    · rw [if_pos c1]
      by_cases c2 : (-9) ≤ xx
      · rw [if_pos c2]
        by_cases c3 : ss = 0
        · rw [if_pos c3]; exact sb_fitU h (fit_nar _)
        · rw [if_neg c3]; exact sb_fitU (sb_fitU h (fit_nar _)) (fit_nar _)
      · rw [if_neg c2]
        by_cases c3 : ss = 0
        · rw [if_pos c3]; exact sb_fitU (sb_fitU h (fit_nar _)) (fit_nar _)
        · rw [if_neg c3]; exact sb_fitU (sb_fitU (sb_fitU h (fit_nar _)) (fit_nar _)) (fit_nar _)
    · rw [if_neg c1]
      exact ih _ _ _ _ (sb_fitU (sb_fitU h (fit_nar _)) (fit_nar _))
theorem fitI {bt : Nat → Int32} (a b : Int32) (h : sb_Fit bt) : sb_Fit (v_J6_getChars_ba4f3 bt a b).2 := by
  unfold v_J6_getChars_ba4f3
  by_cases c : 0 ≤ a
  · rw [if_pos c]; exact fitW _ _ _ _ _ h
  · rw [if_neg c]; exact fitW _ _ _ _ _ h
theorem gcs_in {a : Int32} {n m : Nat} (h : n + ssz a ≤ m) (hm : m < 1000) : gcs a (nI (n + ssz a)) m := by
  unfold gcs
  rw [nI_toInt (by omega)]
  omega
section RT
variable {p : Program} {l : Launch} {e : Env} {R : Room} {s : State} {m : MethodId} {args : Array Value} {below : List Frame} {meth : Method} {c : Code} {H : Heap} {locs : List Loc} {cells slots : Nat} {Q : State → Prop}
variable {cc : ByteArray} {nL : Nat} {own : String} {cw : Cond} {pc : Nat} {ls : Array Slot} {rest st0 : List Value} {g : GG} {A : Nat → Prop} {H0 : Heap} {N : Nat} {ad : Nat → Nat} {f : Nat → va_E}
/-- the new bytes take the old ones' place -/
theorem WS_grow {qs qv a : Nat} {S' V V' : va_E} (hqv : qv < N) (hqs : qs < N) (hne : qs ≠ qv) (B : WB g A H0 (N + 1) (va_up ad N a) (va_up (va_up f N V') qs S') H locs) (hV : V = V') : WB g A H0 N (va_up ad qv a) (va_up (va_up f qs S') qv V) H locs := by
  subst hV
  refine WB_map (fun k => if k = qv then N else k) B (fun k hk => ?_) (fun i j hi hj e => ?_) (fun k hk => ?_) (fun k hk => ?_)
  · show (if k = qv then N else k) < _
    split <;> omega
  · have e : (if i = qv then N else i) = (if j = qv then N else j) := e
    by_cases h1 : i = qv <;> by_cases h2 : j = qv
    · omega
    · rw [if_pos h1, if_neg h2] at e; omega
    · rw [if_neg h1, if_pos h2] at e; omega
    · rw [if_neg h1, if_neg h2] at e; exact e
  · show _ = va_up ad N a (if k = qv then N else k)
    by_cases h1 : k = qv
    · rw [if_pos h1, h1, va_up_self, va_up_self]
    · rw [if_neg h1, va_up_ne _ _ h1, va_up_ne _ _ (by omega)]
  · show va_eq _ (va_up (va_up f N V) qs S' (if k = qv then N else k))
    by_cases h1 : k = qv
    · rw [if_pos h1, h1, va_up_self, va_up_ne _ _ (by omega), va_up_self]
      exact Or.inl rfl
    · rw [if_neg h1, va_up_ne _ _ h1]
      by_cases h2 : k = qs
      · rw [h2, va_up_self, va_up_self]; exact Or.inl rfl
      · rw [va_up_ne _ _ h2, va_up_ne _ _ h2, va_up_ne _ _ (by omega)]; exact Or.inl rfl
theorem b_copyb {q0 q1 b0 b1 n0 n1 index : Nat} {h0 h1 : Nat → Int32} {sp dp n : Int32} (hb0 : ad q0 = b0) (hb1 : ad q1 = b1) (X : CX p s m args meth c cc nL own cw) (hls : ls.size = nL) (hlk : Cond.methodLink own index arraycopyName ∈ tb_all) (hK : KK g s) (B : WB g A s.heap N ad f H locs) (hq0 : q0 < N) (hq1 : q1 < N) (hf0 : f q0 = c_ba g n0 h0) (hf1 : f q1 = c_ba g n1 h1) (hF : sb_Fit h0)
    (g1 : ¬ sp < 0) (g2 : ¬ dp < 0) (g3 : ¬ n < 0) (g4 : sp.toNatClampNeg + n.toNatClampNeg ≤ n0) (g5 : dp.toNatClampNeg + n.toNatClampNeg ≤ n1) (hfr : 1 ≤ R.frames) (hlo : (rest.map fun v => v.category).sum + (nativeFrameWords "java/lang/System" "arraycopy" 5 + 11) ≤ R.locals) (hdg : decode cc pc = .ok (.invokestatic index, 3))
    (kk : ∀ (H1 : Heap) (locs1 : List Loc), WB g A s.heap N ad (va_up f q1 (c_ba g n1 (va_cpy h0 h1 sp.toNatClampNeg dp.toNatClampNeg n.toNatClampNeg))) H1 locs1 → W p l e R s m args below meth c H1 locs1 cells slots Q (F0 m (pc + 3) ls rest)) : W p l e R s m args below meth c H locs cells slots Q (F0 m pc ls (.int n :: .int dp :: .ref b1 :: .int sp :: .ref b0 :: rest)) := by
  subst hb0 hb1
  obtain ⟨hx, hb, hml, hown, hts, -⟩ := X
  have hm : ∀ w ∈ tb_all, w.before args s = true := fun w h => hts w (List.mem_cons_of_mem _ h)
  refine va_copyi (ty := .byte) hx hb (by rw [hml, hls]) hown (hm _ hlk) (hm _ nt_188) (hm _ ns_187) (hm _ in_sys) hK B.1 B.2.1 B.2.2 q0 q1 1 1 (by rw [wd_get hq0, hf0]) (by rw [wd_get hq1, hf1]) rfl rfl rfl g1 g2 g3 g4 g5 (fun i _ => hF _) hfr hlo hdg fun H1 locs1 hP hD hS => ?_
  rw [wd_set hq1] at hP hD
  exact kk H1 locs1 ⟨hP, hD, hS⟩
/-- from a constant's bytes -/
theorem b_copyk {i q1 b1 n1 index : Nat} {h1 : Nat → Int32} {sp dp n : Int32} (hi : i < st_n) (hb1 : ad q1 = b1) (X : CX p s m args meth c cc nL own cw) (hls : ls.size = nL) (hlk : Cond.methodLink own index arraycopyName ∈ tb_all) (hK : KK g s) (hT : ST g.2.2 A s s.heap) (B : WB g A s.heap N ad f H locs) (hq1 : q1 < N) (hf1 : f q1 = c_ba g n1 h1)
    (g1 : ¬ sp < 0) (g2 : ¬ dp < 0) (g3 : ¬ n < 0) (g4 : sp.toNatClampNeg + n.toNatClampNeg ≤ st_len.getD i 0) (g5 : dp.toNatClampNeg + n.toNatClampNeg ≤ n1) (hF : sb_Fit (fun j => (st_byt.getD i []).getD j 0)) (hfr : 1 ≤ R.frames) (hlo : (rest.map fun v => v.category).sum + (nativeFrameWords "java/lang/System" "arraycopy" 5 + 11) ≤ R.locals) (hdg : decode cc pc = .ok (.invokestatic index, 3))
    (kk : ∀ (H1 : Heap) (locs1 : List Loc), WB g A s.heap N ad (va_up f q1 (c_ba g n1 (va_cpy (fun j => (st_byt.getD i []).getD j 0) h1 sp.toNatClampNeg dp.toNatClampNeg n.toNatClampNeg))) H1 locs1 → W p l e R s m args below meth c H1 locs1 cells slots Q (F0 m (pc + 3) ls rest)) : W p l e R s m args below meth c H locs cells slots Q (F0 m pc ls (.int n :: .int dp :: .ref b1 :: .int sp :: .ref (g.2.2 (200 + i)) :: rest)) := by
  subst hb1
  obtain ⟨hx, hb, hml, hown, hts, -⟩ := X
  have hm : ∀ w ∈ tb_all, w.before args s = true := fun w h => hts w (List.mem_cons_of_mem _ h)
  refine vk_copyt hx hb (by rw [hml, hls]) hown (hm _ hlk) (hm _ nt_188) (hm _ ns_187) (hm _ in_sys) hK B.1 B.2.1 B.2.2 (hT.2.2.2.2.1 i hi).2.2.2 q1 1 (by rw [wd_get hq1, hf1]) rfl g1 g2 g3 g4 g5 (fun j _ => hF _) hfr hlo hdg fun H1 locs1 hP hD hS => ?_
  rw [wd_set hq1] at hP hD
  exact kk H1 locs1 ⟨hP, hD, hS⟩
/-- a call of a constant's method -/
theorem u_K {y : MethodName} {bytes : ByteArray} {maxL index n i : Nat} {ret : Option FieldType} {rm : Room} {As : List Value} {Qc : Array Value → State → Outcome → State → Prop} {free : Addr → Prop} (hi : i < st_n)
    (X : CX p s m args meth c cc nL own cw) (hM : Met l y (Cond.code y bytes maxL ret :: tb_all) rm (va_Pc (.ref (g.2.2 (100 + i)) :: As) (PR g N ad f H.size)) Qc rm.cells rm.slots free)
    (hy : Cond.code y bytes maxL ret ∈ tb_all ∧ Cond.instanceMethod y ∈ tb_all ∧ Cond.selects y.cls y y ∈ tb_all ∧ Cond.initialized y.cls ∈ tb_all) (hyc : y.cls = "java/lang/String") (hd : y.cls ≠ "java/lang/invoke/MethodHandle" ∧ y.cls ≠ "java/lang/invoke/VarHandle" ∧ (parseMethodDescriptor y.desc).map (fun d => d.parameters.length) = some n) (hn : As.length = n) (hlk : Cond.methodLink own index y ∈ tb_all)
    (hR : rm.frames + 1 ≤ R.frames ∧ 8 + (maxL + 11) + rm.locals ≤ R.locals) (hA : ∀ q, s.heap.size ≤ q → A q) (hK : KK g s) (hT : ST g.2.2 A s s.heap) (B : WB g A s.heap N ad f H locs) (hls : ls.size = nL)
    (hst : st0 = As.reverse ++ .ref (g.2.2 (100 + i)) :: rest) (hW : (rest.map fun v => v.category).sum ≤ 8) (hdg : decode cc pc = .ok (.invokevirtual index, 3)) (hf2 : cells + rm.cells ≤ R.cells ∧ slots + rm.slots ≤ R.slots) :
    va_Run p l e R s m args below meth c H locs cells slots rm.cells rm.slots (F0 m pc ls st0) rest (Qc (Value.ref (g.2.2 (100 + i)) :: As).toArray) free := by
  obtain ⟨hx, hb, hml, hown, hts, -⟩ := X
  have hm : ∀ w ∈ tb_all, w.before args s = true := fun w h => hts w (List.mem_cons_of_mem _ h)
  have hp : PreV s H y.cls (g.2.2 (100 + i)) (va_Pc (.ref (g.2.2 (100 + i)) :: As) (PR g N ad f H.size)) As := ⟨PR_blind, by rw [hyc]; exact vk_recv (adK := fun _ => g.2.2 (100 + i)) (i := 0) (hT.2.2.2.2.one hi) (by decide) B.2.2, fun _ hU hW => ⟨rfl, PR_of hA hK hT B hU hW⟩⟩
  exact va_runV ⟨hx, hb, hml, hown, hts⟩ hM ⟨callB_of n hts (tb_good hy.1) rfl rfl rfl (hm _ hy.2.2.2) (hm _ hlk) hd hR, hm _ hy.2.1, hm _ hy.2.2.1⟩ hp rfl hn hls hst (lv_room hW) hdg hf2
/-- a constant's fields -/
theorem b_kget {ref n d : String} {v : Value} {index q : Nat} (X : CX p s m args meth c cc nL own cw) (hE : va_OF ref n d v q A s s.heap) (B : WB g A s.heap N ad f H locs) (hlk : Cond.fieldLink own index ref n d ∈ tb_all) (hdg : decode cc pc = .ok (.getfield index, 3))
    (kk : W p l e R s m args below meth c H locs cells slots Q (F0 m (pc + 3) ls (v :: rest))) : W p l e R s m args below meth c H locs cells slots Q (F0 m pc ls (.ref q :: rest)) := by
  obtain ⟨hx, hb, hml, hown, hts, -⟩ := X
  exact vk_getf hx hb hE B.2.2 hown (hts _ (List.mem_cons_of_mem _ hlk)) (fun _ h => h) hdg kk
theorem b_ldc {i index : Nat} {own2 tx : String} (hi : i < st_n) (hs : st_own.getD i ("", 0, "") = (own2, index, tx)) (howner : own = own2) (X : CX p s m args meth c cc nL own cw) (hT : ST g.2.2 A s s.heap) (hdg : decode cc pc = .ok (.ldc index, 2))
    (kk : W p l e R s m args below meth c H locs cells slots Q (F0 m (pc + 2) ls (.ref (g.2.2 (100 + i)) :: rest))) : W p l e R s m args below meth c H locs cells slots Q (F0 m pc ls rest) := by
  subst howner
  obtain ⟨hx, hb, hml, hown, hts, -⟩ := X
  have h := hT.2.2.2.1 i hi
  rw [hs] at h
  exact va_ldcS hx hb hown h hdg kk
/-- a copy of bytes -/
theorem b_clone {q b n cz sz index : Nat} {h : Nat → Int32} (hbq : ad q = b) (X : CX p s m args meth c cc nL own cw) (hls : ls.size = nL) (hlk : Cond.methodLink own index ⟨"[B", "clone", "()Ljava/lang/Object;"⟩ ∈ tb_all) (hA : ∀ q, s.heap.size ≤ q → A q) (hK : KK g s) (hT : ST g.2.2 A s s.heap) (B : WB g A s.heap N ad f H locs) (hq : q < N) (hf : f q = c_ba g n h) (hF : sb_Fit h) (hfr : 1 ≤ R.frames) (hlo : (rest.map fun v => v.category).sum + 14 ≤ R.locals) (hc : cells + 1 ≤ R.cells) (hs : slots + n ≤ R.slots) (h1 : cells + 1 ≤ cz) (h2 : slots + n ≤ sz) (hdg : decode cc pc = .ok (.invokevirtual index, 3))
    (kk : ∀ (a : Nat) (H1 : Heap), WB g A s.heap (N + 1) (va_up ad N a) (va_up f N (c_ba g n h)) H1 locs → W p l e R s m args below meth c H1 locs cz sz Q (F0 m (pc + 3) ls (.ref a :: rest))) : W p l e R s m args below meth c H locs cells slots Q (F0 m pc ls (.ref b :: rest)) := by
  subst hbq
  obtain ⟨hx, hb, hml, hown, hts, -⟩ := X
  have hm : ∀ w ∈ tb_all, w.before args s = true := fun w h => hts w (List.mem_cons_of_mem _ h)
  refine va_clone hx hb (by rw [hml, hls]) hown (hm _ hlk) (hm _ wcl_same) (hm _ nt_178) (hm _ wcl_inst) (hm _ wcl_sel) (hT.1.1 _ wcl_cast rfl) hK B.1 B.2.1 B.2.2 hA q 1 (by rw [wd_get hq, hf]) rfl (hK.2 1 (g.2.1 1, .byte) rfl).2 (fun i v hv => ?_) hfr hlo hc hs hdg fun a H1 _ hP hD hS => W.widen h1 h2 ?_
  · have h3 : i < n := by
      have h4 := (Array.getElem?_eq_some_iff.mp hv).1
      rw [show (vp_cell (g.2.1 1) (n, .inl h)).slots.size = n from arrV_size _ _ _] at h4
      exact h4
    have h5 : (vp_cell (g.2.1 1) (n, .inl h)).slots[i]? = some (.int (h i)) := arrV_read _ _ h3
    rw [h5] at hv
    cases hv
    exact hF i
  · rw [wd_push] at hP hD
    exact kk a H1 ⟨hP, hD, hS⟩
theorem b_castB {q b n index : Nat} {h : Nat → Int32} (hbq : ad q = b) (X : CX p s m args meth c cc nL own cw) (hK : KK g s) (B : WB g A s.heap N ad f H locs) (hq : q < N) (hf : f q = c_ba g n h) (hcl : Cond.classLink own index "[B" ∈ tb_all) (hdg : decode cc pc = .ok (.checkcast index, 3))
    (kk : W p l e R s m args below meth c H locs cells slots Q (F0 m (pc + 3) ls (.ref b :: rest))) : W p l e R s m args below meth c H locs cells slots Q (F0 m pc ls (.ref b :: rest)) := by
  subst hbq
  obtain ⟨hx, hb, hml, hown, hts, -⟩ := X
  exact va_castA hx hb hown (hts _ (List.mem_cons_of_mem _ hcl)) B.1 q (by rw [wd_get hq, hf]) (hK.2 1 (g.2.1 1, .byte) rfl).2 hdg kk
theorem b_obj {b index : Nat} (X : CX p s m args meth c cc nL own cw) (hls : ls.size = nL) (hlk : Cond.methodLink own index objectInit ∈ tb_all) (hdg : decode cc pc = .ok (.invokespecial index, 3)) (hfr : 1 ≤ R.frames) (hlo : (rest.map fun v => v.category).sum + 12 ≤ R.locals)
    (kk : W p l e R s m args below meth c H locs cells slots Q (F0 m (pc + 3) ls rest)) : W p l e R s m args below meth c H locs cells slots Q (F0 m pc ls (.ref b :: rest)) := by
  obtain ⟨hx, hb, hml, hown, hts, -⟩ := X
  have hm : ∀ w ∈ tb_all, w.before args s = true := fun w h => hts w (List.mem_cons_of_mem _ h)
  exact W.objInit hx hb hown (hm _ hlk) (hm _ wob_inst) (hm _ wob_code) rfl (by rw [hml]; exact hls) rfl hdg hfr (by show 2 * 0 + _ + 12 ≤ _; omega) kk
theorem b_putF {ref : String} {ci index q k b : Nat} {C : String} {T : u_T} {n : Nat} {fs : List Value} {v : Value} {ty : FieldType} {ty0 : Nat → FieldType} (hbq : ad q = b) (X : CX p s m args meth c cc nL own cw) (hnam : meth.name = "<init>") (hK : KK g s) (B : WB g A s.heap N ad f H locs) (hc : vwCl[ci]? = some (C, T, n)) (hin : ∀ w ∈ u_ws C T n, w ∈ tb_all) (hty : ∀ k, k < n → parseFieldDescriptor (T k).2.2.1 = some (ty0 k)) (hnm : ∀ a, a < n → ∀ b, b < n → a ≠ b → (T a).2.1 ≠ (T b).2.1) (hq : q < N) (hf : f q = .inr (ci, fs)) (hk : k < n) (hlink : Cond.fieldLink own index ref (T k).2.1 (T k).2.2.1 ∈ tb_all) (hsame : (T k).1 = ref) (hown2 : (T k).1 = own) (hfin : (T k).2.2.2 = true) (hd : ty0 k = ty) (hn : narrow ty v = v) (hfit : fits ty v = true) (hl : k < fs.length) (hdg : decode cc pc = .ok (.putfield index, 3))
    (kk : ∀ (H1 : Heap) (locs1 : List Loc), WB g A s.heap N ad (va_up f q (.inr (ci, fs.set k v))) H1 locs1 → W p l e R s m args below meth c H1 locs1 cells slots Q (F0 m (pc + 3) ls rest)) : W p l e R s m args below meth c H locs cells slots Q (F0 m pc ls (v :: .ref b :: rest)) := by
  subst hbq
  exact g_putF X hnam hK B hc hin hty hnm hq hf hk hlink hsame hown2 hfin hd hn hfit hl hdg kk
end RT
theorem n_mn {n m : Nat} (h : n ≤ m) (hm : m < 1000) : (if nI n < nI m then nI n else nI m) = nI n := by
  by_cases c : n < m
  · rw [if_pos (nI_lt c (by omega))]
  · rw [if_neg (nI_nlt (by omega) (by omega)), show m = n by omega]
theorem n_0 (a : Int32) : a - 0 = a := Int32.sub_zero a
theorem n_in {n m : Nat} (h : n < m) (hm : m < 1000) : vp_in (nI n) m := nI_in h (by omega)
theorem sl_len {i : Nat} (hi : i < st_n) : st_len.getD i 0 ≤ 38 := by
  have h : (List.range st_n).all (fun i => decide (st_len.getD i 0 ≤ 38)) = true := by decide +kernel
  exact of_decide_eq_true (List.all_eq_true.mp h i (List.mem_range.mpr hi))
theorem cap_b {q m : Nat} (hq : q ≤ 2 * m + 2) (hm : m ≤ 70) : q ≤ sb_cap q m ∧ sb_cap q m ≤ 142 := by
  refine ⟨sb_cap_ge q m, ?_⟩
  unfold sb_cap
  split
  · omega
  · split <;> omega
theorem st_fit : ∀ i, i < st_n → sb_Fit (fun j => (st_byt.getD i []).getD j 0) := by
  have h : (st_byt.all fun l => l.all fun x => decide (fits .byte (.int x) = true)) = true := by decide +kernel
  intro i hi j
  have e0 : fits .byte (.int 0) = true := by decide
  show fits .byte (.int ((st_byt.getD i []).getD j 0)) = true
  rw [List.getD_eq_getElem?_getD, List.getD_eq_getElem?_getD]
  cases h1 : st_byt[i]? with
  | none => exact e0
  | some l =>
    have h2 := List.all_eq_true.mp h l (List.mem_of_getElem? h1)
    show fits .byte (.int (l[j]?.getD 0)) = true
    cases h3 : l[j]? with
    | none => exact e0
    | some x =>
      have h4 := List.all_eq_true.mp h2 x (List.mem_of_getElem? h3)
      exact of_decide_eq_true h4
theorem sn_2 {f : Nat → va_E} {q n : Nat} {a b c : va_E} (h : q ≠ n) : va_up (va_up (va_up f q a) n b) q c = va_up (va_up f q c) n b := sw_s h
theorem up_comm {f : Nat → va_E} {q n : Nat} {b c : va_E} (h : q ≠ n) : va_up (va_up f n b) q c = va_up (va_up f q c) n b := by
  funext k
  by_cases h1 : k = q
  · rw [h1, va_up_self, va_up_ne _ _ h, va_up_self]
  · rw [va_up_ne _ _ h1]
    by_cases h2 : k = n
    · rw [h2, va_up_self, va_up_self]
    · rw [va_up_ne _ _ h2, va_up_ne _ _ h2, va_up_ne _ _ h1]
theorem sb_eq0 {f : Nat → va_E} {q n a : Nat} {c : va_E} : va_up (va_up f q (c_sb a 0 0)) n c = va_up (va_up f q (.inr (1, [.ref a, .int 0, .int 0, .int 0]))) n c := by
  show va_up (va_up f q (.inr (1, [.ref a, .int 0, .int 0, .int (nI 0)]))) n c = _
  rw [nI_0]
/-- a builder's growth, step by step -/
theorem cap_step {q m C S c0 s0 : Nat} (h : (m = 16 ∧ C = c0 ∧ S = s0) ∨ (m = 34 ∧ C = c0 + 1 ∧ S = s0 + 34) ∨ (m = 70 ∧ C ≤ c0 + 2 ∧ S ≤ s0 + 104)) (hq : q ≤ 70) (h2 : q ≤ 2 * m + 2) : ∃ m2 C2 S2 : Nat, sb_cap q m = m2 ∧ C + gC m (sb_cap q m) = C2 ∧ S + gS m (sb_cap q m) = S2 ∧ ((m2 = 16 ∧ C2 = c0 ∧ S2 = s0) ∨ (m2 = 34 ∧ C2 = c0 + 1 ∧ S2 = s0 + 34) ∨ (m2 = 70 ∧ C2 ≤ c0 + 2 ∧ S2 ≤ s0 + 104)) ∧ q ≤ m2 := by
  by_cases c : q ≤ m
  · obtain ⟨e1, e2, e3⟩ := g_no c
    rw [e2, e3, e1]
    exact ⟨m, C, S, rfl, rfl, rfl, h, c⟩
  · obtain ⟨e1, e2, e3⟩ := g_yes c h2
    rw [e2, e3, e1]
    refine ⟨_, _, _, rfl, rfl, rfl, ?_, h2⟩
    omega
/-- the text and its bytes are kept -/
theorem WB_pick2 {g : GG} {A : Nat → Prop} {H0 H : Heap} {N M q a a2 : Nat} {ad ad' : Nat → Nat} {f f' : Nat → va_E} {e e2 : va_E} {locs : List Loc} (B : WB g A H0 M ad' f' H locs) (hq : N ≤ q) (hM : q + 1 < M) (h1 : ∀ k, k < N → ad' k = ad k) (h2 : ∀ k, k < N → f' k = f k) (ha : ad' q = a) (ha2 : ad' (q + 1) = a2) (he : f' q = e) (he2 : f' (q + 1) = e2) : WB g A H0 (N + 1 + 1) (va_up (va_up ad N a) (N + 1) a2) (va_up (va_up f N e) (N + 1) e2) H locs := by
  refine WB_map (fun k => if k = N then q else if k = N + 1 then q + 1 else k) B (fun k hk => ?_) (fun i j hi hj e => ?_) (fun k hk => ?_) (fun k hk => ?_)
  · show (if k = N then q else if k = N + 1 then q + 1 else k) < M
    split
    · omega
    · split <;> omega
  · have e : (if i = N then q else if i = N + 1 then q + 1 else i) = (if j = N then q else if j = N + 1 then q + 1 else j) := e
    split at e <;> split at e <;> (try split at e) <;> (try split at e) <;> omega
  · show _ = ad' (if k = N then q else if k = N + 1 then q + 1 else k)
    by_cases c : k = N
    · rw [if_pos c, c, va_up_ne _ _ (by omega), va_up_self, ha]
    · rw [if_neg c]
      by_cases c2 : k = N + 1
      · rw [if_pos c2, c2, va_up_self, ha2]
      · rw [if_neg c2, va_up_ne _ _ c2, va_up_ne _ _ c, h1 k (by omega)]
  · show va_eq _ (f' (if k = N then q else if k = N + 1 then q + 1 else k))
    by_cases c : k = N
    · rw [if_pos c, c, va_up_ne _ _ (by omega), va_up_self, he]; exact Or.inl rfl
    · rw [if_neg c]
      by_cases c2 : k = N + 1
      · rw [if_pos c2, c2, va_up_self, he2]; exact Or.inl rfl
      · rw [if_neg c2, va_up_ne _ _ c2, va_up_ne _ _ c, h2 k (by omega)]; exact Or.inl rfl
/-- how long texts are -/
def tlen (t : TR) : Nat := ssz t.1 + 2 + ssz t.2.1 + 2 + ssz t.2.2 + 1
def dlen (t : TR) : Nat := ssz t.1 + 1 + ssz t.2.1 + 1 + ssz t.2.2
theorem ssz_le {a : Int32} {k : Nat} (h0 : 0 ≤ a.toInt) (h : a.toInt < 10 ^ (k + 1)) : ssz a ≤ k + 1 := by
  unfold ssz
  rw [if_neg (by rw [Int32.lt_iff_toInt_lt, show (0 : Int32).toInt = 0 from rfl]; omega)]
  have := dgs_le k a.toInt.natAbs (by
    have : ((a.toInt.natAbs : Int)) = a.toInt := Int.natAbs_of_nonneg h0
    have h2 : ((a.toInt.natAbs : Int)) < ((10 ^ (k + 1) : Nat) : Int) := by rw [this]; simpa using h
    exact Int.ofNat_lt.mp h2)
  omega
theorem okd_sz {t : TR} (h : okd t) : ssz t.1 ≤ 4 ∧ ssz t.2.1 ≤ 2 ∧ ssz t.2.2 ≤ 2 := by
  obtain ⟨h1, h2, h3, h4, h5, h6⟩ := h
  refine ⟨ssz_le (k := 3) (by omega) ?_, ssz_le (k := 1) (by omega) ?_, ssz_le (k := 1) (by omega) ?_⟩
  · show t.1.toInt < 10000
    omega
  · show t.2.1.toInt < 100
    omega
  · show t.2.2.toInt < 100
    omega
