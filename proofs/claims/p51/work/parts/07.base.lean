section
/-! what the tables and the statics give, carried by every contract -/
def st_own : List (String × Nat × String) := [("Periodcard", 98, ""), ("Periodcard$Span", 68, "y "), ("Periodcard$Span", 73, "m "), ("java/util/Arrays", 337, " > "), ("Periodcard", 229, "there is no such card"), ("Periodcard", 234, "there is no such part to ask of"), ("Periodcard", 135, "it can be added 0 to 9 times"), ("Periodcard", 232, "there is no such date"), ("Periodcard", 148, "there is no such day from 1600 to 2400"), ("Periodcard", 165, "it can be walked 1 to 12 times"), ("PeriodcardModel", 61, ""), ("PeriodcardModel", 70, "y "), ("PeriodcardModel", 75, "m "), ("PeriodcardModel", 77, "d"), ("PeriodcardModel", 206, "-")]
def st_len : List Nat := [0, 2, 2, 3, 21, 31, 28, 21, 38, 30, 0, 2, 2, 1, 1]
def st_byt : List (List Int32) := [[], [121, 32], [109, 32], [32, 62, 32], [116, 104, 101, 114, 101, 32, 105, 115, 32, 110, 111, 32, 115, 117, 99, 104, 32, 99, 97, 114, 100], [116, 104, 101, 114, 101, 32, 105, 115, 32, 110, 111, 32, 115, 117, 99, 104, 32, 112, 97, 114, 116, 32, 116, 111, 32, 97, 115, 107, 32, 111, 102], [105, 116, 32, 99, 97, 110, 32, 98, 101, 32, 97, 100, 100, 101, 100, 32, 48, 32, 116, 111, 32, 57, 32, 116, 105, 109, 101, 115], [116, 104, 101, 114, 101, 32, 105, 115, 32, 110, 111, 32, 115, 117, 99, 104, 32, 100, 97, 116, 101], [116, 104, 101, 114, 101, 32, 105, 115, 32, 110, 111, 32, 115, 117, 99, 104, 32, 100, 97, 121, 32, 102, 114, 111, 109, 32, 49, 54, 48, 48, 32, 116, 111, 32, 50, 52, 48, 48], [105, 116, 32, 99, 97, 110, 32, 98, 101, 32, 119, 97, 108, 107, 101, 100, 32, 49, 32, 116, 111, 32, 49, 50, 32, 116, 105, 109, 101, 115], [], [121, 32], [109, 32], [100], [45]]
def st_ones : List Int32 := [48, 49, 50, 51, 52, 53, 54, 55, 56, 57, 48, 49, 50, 51, 52, 53, 54, 55, 56, 57, 48, 49, 50, 51, 52, 53, 54, 55, 56, 57, 48, 49, 50, 51, 52, 53, 54, 55, 56, 57, 48, 49, 50, 51, 52, 53, 54, 55, 56, 57, 48, 49, 50, 51, 52, 53, 54, 55, 56, 57, 48, 49, 50, 51, 52, 53, 54, 55, 56, 57, 48, 49, 50, 51, 52, 53, 54, 55, 56, 57, 48, 49, 50, 51, 52, 53, 54, 55, 56, 57, 48, 49, 50, 51, 52, 53, 54, 55, 56, 57]
def st_tens : List Int32 := [48, 48, 48, 48, 48, 48, 48, 48, 48, 48, 49, 49, 49, 49, 49, 49, 49, 49, 49, 49, 50, 50, 50, 50, 50, 50, 50, 50, 50, 50, 51, 51, 51, 51, 51, 51, 51, 51, 51, 51, 52, 52, 52, 52, 52, 52, 52, 52, 52, 52, 53, 53, 53, 53, 53, 53, 53, 53, 53, 53, 54, 54, 54, 54, 54, 54, 54, 54, 54, 54, 55, 55, 55, 55, 55, 55, 55, 55, 55, 55, 56, 56, 56, 56, 56, 56, 56, 56, 56, 56, 57, 57, 57, 57, 57, 57, 57, 57, 57, 57]
def st_lens : List Int32 := [31, 28, 31, 30, 31, 30, 31, 31, 30, 31, 30, 31]
def st_n : Nat := 15
/-- words of links between nest mates, of casts, of what a class declares -/
def ng_ok : Cond → Bool
  | .methodLinkNest .. => true
  | .fieldLinkNest .. => true
  | .castable .. => true
  | .declares _ => true
  | .privateMethod _ => true
  | _ => false
def ng_all (U : State) : Prop := ∀ w ∈ lw_tbl, ng_ok w = true → va_Nw w U
theorem ng_warm {s U : State} (hW : s.WarmedH U.vm) (h : ng_all s) : ng_all U := by
  intro w hw hg
  have h1 := h w hw hg
  cases w <;> first | exact va_Nw.warmM hW h1 | exact va_Nw.warmF hW h1 | exact va_Nw.warmC hW h1 | exact va_Nw.warmD hW h1 | exact Cond.privateMethod_warm hW h1 | (simp [ng_ok] at hg)
def ao_all (U : State) : Prop := va_AO "Periodcard$Span" U ∧ va_AO "Periodcard$Day" U ∧ va_AO "java/lang/Object" U ∧ (Cond.arrayOver (.array .int)).before #[] U = true
theorem ao_moved {s U : State} (hvm : s.vm.Alike U.vm) (h : ao_all s) : ao_all U := ⟨h.1.moved hvm, h.2.1.moved hvm, h.2.2.1.moved hvm, over_moved hvm h.2.2.2⟩
/-- the constants: each a text of the machine's own, of one byte a letter; two of them may be one object -/
def vk_P (N : Nat) (len : List Nat) (byt : List (List Int32)) (adK adV : Nat → Nat) (A : Nat → Prop) (U : State) (H : Heap) : Prop :=
  (∀ i : Nat, i < N → va_O "java/lang/String" (adK i) A U H ∧ va_OF "java/lang/String" "coder" "B" (.int 0) (adK i) A U H ∧ va_OF "java/lang/String" "value" "[B" (.ref (adV i)) (adK i) A U H ∧ va_T .byte (adV i) (len.getD i 0) (fun j => .int ((byt.getD i []).getD j 0)) A U H) ∧ True
theorem vk_P.moved {N : Nat} {len : List Nat} {byt : List (List Int32)} {adK adV : Nat → Nat} {A : Nat → Prop} {u U : State} {H : Heap} (hvm : u.vm.Alike U.vm) (h : vk_P N len byt adK adV A u H) : vk_P N len byt adK adV A U H :=
  ⟨fun i hi => ⟨va_O.moved hvm (h.1 i hi).1, va_OF.moved hvm (h.1 i hi).2.1, va_OF.moved hvm (h.1 i hi).2.2.1, va_T.moved hvm (h.1 i hi).2.2.2⟩, trivial⟩
theorem vk_P.kept {N : Nat} {len : List Nat} {byt : List (List Int32)} {adK adV : Nat → Nat} {A : Nat → Prop} {U : State} {H H1 : Heap} (h : vk_P N len byt adK adV A U H) (hq : ∀ a : Nat, a < H.size → ¬ A a → H1[a]? = H[a]?) : vk_P N len byt adK adV A U H1 :=
  ⟨fun i hi => ⟨va_O.kept (h.1 i hi).1 hq, va_OF.kept (h.1 i hi).2.1 hq, va_OF.kept (h.1 i hi).2.2.1 hq, va_T.kept (h.1 i hi).2.2.2 hq⟩, trivial⟩
theorem vk_P.narrow {N : Nat} {len : List Nat} {byt : List (List Int32)} {adK adV : Nat → Nat} {A B : Nat → Prop} {U : State} {H : Heap} (h : vk_P N len byt adK adV A U H) (hAB : ∀ q, B q → A q) : vk_P N len byt adK adV B U H :=
  ⟨fun i hi => ⟨va_O.narrow (h.1 i hi).1 hAB, va_OF.narrow (h.1 i hi).2.1 hAB, va_OF.narrow (h.1 i hi).2.2.1 hAB, va_T.narrow (h.1 i hi).2.2.2 hAB⟩, trivial⟩
theorem vk_P.one {N i : Nat} {len : List Nat} {byt : List (List Int32)} {adK adV : Nat → Nat} {A : Nat → Prop} {U : State} {H : Heap} (h : vk_P N len byt adK adV A U H) (hi : i < N) : vk_S 1 [len.getD i 0] [byt.getD i []] (fun _ => adK i) (fun _ => adV i) A U H :=
  ⟨fun j hj => by
    have e : j = 0 := by omega
    subst e
    exact h.1 i hi, fun a b ha hb _ => by omega⟩
/-- the statics and the texts: z names the addresses -/
def ST (z : Nat → Nat) (A : Nat → Prop) (U : State) (H : Heap) : Prop :=
  (ng_all U ∧ ao_all U) ∧
  (va_Z "java/lang/String" "COMPACT_STRINGS" "Z" (.int 1) A U H ∧
  (va_Z "java/lang/Integer" "DigitOnes" "[B" (.ref (z 0)) A U H ∧ va_T .byte (z 0) 100 (fun j => .int (st_ones.getD j 0)) A U H) ∧
  (va_Z "java/lang/Integer" "DigitTens" "[B" (.ref (z 1)) A U H ∧ va_T .byte (z 1) 100 (fun j => .int (st_tens.getD j 0)) A U H) ∧
  (va_Z "PeriodcardModel" "LENGTHS" "[I" (.ref (z 2)) A U H ∧ va_T .int (z 2) 12 (fun j => .int (st_lens.getD j 0)) A U H) ∧
  (va_Z "java/util/ArrayList" "DEFAULTCAPACITY_EMPTY_ELEMENTDATA" "[Ljava/lang/Object;" (.ref (z 3)) A U H ∧ va_T (.object "java/lang/Object") (z 3) 0 (fun _ => .null) A U H)) ∧
  (vx_Zq "java/lang/Throwable" "UNASSIGNED_STACK" "[Ljava/lang/StackTraceElement;" A U H ∧ vx_Zq "java/lang/Throwable" "SUPPRESSED_SENTINEL" "Ljava/util/List;" A U H) ∧
  (∀ i, i < st_n → vk_R (st_own.getD i ("", 0, "")).1 (st_own.getD i ("", 0, "")).2.1 (st_own.getD i ("", 0, "")).2.2 (z (100 + i)) U) ∧
  vk_P st_n st_len st_byt (fun i => z (100 + i)) (fun i => z (200 + i)) A U H
theorem ST.to {z : Nat → Nat} {A B : Nat → Prop} {u U : State} {H H1 : Heap} (hW : u.WarmedH U.vm) (h : ST z A u H) (hq : ∀ a : Nat, a < H.size → ¬ A a → H1[a]? = H[a]?) (hAB : ∀ q, B q → A q) : ST z B U H1 := by
  obtain ⟨⟨h1, h2⟩, ⟨h3, ⟨h4, h5⟩, ⟨h6, h7⟩, ⟨h8, h9⟩, ⟨h10, h11⟩⟩, ⟨h12, h13⟩, h14, h15⟩ := h
  have hv := hW.alike
  exact ⟨⟨ng_warm hW h1, ao_moved hv h2⟩, ⟨((h3.kept hq).narrow hAB).moved hv, ⟨((h4.kept hq).narrow hAB).moved hv, ((h5.kept hq).narrow hAB).moved hv⟩, ⟨((h6.kept hq).narrow hAB).moved hv, ((h7.kept hq).narrow hAB).moved hv⟩, ⟨((h8.kept hq).narrow hAB).moved hv, ((h9.kept hq).narrow hAB).moved hv⟩, ⟨((h10.kept hq).narrow hAB).moved hv, ((h11.kept hq).narrow hAB).moved hv⟩⟩,
    ⟨((h12.kept hq).narrow hAB).moved hv, ((h13.kept hq).narrow hAB).moved hv⟩, fun i hi => (h14 i hi).warm hW, ((h15.kept hq).narrow hAB).moved hv⟩
/-! a world: N places, at each an address and what lies there -/
def wd (N : Nat) (ad : Nat → Nat) (f : Nat → va_E) : va_W := (List.range N).map (fun k => (ad k, f k))
theorem wd_len {N : Nat} {ad : Nat → Nat} {f : Nat → va_E} : (wd N ad f).length = N := by simp [wd]
theorem wd_get {N : Nat} {ad : Nat → Nat} {f : Nat → va_E} {k : Nat} (h : k < N) : (wd N ad f)[k]? = some (ad k, f k) := by
  unfold wd
  rw [List.getElem?_map, List.getElem?_range h]
  rfl
theorem wd_at {N : Nat} {ad : Nat → Nat} {f : Nat → va_E} {k : Nat} {q : Nat × va_E} (h : (wd N ad f)[k]? = some q) : k < N ∧ q = (ad k, f k) := by
  have hk : k < N := by
    have := (List.getElem?_eq_some_iff.mp h).1
    rwa [wd_len] at this
  rw [wd_get hk] at h
  exact ⟨hk, (Option.some.inj h).symm⟩
theorem wd_ext {w : va_W} {N : Nat} {ad : Nat → Nat} {f : Nat → va_E} (hl : w.length = N) (h : ∀ k, k < N → w[k]? = some (ad k, f k)) : w = wd N ad f := by
  apply List.ext_getElem?
  intro k
  by_cases hk : k < N
  · rw [h k hk, wd_get hk]
  · rw [List.getElem?_eq_none (by omega), List.getElem?_eq_none (by rw [wd_len]; omega)]
theorem wd_set {N : Nat} {ad : Nat → Nat} {f : Nat → va_E} {k : Nat} {e : va_E} (h : k < N) : (wd N ad f).set k (ad k, e) = wd N ad (va_up f k e) := by
  apply wd_ext
  · rw [List.length_set, wd_len]
  · intro j hj
    by_cases hjk : j = k
    · subst hjk
      rw [List.getElem?_set_self (by rw [wd_len]; exact hj)]
      simp [va_up]
    · rw [List.getElem?_set_ne (fun z => hjk z.symm), wd_get hj]
      simp [va_up, hjk]
theorem wd_push {N : Nat} {ad : Nat → Nat} {f : Nat → va_E} {a : Nat} {e : va_E} : wd N ad f ++ [(a, e)] = wd (N + 1) (va_up ad N a) (va_up f N e) := by
  apply wd_ext
  · rw [List.length_append, wd_len]; rfl
  · intro j hj
    by_cases hjk : j < N
    · rw [List.getElem?_append_left (by rw [wd_len]; exact hjk), wd_get hjk]
      simp [va_up, Nat.ne_of_lt hjk]
    · have : j = N := by omega
      subst this
      rw [List.getElem?_append_right (by rw [wd_len]; exact Nat.le_refl _), wd_len, Nat.sub_self]
      simp [va_up]
theorem wd_P {D : va_G} {cl : List vw_C} {N : Nat} {ad : Nat → Nat} {f : Nat → va_E} {H : Heap} : va_P D cl (wd N ad f) H ↔ ∀ k, k < N → va_at D cl (ad k, f k) H := by
  constructor
  · intro h k hk
    exact h k _ (wd_get hk)
  · intro h k q hq
    obtain ⟨hk, rfl⟩ := wd_at hq
    exact h k hk
theorem wd_D {A : Nat → Prop} {N : Nat} {ad : Nat → Nat} {f : Nat → va_E} : va_D A (wd N ad f) ↔ (∀ i j, i < N → j < N → ad i = ad j → i = j) ∧ ∀ k, k < N → A (ad k) := by
  constructor
  · intro h
    exact ⟨fun i j hi hj e => h.1 i j _ _ (wd_get hi) (wd_get hj) e, fun k hk => h.2 k _ (wd_get hk)⟩
  · intro h
    refine ⟨fun i j p q hi hj e => ?_, fun k q hq => ?_⟩
    · obtain ⟨hi2, rfl⟩ := wd_at hi
      obtain ⟨hj2, rfl⟩ := wd_at hj
      exact h.1 i j hi2 hj2 e
    · obtain ⟨hk, rfl⟩ := wd_at hq
      exact h.2 k hk
theorem wd_eq {N : Nat} {ad ad' : Nat → Nat} {f f' : Nat → va_E} (h1 : ∀ k, k < N → ad' k = ad k) (h2 : ∀ k, k < N → f' k = f k) : wd N ad' f' = wd N ad f := by
  apply wd_ext wd_len
  intro k hk
  rw [wd_get hk, h1 k hk, h2 k hk]
/-- what a method may write: its world's addresses, and what is new -/
def aw (N : Nat) (ad : Nat → Nat) (sz : Nat) : Nat → Prop := fun q => (∃ k, k < N ∧ q = ad k) ∨ sz ≤ q
abbrev GG : Type := va_G × (Nat → ClassId) × (Nat → Nat)
def TY (ti : Nat → ClassId) : List (ClassId × FieldType) := [(ti 0, .int), (ti 1, .byte), (ti 2, .array .int), (ti 3, .object "Periodcard$Span"), (ti 4, .object "Periodcard$Day"), (ti 5, .object "java/lang/Object")]
abbrev KK (g : GG) (U : State) : Prop := va_K g.1 vwCl (TY g.2.1) U
/-- the world in a walk -/
def WB (g : GG) (A : Nat → Prop) (H0 : Heap) (N : Nat) (ad : Nat → Nat) (f : Nat → va_E) (H : Heap) (locs : List Loc) : Prop := va_P g.1 vwCl (wd N ad f) H ∧ va_D A (wd N ad f) ∧ va_S A H0 H locs
/-- a contract's start -/
def PR (g : GG) (N : Nat) (ad : Nat → Nat) (f : Nat → va_E) (sz : Nat) (U : State) : Prop := U.heap.size = sz ∧ va_P g.1 vwCl (wd N ad f) U.heap ∧ KK g U ∧ va_D (fun _ => True) (wd N ad f) ∧ ST g.2.2 (aw N ad sz) U U.heap
/-- a contract's end: the world of N places -/
def PO (g : GG) (N : Nat) (ad : Nat → Nat) (f : Nat → va_E) (A : Nat → Prop) (t : State) : Prop := va_P g.1 vwCl (wd N ad f) t.heap ∧ va_D A (wd N ad f)
theorem PR_blind {g : GG} {N : Nat} {ad : Nat → Nat} {f : Nat → va_E} {sz : Nat} {av : List Value} : FrameBlind (va_Pc av (PR g N ad f sz)) := by
  intro a U k mk h
  obtain ⟨h0, h1, h2, h3, h4, h5⟩ := h
  have hW : U.WarmedH (U.calling k mk a).vm := State.WarmedH.refl U
  exact ⟨h0, h1, h2, va_K.moved hW.alike h3, h4, h5.to hW (fun _ _ _ => rfl) (fun _ h => h)⟩
theorem aw_of {g : GG} {A : Nat → Prop} {H0 H : Heap} {N : Nat} {ad : Nat → Nat} {f : Nat → va_E} {locs : List Loc} (hA : ∀ q, H0.size ≤ q → A q) (B : WB g A H0 N ad f H locs) : ∀ q, aw N ad H.size q → A q := by
  intro q h
  rcases h with ⟨k, hk, rfl⟩ | h
  · exact (wd_D.mp B.2.1).2 k hk
  · exact hA q (Nat.le_trans B.2.2.1 h)
theorem PR_of {g : GG} {A : Nat → Prop} {s : State} {H : Heap} {N : Nat} {ad : Nat → Nat} {f : Nat → va_E} {locs : List Loc} (hA : ∀ q, s.heap.size ≤ q → A q) (hK : KK g s) (hT : ST g.2.2 A s s.heap) (B : WB g A s.heap N ad f H locs) {U : State} (hU : U.heap = H) (hW : s.WarmedH U.vm) : PR g N ad f H.size U := by
  refine ⟨by rw [hU], by rw [hU]; exact B.1, va_K.moved hW.alike hK, B.2.1.weaken (fun _ _ _ _ => trivial), ?_⟩
  rw [hU]
  exact hT.to hW (fun a h1 h2 => B.2.2.2.1 a h1 h2) (aw_of hA B)
theorem pS {g : GG} {A : Nat → Prop} {s : State} {H : Heap} {N : Nat} {ad : Nat → Nat} {f : Nat → va_E} {locs : List Loc} {As : List Value} (hA : ∀ q, s.heap.size ≤ q → A q) (hK : KK g s) (hT : ST g.2.2 A s s.heap) (B : WB g A s.heap N ad f H locs) : PreS s H (va_Pc As (PR g N ad f H.size)) As :=
  ⟨PR_blind, fun _ hU hW => ⟨rfl, PR_of hA hK hT B hU hW⟩⟩
theorem pV {g : GG} {A : Nat → Prop} {s : State} {H : Heap} {N : Nat} {ad : Nat → Nat} {f : Nat → va_E} {locs : List Loc} {As : List Value} (hA : ∀ q, s.heap.size ≤ q → A q) (hK : KK g s) (hT : ST g.2.2 A s s.heap) (B : WB g A s.heap N ad f H locs) {q ci : Nat} {fs : List Value} {r : vw_C} (hq : q < N) (hf : f q = .inr (ci, fs)) (hc : vwCl[ci]? = some r) : PreV s H r.1 (ad q) (va_Pc (.ref (ad q) :: As) (PR g N ad f H.size)) As :=
  ⟨PR_blind, va_recv hK B.1 (q0 := q) hc (by rw [wd_get hq, hf]), fun _ hU hW => ⟨rfl, PR_of hA hK hT B hU hW⟩⟩
end
section
/-! the walk's start, its ends, its calls, over a world of places -/
abbrev WS : Type := (Nat → Nat) × (Nat → va_E)
/-- what a walk has at hand -/
def CX (p : Program) (s : State) (m : MethodId) (args : Array Value) (meth : Method) (c : Code) (cc : ByteArray) (nL : Nat) (own : String) (cw : Cond) : Prop :=
  p.tables.exec = Jvm.exec ∧ c.code = cc ∧ c.maxLocals = nL ∧ s.vm.findClass own = some m.cls ∧ (∀ w ∈ cw :: tb_all, w.before args s = true) ∧ meth.locks = false
theorem mt_start {l : Launch} {y : MethodName} {cc : ByteArray} {maxL : Nat} {ret : Option FieldType} {rm : Room} {av : List Value} {g : GG} {N : Nat} {ad : Nat → Nat} {f : Nat → va_E} {sz : Nat} {Qc : Array Value → State → Outcome → State → Prop} {mc ms : Nat}
    (hy : plainName y.cls = true) (hav : (lg_sl av).length ≤ maxL)
    (body : ∀ (p : Program) (e : Env) (s : State) (m : MethodId) (args : Array Value) (below : List Frame) (meth : Method) (c : Code), sz = s.heap.size → CX p s m args meth c cc maxL y.cls (Cond.code y cc maxL ret) → meth.sig.returnType = ret → meth.name = y.name → (∀ q, s.heap.size ≤ q → aw N ad sz q) → KK g s → ST g.2.2 (aw N ad sz) s s.heap → ∀ (H : Heap) (locs : List Loc), WB g (aw N ad sz) s.heap N ad f H locs →
      ∀ ls : Array Slot, lv_has ls maxL (lv_args 0 av) → W p l e rm s m args below meth c H locs 0 0 (MQ below Qc args s mc ms (aw N ad sz)) (F0 m 0 ls [])) :
    Met l y (Cond.code y cc maxL ret :: tb_all) rm (va_Pc av (PR g N ad f sz)) Qc mc ms (aw N ad sz) := by
  refine Met.ofW (cc := cc) (maxL := maxL) (ret := ret) hy rfl ?_
  intro p e s m args below meth c s₁ B hml hv
  obtain ⟨rfl, hsz, hP, hK, hD, hT⟩ := hv
  have hl := lv_entry av (n := maxL) hav
  rw [lg_entry_eq]
  subst hsz
  exact body p e s m _ below meth c rfl ⟨B.exec, B.bytes, hml, findClass_of_methodNamed B.named, atoms_spec (ws := Cond.code y cc maxL ret :: tb_all) B.pre, B.notSynchronized⟩ B.returns (name_of_methodNamed B.named B.method).1 (fun q h => Or.inr h) hK hT
    s.heap [] ⟨hP, wd_D.mpr ⟨(wd_D.mp hD).1, fun k hk => Or.inl ⟨k, hk, rfl⟩⟩, va_S.rf⟩ _ hl
theorem mx_start {l : Launch} {y : MethodName} {cc : ByteArray} {maxL : Nat} {ret : Option FieldType} {rm : Room} {av : List Value} {g : GG} {N : Nat} {ad : Nat → Nat} {f : Nat → va_E} {sz : Nat} {Qc : Array Value → State → Outcome → State → Prop} {XC : String → State → State → Prop} {mc ms : Nat}
    (hy : plainName y.cls = true) (hav : (lg_sl av).length ≤ maxL)
    (body : ∀ (p : Program) (e : Env) (s : State) (m : MethodId) (args : Array Value) (below : List Frame) (meth : Method) (c : Code), sz = s.heap.size → CX p s m args meth c cc maxL y.cls (Cond.code y cc maxL ret) → meth.sig.returnType = ret → (∀ x ∈ c.exceptionTable.toList, False) → (∀ q, s.heap.size ≤ q → aw N ad sz q) → KK g s → ST g.2.2 (aw N ad sz) s s.heap → ∀ (H : Heap) (locs : List Loc), WB g (aw N ad sz) s.heap N ad f H locs →
      ∀ ls : Array Slot, lv_has ls maxL (lv_args 0 av) → W p l e rm s m args below meth c H locs 0 0 (vx_MQ below Qc XC args s mc ms (aw N ad sz)) (F0 m 0 ls [])) :
    vx_Met l y (Cond.code y cc maxL ret :: tb_all) rm (va_Pc av (PR g N ad f sz)) Qc XC mc ms (aw N ad sz) := by
  refine vx_ofW (cc := cc) (maxL := maxL) (ret := ret) hy rfl ?_
  intro p e s m args below meth c s₁ B hml hex hv
  obtain ⟨rfl, hsz, hP, hK, hD, hT⟩ := hv
  have hl := lv_entry av (n := maxL) hav
  rw [lg_entry_eq]
  subst hsz
  exact body p e s m _ below meth c rfl ⟨B.exec, B.bytes, hml, findClass_of_methodNamed B.named, atoms_spec (ws := Cond.code y cc maxL ret :: tb_all) B.pre, B.notSynchronized⟩ B.returns hex (fun q h => Or.inr h) hK hT
    s.heap [] ⟨hP, wd_D.mpr ⟨(wd_D.mp hD).1, fun k hk => Or.inl ⟨k, hk, rfl⟩⟩, va_S.rf⟩ _ hl
/-! contracts: an int, a boolean; a long; nothing; a reference; the world has N' places behind it -/
def KI (l : Launch) (y : MethodName) (cc : ByteArray) (maxL : Nat) (ret : Option FieldType) (rm : Room) (g : GG) (av : List Value) (N : Nat) (ad : Nat → Nat) (f : Nat → va_E) (N' : Nat) (post : Int32 → (Nat → Nat) → (Nat → va_E) → Prop) : Prop :=
  ∀ sz : Nat, Met l y (Cond.code y cc maxL ret :: tb_all) rm (va_Pc av (PR g N ad f sz)) (va_Qi (fun r (u : WS) => post r u.1 u.2) (fun u t => PO g N' u.1 u.2 (aw N ad sz) t) (aw N ad sz)) rm.cells rm.slots (aw N ad sz)
def KL (l : Launch) (y : MethodName) (cc : ByteArray) (maxL : Nat) (rm : Room) (g : GG) (av : List Value) (N : Nat) (ad : Nat → Nat) (f : Nat → va_E) (N' : Nat) (post : Int64 → (Nat → Nat) → (Nat → va_E) → Prop) : Prop :=
  ∀ sz : Nat, Met l y (Cond.code y cc maxL (some .long) :: tb_all) rm (va_Pc av (PR g N ad f sz)) (va_Ql (fun r (u : WS) => post r u.1 u.2) (fun u t => PO g N' u.1 u.2 (aw N ad sz) t) (aw N ad sz)) rm.cells rm.slots (aw N ad sz)
def KV (l : Launch) (y : MethodName) (cc : ByteArray) (maxL : Nat) (rm : Room) (g : GG) (av : List Value) (N : Nat) (ad : Nat → Nat) (f : Nat → va_E) (N' : Nat) (post : (Nat → Nat) → (Nat → va_E) → Prop) : Prop :=
  ∀ sz : Nat, Met l y (Cond.code y cc maxL none :: tb_all) rm (va_Pc av (PR g N ad f sz)) (va_Qv (fun (u : WS) => post u.1 u.2) (fun u t => PO g N' u.1 u.2 (aw N ad sz) t) (aw N ad sz)) rm.cells rm.slots (aw N ad sz)
def KR (l : Launch) (y : MethodName) (cc : ByteArray) (maxL : Nat) (ret : FieldType) (rm : Room) (g : GG) (av : List Value) (N : Nat) (ad : Nat → Nat) (f : Nat → va_E) (N' : Nat) (post : Option Nat → (Nat → Nat) → (Nat → va_E) → Prop) : Prop :=
  ∀ sz : Nat, Met l y (Cond.code y cc maxL (some ret) :: tb_all) rm (va_Pc av (PR g N ad f sz)) (va_Qq (fun r (u : WS) => post r u.1 u.2) (fun u t => PO g N' u.1 u.2 (aw N ad sz) t) (aw N ad sz)) rm.cells rm.slots (aw N ad sz)
/-- what is thrown: the class by its name, and the world as it then is -/
abbrev XS (g : GG) (N : Nat) (ad : Nat → Nat) (f : Nat → va_E) (sz : Nat) (px : String → Prop) : String → State → State → Prop := vx_X (fun _ : Unit => True) (fun E _ t => px E ∧ PO g N ad f (aw N ad sz) t) (aw N ad sz)
def XI (l : Launch) (y : MethodName) (cc : ByteArray) (maxL : Nat) (ret : Option FieldType) (rm : Room) (g : GG) (av : List Value) (N : Nat) (ad : Nat → Nat) (f : Nat → va_E) (N' : Nat) (px : String → Prop) (post : Int32 → (Nat → Nat) → (Nat → va_E) → Prop) : Prop :=
  ∀ sz : Nat, vx_Met l y (Cond.code y cc maxL ret :: tb_all) rm (va_Pc av (PR g N ad f sz)) (va_Qi (fun r (u : WS) => post r u.1 u.2) (fun u t => PO g N' u.1 u.2 (aw N ad sz) t) (aw N ad sz)) (XS g N ad f sz px) rm.cells rm.slots (aw N ad sz)
def XV (l : Launch) (y : MethodName) (cc : ByteArray) (maxL : Nat) (rm : Room) (g : GG) (av : List Value) (N : Nat) (ad : Nat → Nat) (f : Nat → va_E) (N' : Nat) (px : String → Prop) (post : (Nat → Nat) → (Nat → va_E) → Prop) : Prop :=
  ∀ sz : Nat, vx_Met l y (Cond.code y cc maxL none :: tb_all) rm (va_Pc av (PR g N ad f sz)) (va_Qv (fun (u : WS) => post u.1 u.2) (fun u t => PO g N' u.1 u.2 (aw N ad sz) t) (aw N ad sz)) (XS g N ad f sz px) rm.cells rm.slots (aw N ad sz)
def XR (l : Launch) (y : MethodName) (cc : ByteArray) (maxL : Nat) (ret : FieldType) (rm : Room) (g : GG) (av : List Value) (N : Nat) (ad : Nat → Nat) (f : Nat → va_E) (N' : Nat) (px : String → Prop) (post : Option Nat → (Nat → Nat) → (Nat → va_E) → Prop) : Prop :=
  ∀ sz : Nat, vx_Met l y (Cond.code y cc maxL (some ret) :: tb_all) rm (va_Pc av (PR g N ad f sz)) (va_Qq (fun r (u : WS) => post r u.1 u.2) (fun u t => PO g N' u.1 u.2 (aw N ad sz) t) (aw N ad sz)) (XS g N ad f sz px) rm.cells rm.slots (aw N ad sz)
theorem WB.drop {g : GG} {A : Nat → Prop} {H0 H : Heap} {N N' : Nat} {ad ad' : Nat → Nat} {f f' : Nat → va_E} {locs : List Loc} (B : WB g A H0 N' ad' f' H locs) (hN : N ≤ N') (h1 : ∀ k, k < N → ad' k = ad k) (h2 : ∀ k, k < N → f' k = f k) : WB g A H0 N ad f H locs := by
  obtain ⟨hP, hD, hS⟩ := B
  refine ⟨wd_P.mpr fun k hk => ?_, wd_D.mpr ⟨fun i j hi hj e => ?_, fun k hk => ?_⟩, hS⟩
  · have := wd_P.mp hP k (by omega)
    rwa [h1 k hk, h2 k hk] at this
  · exact (wd_D.mp hD).1 i j (by omega) (by omega) (by rw [h1 i hi, h1 j hj]; exact e)
  · have := (wd_D.mp hD).2 k (by omega)
    rwa [h1 k hk] at this
theorem WB.cast {g : GG} {A : Nat → Prop} {H0 H : Heap} {N : Nat} {ad : Nat → Nat} {f f' : Nat → va_E} {locs : List Loc} (B : WB g A H0 N ad f H locs) (h2 : ∀ k, k < N → f k = f' k) : WB g A H0 N ad f' H locs := B.drop (Nat.le_refl N) (fun _ _ => rfl) h2
theorem WB.inj {g : GG} {A : Nat → Prop} {H0 H : Heap} {N : Nat} {ad : Nat → Nat} {f : Nat → va_E} {locs : List Loc} (B : WB g A H0 N ad f H locs) {i j : Nat} (hi : i < N) (hj : j < N) (h : ad i = ad j) : i = j := (wd_D.mp B.2.1).1 i j hi hj h
section RW
variable {p : Program} {l : Launch} {e : Env} {R : Room} {s : State} {m : MethodId} {args : Array Value} {below : List Frame} {meth : Method} {c : Code} {H : Heap} {locs : List Loc} {cells slots : Nat} {Q : State → Prop}
variable {cc : ByteArray} {nL : Nat} {own : String} {cw : Cond} {pc : Nat} {ls : Array Slot} {rest st0 : List Value} {g : GG} {A : Nat → Prop} {H0 : Heap} {N : Nat} {ad : Nat → Nat} {f : Nat → va_E}
theorem PO_of (B : WB g A H0 N ad f H locs) : ∀ t : State, t.heap = H → PO g N ad f A t := fun t ht => ⟨by rw [ht]; exact B.1, B.2.1⟩
/-- the end: an int or a boolean -/
theorem rt_i {S : Type} {post : Int32 → S → Prop} {Bf : S → State → Prop} {v : Int32} {mc ms : Nat} {ty : FieldType} (X : CX p s m args meth c cc nL own cw) (hr : meth.sig.returnType = some ty) (u : S) (B : WB g A s.heap N ad f H locs) (hBf : ∀ t : State, t.heap = H → Bf u t) (hp : post v u) (hn : narrow ty (.int v) = .int v) (h1 : cells ≤ mc) (h2 : slots ≤ ms) (hdg : decode cc pc = .ok (.ireturn, 1)) :
    W p l e R s m args below meth c H locs cells slots (MQ below (va_Qi post Bf A) args s mc ms A) (F0 m pc ls [.int v]) := by
  refine W.widen h1 h2 ?_
  have hlocks := X.2.2.2.2.2
  exact W.zret X.1 X.2.1 hr hn (fun t ht hW => ⟨⟨v, u, rfl, hp, hBf t ht⟩, B.2.2.F ht⟩) B.2.2.2.2 hdg
theorem rt_l {S : Type} {post : Int64 → S → Prop} {Bf : S → State → Prop} {v : Int64} {mc ms : Nat} (X : CX p s m args meth c cc nL own cw) (hr : meth.sig.returnType = some .long) (u : S) (B : WB g A s.heap N ad f H locs) (hBf : ∀ t : State, t.heap = H → Bf u t) (hp : post v u) (h1 : cells ≤ mc) (h2 : slots ≤ ms) (hdg : decode cc pc = .ok (.lreturn, 1)) :
    W p l e R s m args below meth c H locs cells slots (MQ below (va_Ql post Bf A) args s mc ms A) (F0 m pc ls [.long v]) := by
  refine W.widen h1 h2 ?_
  have hlocks := X.2.2.2.2.2
  exact W.lret X.1 X.2.1 hr (fun t ht hW => ⟨⟨v, u, rfl, hp, hBf t ht⟩, B.2.2.F ht⟩) B.2.2.2.2 hdg
theorem rt_v {S : Type} {post : S → Prop} {Bf : S → State → Prop} {mc ms : Nat} (X : CX p s m args meth c cc nL own cw) (hr : meth.sig.returnType = none) (u : S) (B : WB g A s.heap N ad f H locs) (hBf : ∀ t : State, t.heap = H → Bf u t) (hp : post u) (h1 : cells ≤ mc) (h2 : slots ≤ ms) (hdg : decode cc pc = .ok (.return_, 1)) :
    W p l e R s m args below meth c H locs cells slots (MQ below (va_Qv post Bf A) args s mc ms A) (F0 m pc ls []) := by
  refine W.widen h1 h2 ?_
  have hlocks := X.2.2.2.2.2
  exact W.vret X.1 X.2.1 hr (fun t ht hW => ⟨⟨u, rfl, hp, hBf t ht⟩, B.2.2.F ht⟩) B.2.2.2.2 hdg
theorem rt_r {S : Type} {post : Option Nat → S → Prop} {Bf : S → State → Prop} {r : Option Nat} {mc ms : Nat} {rt : FieldType} {v : Value} (hv : v = va_rf r) (X : CX p s m args meth c cc nL own cw) (hr : meth.sig.returnType = some rt) (hrt : (∃ n, rt = .object n) ∨ ∃ t, rt = .array t) (u : S) (B : WB g A s.heap N ad f H locs) (hBf : ∀ t : State, t.heap = H → Bf u t) (hp : post r u) (h1 : cells ≤ mc) (h2 : slots ≤ ms) (hdg : decode cc pc = .ok (.areturn, 1)) :
    W p l e R s m args below meth c H locs cells slots (MQ below (va_Qq post Bf A) args s mc ms A) (F0 m pc ls [v]) := by
  subst hv
  refine W.widen h1 h2 ?_
  have hlocks := X.2.2.2.2.2
  exact W.aret X.1 X.2.1 hr hrt (by cases r <;> simp [va_rf]) (fun t ht hW => ⟨⟨r, u, rfl, hp, hBf t ht⟩, B.2.2.F ht⟩) B.2.2.2.2 hdg
/-! the ways of calling: what the callee's contract gives as a run -/
theorem u_V {y : MethodName} {bytes : ByteArray} {maxL index n : Nat} {ret : Option FieldType} {rm : Room} {As : List Value} {Qc : Array Value → State → Outcome → State → Prop} {free : Addr → Prop} {q ci : Nat} {fs : List Value} {r : vw_C}
    (X : CX p s m args meth c cc nL own cw) (hM : Met l y (Cond.code y bytes maxL ret :: tb_all) rm (va_Pc (.ref (ad q) :: As) (PR g N ad f H.size)) Qc rm.cells rm.slots free)
    (hy : Cond.code y bytes maxL ret ∈ tb_all ∧ Cond.instanceMethod y ∈ tb_all ∧ Cond.selects y.cls y y ∈ tb_all ∧ Cond.initialized y.cls ∈ tb_all) (hd : y.cls ≠ "java/lang/invoke/MethodHandle" ∧ y.cls ≠ "java/lang/invoke/VarHandle" ∧ (parseMethodDescriptor y.desc).map (fun d => d.parameters.length) = some n) (hn : As.length = n) (hlk : Cond.methodLink own index y ∈ tb_all)
    (hR : rm.frames + 1 ≤ R.frames ∧ 8 + (maxL + 11) + rm.locals ≤ R.locals) (hA : ∀ q, s.heap.size ≤ q → A q) (hK : KK g s) (hT : ST g.2.2 A s s.heap) (B : WB g A s.heap N ad f H locs) (hq : q < N) (hf : f q = .inr (ci, fs)) (hc : vwCl[ci]? = some r) (hyc : y.cls = r.1) (hls : ls.size = nL)
    (hst : st0 = As.reverse ++ .ref (ad q) :: rest) (hW : (rest.map fun v => v.category).sum ≤ 8) (hdg : decode cc pc = .ok (.invokevirtual index, 3)) (hf2 : cells + rm.cells ≤ R.cells ∧ slots + rm.slots ≤ R.slots) :
    va_Run p l e R s m args below meth c H locs cells slots rm.cells rm.slots (F0 m pc ls st0) rest (Qc (Value.ref (ad q) :: As).toArray) free := by
  obtain ⟨hx, hb, hml, hown, hts, -⟩ := X
  have hm : ∀ w ∈ tb_all, w.before args s = true := fun w h => hts w (List.mem_cons_of_mem _ h)
  have hp := pV (As := As) hA hK hT B hq hf hc
  rw [← hyc] at hp
  exact va_runV ⟨hx, hb, hml, hown, hts⟩ hM ⟨callB_of n hts (tb_good hy.1) rfl rfl rfl (hm _ hy.2.2.2) (hm _ hlk) hd hR, hm _ hy.2.1, hm _ hy.2.2.1⟩ hp rfl hn hls hst (lv_room hW) hdg hf2
theorem u_S {y : MethodName} {bytes : ByteArray} {maxL index n : Nat} {ret : Option FieldType} {rm : Room} {As : List Value} {Qc : Array Value → State → Outcome → State → Prop} {free : Addr → Prop}
    (X : CX p s m args meth c cc nL own cw) (hM : Met l y (Cond.code y bytes maxL ret :: tb_all) rm (va_Pc As (PR g N ad f H.size)) Qc rm.cells rm.slots free)
    (hy : Cond.code y bytes maxL ret ∈ tb_all ∧ Cond.static y ∈ tb_all ∧ Cond.initialized y.cls ∈ tb_all) (hd : y.cls ≠ "java/lang/invoke/MethodHandle" ∧ y.cls ≠ "java/lang/invoke/VarHandle" ∧ (parseMethodDescriptor y.desc).map (fun d => d.parameters.length) = some n) (hn : As.length = n) (hlk : Cond.methodLink own index y ∈ tb_all)
    (hR : rm.frames + 1 ≤ R.frames ∧ 8 + (maxL + 11) + rm.locals ≤ R.locals) (hA : ∀ q, s.heap.size ≤ q → A q) (hK : KK g s) (hT : ST g.2.2 A s s.heap) (B : WB g A s.heap N ad f H locs) (hls : ls.size = nL)
    (hst : st0 = As.reverse ++ rest) (hW : (rest.map fun v => v.category).sum ≤ 8) (hdg : decode cc pc = .ok (.invokestatic index, 3)) (hf2 : cells + rm.cells ≤ R.cells ∧ slots + rm.slots ≤ R.slots) :
    va_Run p l e R s m args below meth c H locs cells slots rm.cells rm.slots (F0 m pc ls st0) rest (Qc As.toArray) free := by
  obtain ⟨hx, hb, hml, hown, hts, -⟩ := X
  have hm : ∀ w ∈ tb_all, w.before args s = true := fun w h => hts w (List.mem_cons_of_mem _ h)
  exact va_runS ⟨hx, hb, hml, hown, hts⟩ hM ⟨callB_of n hts (tb_good hy.1) rfl rfl rfl (hm _ hy.2.2) (hm _ hlk) hd hR, hm _ hy.2.1⟩ (pS hA hK hT B) rfl hn hls hst (lv_room hW) hdg hf2
theorem u_I {y : MethodName} {bytes : ByteArray} {maxL index n : Nat} {rm : Room} {As : List Value} {b : Nat} {Qc : Array Value → State → Outcome → State → Prop} {free : Addr → Prop}
    (X : CX p s m args meth c cc nL own cw) (hM : Met l y (Cond.code y bytes maxL none :: tb_all) rm (va_Pc (.ref b :: As) (PR g N ad f H.size)) Qc rm.cells rm.slots free)
    (hy : Cond.code y bytes maxL none ∈ tb_all ∧ Cond.instanceMethod y ∈ tb_all ∧ Cond.initialized y.cls ∈ tb_all) (hy1 : y.name = "<init>") (hd : y.cls ≠ "java/lang/invoke/MethodHandle" ∧ y.cls ≠ "java/lang/invoke/VarHandle" ∧ (parseMethodDescriptor y.desc).map (fun d => d.parameters.length) = some n) (hn : As.length = n) (hlk : Cond.methodLink own index y ∈ tb_all)
    (hR : rm.frames + 1 ≤ R.frames ∧ 8 + (maxL + 11) + rm.locals ≤ R.locals) (hA : ∀ q, s.heap.size ≤ q → A q) (hK : KK g s) (hT : ST g.2.2 A s s.heap) (B : WB g A s.heap N ad f H locs) (hls : ls.size = nL)
    (hst : st0 = As.reverse ++ .ref b :: rest) (hW : (rest.map fun v => v.category).sum ≤ 8) (hdg : decode cc pc = .ok (.invokespecial index, 3)) (hf2 : cells + rm.cells ≤ R.cells ∧ slots + rm.slots ≤ R.slots) :
    va_Run p l e R s m args below meth c H locs cells slots rm.cells rm.slots (F0 m pc ls st0) rest (Qc (Value.ref b :: As).toArray) free := by
  obtain ⟨hx, hb, hml, hown, hts, -⟩ := X
  have hm : ∀ w ∈ tb_all, w.before args s = true := fun w h => hts w (List.mem_cons_of_mem _ h)
  exact va_runI ⟨hx, hb, hml, hown, hts⟩ hM ⟨callB_of n hts (tb_good hy.1) rfl rfl rfl (hm _ hy.2.2) (hm _ hlk) hd hR, hy1, hm _ hy.2.1⟩ (pS hA hK hT B) rfl hn hls hst (lv_room hW) hdg hf2
theorem u_VN {y : MethodName} {host : String} {bytes : ByteArray} {maxL index n : Nat} {ret : Option FieldType} {rm : Room} {As : List Value} {Qc : Array Value → State → Outcome → State → Prop} {free : Addr → Prop} {q ci : Nat} {fs : List Value} {r : vw_C}
    (X : CX p s m args meth c cc nL own cw) (hM : Met l y (Cond.code y bytes maxL ret :: tb_all) rm (va_Pc (.ref (ad q) :: As) (PR g N ad f H.size)) Qc rm.cells rm.slots free)
    (hy : Cond.code y bytes maxL ret ∈ tb_all ∧ Cond.instanceMethod y ∈ tb_all ∧ Cond.selects y.cls y y ∈ tb_all ∧ Cond.initialized y.cls ∈ tb_all) (hd : y.cls ≠ "java/lang/invoke/MethodHandle" ∧ y.cls ≠ "java/lang/invoke/VarHandle" ∧ (parseMethodDescriptor y.desc).map (fun d => d.parameters.length) = some n) (hn : As.length = n) (hlk : Cond.methodLinkNest own index y host ∈ lw_tbl)
    (hR : rm.frames + 1 ≤ R.frames ∧ 8 + (maxL + 11) + rm.locals ≤ R.locals) (hA : ∀ q, s.heap.size ≤ q → A q) (hK : KK g s) (hT : ST g.2.2 A s s.heap) (B : WB g A s.heap N ad f H locs) (hq : q < N) (hf : f q = .inr (ci, fs)) (hc : vwCl[ci]? = some r) (hyc : y.cls = r.1) (hls : ls.size = nL)
    (hst : st0 = As.reverse ++ .ref (ad q) :: rest) (hW : (rest.map fun v => v.category).sum ≤ 8) (hdg : decode cc pc = .ok (.invokevirtual index, 3)) (hf2 : cells + rm.cells ≤ R.cells ∧ slots + rm.slots ≤ R.slots) :
    va_Run p l e R s m args below meth c H locs cells slots rm.cells rm.slots (F0 m pc ls st0) rest (Qc (Value.ref (ad q) :: As).toArray) free := by
  obtain ⟨hx, hb, hml, hown, hts, -⟩ := X
  have hm : ∀ w ∈ tb_all, w.before args s = true := fun w h => hts w (List.mem_cons_of_mem _ h)
  have hp := pV (As := As) hA hK hT B hq hf hc
  rw [← hyc] at hp
  exact va_runVN ⟨hx, hb, hml, hown, hts⟩ hM ⟨va_cnB n hts (tb_good hy.1) rfl rfl rfl (hT.1.1 _ hlk rfl) (hm _ hy.2.2.2) hd hR, hm _ hy.2.1, hm _ hy.2.2.1⟩ hp rfl hn hls hst (lv_room hW) hdg hf2
theorem u_SN {y : MethodName} {host : String} {bytes : ByteArray} {maxL index n : Nat} {ret : Option FieldType} {rm : Room} {As : List Value} {Qc : Array Value → State → Outcome → State → Prop} {free : Addr → Prop}
    (X : CX p s m args meth c cc nL own cw) (hM : Met l y (Cond.code y bytes maxL ret :: tb_all) rm (va_Pc As (PR g N ad f H.size)) Qc rm.cells rm.slots free)
    (hy : Cond.code y bytes maxL ret ∈ tb_all ∧ Cond.static y ∈ tb_all ∧ Cond.initialized y.cls ∈ tb_all) (hd : y.cls ≠ "java/lang/invoke/MethodHandle" ∧ y.cls ≠ "java/lang/invoke/VarHandle" ∧ (parseMethodDescriptor y.desc).map (fun d => d.parameters.length) = some n) (hn : As.length = n) (hlk : Cond.methodLinkNest own index y host ∈ lw_tbl)
    (hR : rm.frames + 1 ≤ R.frames ∧ 8 + (maxL + 11) + rm.locals ≤ R.locals) (hA : ∀ q, s.heap.size ≤ q → A q) (hK : KK g s) (hT : ST g.2.2 A s s.heap) (B : WB g A s.heap N ad f H locs) (hls : ls.size = nL)
    (hst : st0 = As.reverse ++ rest) (hW : (rest.map fun v => v.category).sum ≤ 8) (hdg : decode cc pc = .ok (.invokestatic index, 3)) (hf2 : cells + rm.cells ≤ R.cells ∧ slots + rm.slots ≤ R.slots) :
    va_Run p l e R s m args below meth c H locs cells slots rm.cells rm.slots (F0 m pc ls st0) rest (Qc As.toArray) free := by
  obtain ⟨hx, hb, hml, hown, hts, -⟩ := X
  have hm : ∀ w ∈ tb_all, w.before args s = true := fun w h => hts w (List.mem_cons_of_mem _ h)
  exact va_runSN ⟨hx, hb, hml, hown, hts⟩ hM ⟨va_cnB n hts (tb_good hy.1) rfl rfl rfl (hT.1.1 _ hlk rfl) (hm _ hy.2.2) hd hR, hm _ hy.2.1, trivial⟩ (pS hA hK hT B) rfl hn hls hst (lv_room hW) hdg hf2
/-! behind a call -/
theorem k_i {post : Int32 → WS → Prop} {mc ms N' k n : Nat} {a : Array Value} (hA : ∀ q, s.heap.size ≤ q → A q) (B : WB g A s.heap N ad f H locs) (hr : va_Run p l e R s m args below meth c H locs cells slots mc ms (F0 m pc ls st0) rest (va_Qi post (fun u t => PO g N' u.1 u.2 (aw N ad H.size) t) (aw N ad H.size) a) (aw N ad H.size)) (h1 : cells + mc ≤ k) (h2 : slots + ms ≤ n)
    (kk : ∀ (r : Int32) (ad' : Nat → Nat) (f' : Nat → va_E) (H1 : Heap) (locs1 : List Loc), post r (ad', f') → WB g A s.heap N' ad' f' H1 locs1 → W p l e R s m args below meth c H1 locs1 k n Q (F0 m (pc + 3) ls (.int r :: rest))) : W p l e R s m args below meth c H locs cells slots Q (F0 m pc ls st0) :=
  va_calli hr B.2.2 (fun q _ h => aw_of hA B q h) (aw_of hA B) fun r u t H1 locs1 ht _ hp hB _ _ hS => W.widen h1 h2 (kk r u.1 u.2 H1 locs1 hp ⟨by rw [← ht]; exact hB.1, hB.2.weaken (fun _ _ _ h => aw_of hA B _ h), hS⟩)
theorem k_l {post : Int64 → WS → Prop} {mc ms N' k n : Nat} {a : Array Value} (hA : ∀ q, s.heap.size ≤ q → A q) (B : WB g A s.heap N ad f H locs) (hr : va_Run p l e R s m args below meth c H locs cells slots mc ms (F0 m pc ls st0) rest (va_Ql post (fun u t => PO g N' u.1 u.2 (aw N ad H.size) t) (aw N ad H.size) a) (aw N ad H.size)) (h1 : cells + mc ≤ k) (h2 : slots + ms ≤ n)
    (kk : ∀ (r : Int64) (ad' : Nat → Nat) (f' : Nat → va_E) (H1 : Heap) (locs1 : List Loc), post r (ad', f') → WB g A s.heap N' ad' f' H1 locs1 → W p l e R s m args below meth c H1 locs1 k n Q (F0 m (pc + 3) ls (.long r :: rest))) : W p l e R s m args below meth c H locs cells slots Q (F0 m pc ls st0) :=
  va_calll hr B.2.2 (fun q _ h => aw_of hA B q h) (aw_of hA B) fun r u t H1 locs1 ht _ hp hB _ _ hS => W.widen h1 h2 (kk r u.1 u.2 H1 locs1 hp ⟨by rw [← ht]; exact hB.1, hB.2.weaken (fun _ _ _ h => aw_of hA B _ h), hS⟩)
theorem k_v {post : WS → Prop} {mc ms N' k n : Nat} {a : Array Value} (hA : ∀ q, s.heap.size ≤ q → A q) (B : WB g A s.heap N ad f H locs) (hr : va_Run p l e R s m args below meth c H locs cells slots mc ms (F0 m pc ls st0) rest (va_Qv post (fun u t => PO g N' u.1 u.2 (aw N ad H.size) t) (aw N ad H.size) a) (aw N ad H.size)) (h1 : cells + mc ≤ k) (h2 : slots + ms ≤ n)
    (kk : ∀ (ad' : Nat → Nat) (f' : Nat → va_E) (H1 : Heap) (locs1 : List Loc), post (ad', f') → WB g A s.heap N' ad' f' H1 locs1 → W p l e R s m args below meth c H1 locs1 k n Q (F0 m (pc + 3) ls rest)) : W p l e R s m args below meth c H locs cells slots Q (F0 m pc ls st0) :=
  va_callv hr B.2.2 (fun q _ h => aw_of hA B q h) (aw_of hA B) fun u t H1 locs1 ht _ hp hB _ _ hS => W.widen h1 h2 (kk u.1 u.2 H1 locs1 hp ⟨by rw [← ht]; exact hB.1, hB.2.weaken (fun _ _ _ h => aw_of hA B _ h), hS⟩)
theorem k_r {post : Option Nat → WS → Prop} {mc ms N' k n : Nat} {a : Array Value} (hA : ∀ q, s.heap.size ≤ q → A q) (B : WB g A s.heap N ad f H locs) (hr : va_Run p l e R s m args below meth c H locs cells slots mc ms (F0 m pc ls st0) rest (va_Qq post (fun u t => PO g N' u.1 u.2 (aw N ad H.size) t) (aw N ad H.size) a) (aw N ad H.size)) (h1 : cells + mc ≤ k) (h2 : slots + ms ≤ n)
    (kk : ∀ (r : Option Nat) (ad' : Nat → Nat) (f' : Nat → va_E) (H1 : Heap) (locs1 : List Loc), post r (ad', f') → WB g A s.heap N' ad' f' H1 locs1 → W p l e R s m args below meth c H1 locs1 k n Q (F0 m (pc + 3) ls (va_rf r :: rest))) : W p l e R s m args below meth c H locs cells slots Q (F0 m pc ls st0) :=
  va_callq hr B.2.2 (fun q _ h => aw_of hA B q h) (aw_of hA B) fun r u t H1 locs1 ht _ hp hB _ _ hS => W.widen h1 h2 (kk r u.1 u.2 H1 locs1 hp ⟨by rw [← ht]; exact hB.1, hB.2.weaken (fun _ _ _ h => aw_of hA B _ h), hS⟩)
/-! fields and arrays of a place -/
theorem g_get {ref : String} {ci index q k : Nat} {C : String} {T : u_T} {n : Nat} {fs : List Value} {v : Value} (X : CX p s m args meth c cc nL own cw) (hK : KK g s) (B : WB g A s.heap N ad f H locs) (hc : vwCl[ci]? = some (C, T, n)) (hin : ∀ w ∈ u_ws C T n, w ∈ tb_all) (hq : q < N) (hf : f q = .inr (ci, fs)) (hk : k < n) (hlink : Cond.fieldLink own index ref (T k).2.1 (T k).2.2.1 ∈ tb_all) (hsame : (T k).1 = ref) (hv : fs[k]? = some v) (hdg : decode cc pc = .ok (.getfield index, 3))
    (kk : W p l e R s m args below meth c H locs cells slots Q (F0 m (pc + 3) ls (v :: rest))) : W p l e R s m args below meth c H locs cells slots Q (F0 m pc ls (.ref (ad q) :: rest)) := by
  obtain ⟨hx, hb, hml, hown, hts, -⟩ := X
  subst hsame
  exact va_get hx hb hts (fun w h => List.mem_cons_of_mem _ (hin w h)) hown hK B.1 q (by rw [wd_get hq, hf]) hc k hk (hts _ (List.mem_cons_of_mem _ hlink)) (fun _ h => h) hv hdg kk
theorem g_getN {ref host : String} {ci index q k : Nat} {C : String} {T : u_T} {n : Nat} {fs : List Value} {v : Value} (X : CX p s m args meth c cc nL own cw) (hK : KK g s) (hT : ST g.2.2 A s s.heap) (B : WB g A s.heap N ad f H locs) (hc : vwCl[ci]? = some (C, T, n)) (hin : ∀ w ∈ u_ws C T n, w ∈ tb_all) (hq : q < N) (hf : f q = .inr (ci, fs)) (hk : k < n) (hlink : Cond.fieldLinkNest own index ref (T k).2.1 (T k).2.2.1 host ∈ lw_tbl) (hsame : (T k).1 = ref) (hv : fs[k]? = some v) (hdg : decode cc pc = .ok (.getfield index, 3))
    (kk : W p l e R s m args below meth c H locs cells slots Q (F0 m (pc + 3) ls (v :: rest))) : W p l e R s m args below meth c H locs cells slots Q (F0 m pc ls (.ref (ad q) :: rest)) := by
  obtain ⟨hx, hb, hml, hown, hts, -⟩ := X
  subst hsame
  exact va_getN hx hb hts (fun w h => List.mem_cons_of_mem _ (hin w h)) hown hK B.1 q (by rw [wd_get hq, hf]) hc k hk ((hT.1.1 _ hlink rfl).use rfl) (fun _ h => h) hv hdg kk
theorem g_put {ref : String} {ci index q k : Nat} {C : String} {T : u_T} {n : Nat} {fs : List Value} {v : Value} {ty : FieldType} {ty0 : Nat → FieldType} (X : CX p s m args meth c cc nL own cw) (hK : KK g s) (B : WB g A s.heap N ad f H locs) (hc : vwCl[ci]? = some (C, T, n)) (hin : ∀ w ∈ u_ws C T n, w ∈ tb_all) (hty : ∀ k, k < n → parseFieldDescriptor (T k).2.2.1 = some (ty0 k)) (hnm : ∀ a, a < n → ∀ b, b < n → a ≠ b → (T a).2.1 ≠ (T b).2.1) (hq : q < N) (hf : f q = .inr (ci, fs)) (hk : k < n) (hlink : Cond.fieldLink own index ref (T k).2.1 (T k).2.2.1 ∈ tb_all) (hsame : (T k).1 = ref) (hfin : (T k).2.2.2 = false) (hd : ty0 k = ty) (hn : narrow ty v = v) (hfit : fits ty v = true) (hl : k < fs.length) (hdg : decode cc pc = .ok (.putfield index, 3))
    (kk : ∀ (H1 : Heap) (locs1 : List Loc), WB g A s.heap N ad (va_up f q (.inr (ci, fs.set k v))) H1 locs1 → W p l e R s m args below meth c H1 locs1 cells slots Q (F0 m (pc + 3) ls rest)) : W p l e R s m args below meth c H locs cells slots Q (F0 m pc ls (v :: .ref (ad q) :: rest)) := by
  obtain ⟨hx, hb, hml, hown, hts, -⟩ := X
  subst hsame hd
  refine va_put hx hb hts (fun w h => List.mem_cons_of_mem _ (hin w h)) ty0 hty hnm hown hK B.1 B.2.1 B.2.2 q (by rw [wd_get hq, hf]) hc k hk (hts _ (List.mem_cons_of_mem _ hlink)) (fun _ h => h) hfin (hty k hk) hn hfit hl hdg fun H1 locs1 hP hD hS => ?_
  rw [wd_set hq] at hP hD
  exact kk H1 locs1 ⟨hP, hD, hS⟩
theorem g_putF {ref : String} {ci index q k : Nat} {C : String} {T : u_T} {n : Nat} {fs : List Value} {v : Value} {ty : FieldType} {ty0 : Nat → FieldType} (X : CX p s m args meth c cc nL own cw) (hnam : meth.name = "<init>") (hK : KK g s) (B : WB g A s.heap N ad f H locs) (hc : vwCl[ci]? = some (C, T, n)) (hin : ∀ w ∈ u_ws C T n, w ∈ tb_all) (hty : ∀ k, k < n → parseFieldDescriptor (T k).2.2.1 = some (ty0 k)) (hnm : ∀ a, a < n → ∀ b, b < n → a ≠ b → (T a).2.1 ≠ (T b).2.1) (hq : q < N) (hf : f q = .inr (ci, fs)) (hk : k < n) (hlink : Cond.fieldLink own index ref (T k).2.1 (T k).2.2.1 ∈ tb_all) (hsame : (T k).1 = ref) (hown2 : (T k).1 = own) (hfin : (T k).2.2.2 = true) (hd : ty0 k = ty) (hn : narrow ty v = v) (hfit : fits ty v = true) (hl : k < fs.length) (hdg : decode cc pc = .ok (.putfield index, 3))
    (kk : ∀ (H1 : Heap) (locs1 : List Loc), WB g A s.heap N ad (va_up f q (.inr (ci, fs.set k v))) H1 locs1 → W p l e R s m args below meth c H1 locs1 cells slots Q (F0 m (pc + 3) ls rest)) : W p l e R s m args below meth c H locs cells slots Q (F0 m pc ls (v :: .ref (ad q) :: rest)) := by
  obtain ⟨hx, hb, hml, hown, hts, -⟩ := X
  subst hsame hd
  refine va_putF hx hb hts (fun w h => List.mem_cons_of_mem _ (hin w h)) ty0 hty hnm hown hK B.1 B.2.1 B.2.2 q (by rw [wd_get hq, hf]) hc k hk (hts _ (List.mem_cons_of_mem _ hlink)) (fun _ h => h) hfin hnam hown2 (hty k hk) hn hfit hl hdg fun H1 locs1 hP hD hS => ?_
  rw [wd_set hq] at hP hD
  exact kk H1 locs1 ⟨hP, hD, hS⟩
theorem g_new {ci index : Nat} {C : String} {T : u_T} {n : Nat} {fs : List Value} {ty0 : Nat → FieldType} (X : CX p s m args meth c cc nL own cw) (hA : ∀ q, s.heap.size ≤ q → A q) (hK : KK g s) (B : WB g A s.heap N ad f H locs) (hc : vwCl[ci]? = some (C, T, n)) (hin : ∀ w ∈ u_ws C T n, w ∈ tb_all) (hty : ∀ k, k < n → parseFieldDescriptor (T k).2.2.1 = some (ty0 k)) (hcl : Cond.classLink own index C ∈ tb_all) (hinst : Cond.instantiable C n ∈ tb_all) (hini : Cond.initialized C ∈ tb_all) (hfs : (List.range n).all (fun j => decide (defaultValue (ty0 j) = vp_V fs j)) = true) {k1 k2 : Nat} (hcells : cells + 1 ≤ R.cells) (hslots : slots + n ≤ R.slots) (h1 : cells + 1 ≤ k1) (h2 : slots + n ≤ k2) (hdg : decode cc pc = .ok (.new index, 3))
    (kk : ∀ (a : Nat) (H1 : Heap), WB g A s.heap (N + 1) (va_up ad N a) (va_up f N (.inr (ci, fs))) H1 locs → W p l e R s m args below meth c H1 locs k1 k2 Q (F0 m (pc + 3) ls (.ref a :: rest))) : W p l e R s m args below meth c H locs cells slots Q (F0 m pc ls rest) := by
  obtain ⟨hx, hb, hml, hown, hts, -⟩ := X
  have hm : ∀ w ∈ tb_all, w.before args s = true := fun w h => hts w (List.mem_cons_of_mem _ h)
  refine va_new hx hb hts (fun w h => List.mem_cons_of_mem _ (hin w h)) ty0 hty hown (hm _ hcl) (hm _ hinst) (hm _ hini) hK B.1 B.2.1 B.2.2 hA hc (fs := fs) (fun j hj => by have := List.all_eq_true.mp hfs j (List.mem_range.mpr hj); exact of_decide_eq_true this) hcells hslots hdg fun a H1 hP hD hS => W.widen h1 h2 ?_
  rw [wd_push] at hP hD
  exact kk a H1 ⟨hP, hD, hS⟩
theorem g_iald {q t0 n : Nat} {cA : ClassId} {h : Nat → Int32} {i : Int32} (X : CX p s m args meth c cc nL own cw) (hK : KK g s) (B : WB g A s.heap N ad f H locs) (hq : q < N) (hf : f q = .inl (cA, n, .inl h)) (ht : cA = g.2.1 0) (hi : vp_in i n) (hdg : decode cc pc = .ok (.iaload, 1))
    (kk : W p l e R s m args below meth c H locs cells slots Q (F0 m (pc + 1) ls (.int (h i.toNatClampNeg) :: rest))) : W p l e R s m args below meth c H locs cells slots Q (F0 m pc ls (.int i :: .ref (ad q) :: rest)) := by
  subst ht
  exact va_iald X.1 X.2.1 hK B.1 q 0 (by rw [wd_get hq, hf]) rfl hi hdg kk
theorem g_iast {q n : Nat} {cA : ClassId} {h : Nat → Int32} {i x : Int32} (X : CX p s m args meth c cc nL own cw) (hK : KK g s) (B : WB g A s.heap N ad f H locs) (hq : q < N) (hf : f q = .inl (cA, n, .inl h)) (ht : cA = g.2.1 0) (hi : vp_in i n) (hdg : decode cc pc = .ok (.iastore, 1))
    (kk : ∀ (H1 : Heap) (locs1 : List Loc), WB g A s.heap N ad (va_up f q (.inl (cA, n, .inl (upd h i.toNatClampNeg x)))) H1 locs1 → W p l e R s m args below meth c H1 locs1 cells slots Q (F0 m (pc + 1) ls rest)) : W p l e R s m args below meth c H locs cells slots Q (F0 m pc ls (.int x :: .int i :: .ref (ad q) :: rest)) := by
  subst ht
  refine va_iast X.1 X.2.1 hK B.1 B.2.1 B.2.2 q 0 (by rw [wd_get hq, hf]) rfl hi hdg fun H1 locs1 hP hD hS => ?_
  rw [wd_set hq] at hP hD
  exact kk H1 locs1 ⟨hP, hD, hS⟩
theorem g_aald {q t0 n : Nat} {cA : ClassId} {h : Nat → Option Nat} {i : Int32} {ty : FieldType} (X : CX p s m args meth c cc nL own cw) (hK : KK g s) (B : WB g A s.heap N ad f H locs) (hq : q < N) (hf : f q = .inl (cA, n, .inr (.inr (.inr (.inr h))))) (ht : (TY g.2.1)[t0]? = some (cA, ty)) (hty : ty.isReference = true) (hi : vp_in i n) (hdg : decode cc pc = .ok (.aaload, 1))
    (kk : W p l e R s m args below meth c H locs cells slots Q (F0 m (pc + 1) ls (va_rf (h i.toNatClampNeg) :: rest))) : W p l e R s m args below meth c H locs cells slots Q (F0 m pc ls (.int i :: .ref (ad q) :: rest)) := by
  have hlt : i.toNatClampNeg < n := Nat.not_le.mp fun q => hi (Or.inr q)
  have hc := wd_P.mp B.1 q hq
  rw [hf] at hc
  exact W.aald (v := va_rf (h i.toNatClampNeg)) (ty := ty) X.1 X.2.1 hc ((hK.2 t0 _ ht).1 n (fun j => va_rf (h j))) hty (fun q => by cases q) (by show ¬ (i < 0 ∨ (arrV _ _ _).slots.size ≤ _); rw [arrV_size]; exact hi) (by show (arrV _ _ _).slots[_]? = _; rw [arrV_read _ _ hlt]) rfl rfl hdg kk
theorem g_alen {q t0 : Nat} {cA : ClassId} {x : vp_A} {ty : FieldType} {v : Int32} (X : CX p s m args meth c cc nL own cw) (hK : KK g s) (B : WB g A s.heap N ad f H locs) (hq : q < N) (hf : f q = .inl (cA, x)) (ht : (TY g.2.1)[t0]? = some (cA, ty)) (hv : Int32.ofNat x.1 = v) (hdg : decode cc pc = .ok (.arraylength, 1))
    (kk : W p l e R s m args below meth c H locs cells slots Q (F0 m (pc + 1) ls (.int v :: rest))) : W p l e R s m args below meth c H locs cells slots Q (F0 m pc ls (.ref (ad q) :: rest)) :=
  va_alen X.1 X.2.1 hK B.1 q t0 (by rw [wd_get hq, hf]) ht hv hdg kk
end RW
end
section
/-! more rows: calls that may throw, throwing, a nest mate's constructor -/
theorem at_of {args : Array Value} {s : State} {cw : Cond} {L : List Cond} (h : L.all (fun w => decide (w ∈ lw_tbl) && (goodWord w || ng_ok w)) = true) (hts : ∀ w ∈ cw :: tb_all, w.before args s = true) (hng : ng_all s) : ∀ w ∈ L, w.before args s = true := by
  intro w hw
  have h1 := List.all_eq_true.mp h w hw
  simp only [Bool.and_eq_true, decide_eq_true_eq, Bool.or_eq_true] at h1
  rcases h1.2 with h2 | h2
  · exact hts w (List.mem_cons_of_mem _ (tb_in h1.1 h2))
  · have h3 := hng w h1.1 h2
    cases w <;> first | exact va_Nw.use rfl h3 | exact Cond.privateMethod_warm (State.WarmedH.refl s) h3 | (simp [ng_ok] at h2)
section RX
variable {p : Program} {l : Launch} {e : Env} {R : Room} {s : State} {m : MethodId} {args : Array Value} {below : List Frame} {meth : Method} {c : Code} {H : Heap} {locs : List Loc} {cells slots : Nat} {Q : State → Prop}
variable {cc : ByteArray} {nL : Nat} {own : String} {cw : Cond} {pc : Nat} {ls : Array Slot} {rest st0 : List Value} {g : GG} {A : Nat → Prop} {H0 : Heap} {N : Nat} {ad : Nat → Nat} {f : Nat → va_E}
theorem u_IN {y : MethodName} {host : String} {bytes : ByteArray} {maxL index n : Nat} {rm : Room} {As : List Value} {b : Nat} {Qc : Array Value → State → Outcome → State → Prop} {free : Addr → Prop}
    (X : CX p s m args meth c cc nL own cw) (hM : Met l y (Cond.code y bytes maxL none :: tb_all) rm (va_Pc (.ref b :: As) (PR g N ad f H.size)) Qc rm.cells rm.slots free)
    (hy : Cond.code y bytes maxL none ∈ tb_all ∧ Cond.instanceMethod y ∈ tb_all ∧ Cond.initialized y.cls ∈ tb_all) (hy1 : y.name = "<init>") (hd : y.cls ≠ "java/lang/invoke/MethodHandle" ∧ y.cls ≠ "java/lang/invoke/VarHandle" ∧ (parseMethodDescriptor y.desc).map (fun d => d.parameters.length) = some n) (hn : As.length = n) (hlk : Cond.methodLinkNest own index y host ∈ lw_tbl)
    (hR : rm.frames + 1 ≤ R.frames ∧ 8 + (maxL + 11) + rm.locals ≤ R.locals) (hA : ∀ q, s.heap.size ≤ q → A q) (hK : KK g s) (hT : ST g.2.2 A s s.heap) (B : WB g A s.heap N ad f H locs) (hls : ls.size = nL)
    (hst : st0 = As.reverse ++ .ref b :: rest) (hW : (rest.map fun v => v.category).sum ≤ 8) (hdg : decode cc pc = .ok (.invokespecial index, 3)) (hf2 : cells + rm.cells ≤ R.cells ∧ slots + rm.slots ≤ R.slots) :
    va_Run p l e R s m args below meth c H locs cells slots rm.cells rm.slots (F0 m pc ls st0) rest (Qc (Value.ref b :: As).toArray) free := by
  obtain ⟨hx, hb, hml, hown, hts, -⟩ := X
  have hm : ∀ w ∈ tb_all, w.before args s = true := fun w h => hts w (List.mem_cons_of_mem _ h)
  exact va_runIN ⟨hx, hb, hml, hown, hts⟩ hM ⟨va_cnB n hts (tb_good hy.1) rfl rfl rfl (hT.1.1 _ hlk rfl) (hm _ hy.2.2) hd hR, hy1, hm _ hy.2.1⟩ (pS hA hK hT B) rfl hn hls hst (lv_room hW) hdg hf2
theorem ux_V {y : MethodName} {bytes : ByteArray} {maxL index n : Nat} {ret : Option FieldType} {rm : Room} {As : List Value} {Qc : Array Value → State → Outcome → State → Prop} {XC : String → State → State → Prop} {free : Addr → Prop} {q ci : Nat} {fs : List Value} {r : vw_C}
    (X : CX p s m args meth c cc nL own cw) (hM : vx_Met l y (Cond.code y bytes maxL ret :: tb_all) rm (va_Pc (.ref (ad q) :: As) (PR g N ad f H.size)) Qc XC rm.cells rm.slots free)
    (hy : Cond.code y bytes maxL ret ∈ tb_all ∧ Cond.instanceMethod y ∈ tb_all ∧ Cond.selects y.cls y y ∈ tb_all ∧ Cond.initialized y.cls ∈ tb_all) (hd : y.cls ≠ "java/lang/invoke/MethodHandle" ∧ y.cls ≠ "java/lang/invoke/VarHandle" ∧ (parseMethodDescriptor y.desc).map (fun d => d.parameters.length) = some n) (hn : As.length = n) (hlk : Cond.methodLink own index y ∈ tb_all)
    (hR : rm.frames + 1 ≤ R.frames ∧ 8 + (maxL + 11) + rm.locals ≤ R.locals) (hA : ∀ q, s.heap.size ≤ q → A q) (hK : KK g s) (hT : ST g.2.2 A s s.heap) (B : WB g A s.heap N ad f H locs) (hq : q < N) (hf : f q = .inr (ci, fs)) (hc : vwCl[ci]? = some r) (hyc : y.cls = r.1) (hls : ls.size = nL)
    (hst : st0 = As.reverse ++ .ref (ad q) :: rest) (hW : (rest.map fun v => v.category).sum ≤ 8) (hdg : decode cc pc = .ok (.invokevirtual index, 3)) (hf2 : cells + rm.cells ≤ R.cells ∧ slots + rm.slots ≤ R.slots) :
    vx_Run p l e R s m args below meth c H locs cells slots rm.cells rm.slots (F0 m pc ls st0) rest (Qc (Value.ref (ad q) :: As).toArray) XC free := by
  obtain ⟨hx, hb, hml, hown, hts, -⟩ := X
  have hm : ∀ w ∈ tb_all, w.before args s = true := fun w h => hts w (List.mem_cons_of_mem _ h)
  have hp := pV (As := As) hA hK hT B hq hf hc
  rw [← hyc] at hp
  exact vx_runV ⟨hx, hb, hml, hown, hts⟩ hM ⟨callB_of n hts (tb_good hy.1) rfl rfl rfl (hm _ hy.2.2.2) (hm _ hlk) hd hR, hm _ hy.2.1, hm _ hy.2.2.1⟩ hp rfl hn hls hst (lv_room hW) hdg hf2
theorem ux_S {y : MethodName} {bytes : ByteArray} {maxL index n : Nat} {ret : Option FieldType} {rm : Room} {As : List Value} {Qc : Array Value → State → Outcome → State → Prop} {XC : String → State → State → Prop} {free : Addr → Prop}
    (X : CX p s m args meth c cc nL own cw) (hM : vx_Met l y (Cond.code y bytes maxL ret :: tb_all) rm (va_Pc As (PR g N ad f H.size)) Qc XC rm.cells rm.slots free)
    (hy : Cond.code y bytes maxL ret ∈ tb_all ∧ Cond.static y ∈ tb_all ∧ Cond.initialized y.cls ∈ tb_all) (hd : y.cls ≠ "java/lang/invoke/MethodHandle" ∧ y.cls ≠ "java/lang/invoke/VarHandle" ∧ (parseMethodDescriptor y.desc).map (fun d => d.parameters.length) = some n) (hn : As.length = n) (hlk : Cond.methodLink own index y ∈ tb_all)
    (hR : rm.frames + 1 ≤ R.frames ∧ 8 + (maxL + 11) + rm.locals ≤ R.locals) (hA : ∀ q, s.heap.size ≤ q → A q) (hK : KK g s) (hT : ST g.2.2 A s s.heap) (B : WB g A s.heap N ad f H locs) (hls : ls.size = nL)
    (hst : st0 = As.reverse ++ rest) (hW : (rest.map fun v => v.category).sum ≤ 8) (hdg : decode cc pc = .ok (.invokestatic index, 3)) (hf2 : cells + rm.cells ≤ R.cells ∧ slots + rm.slots ≤ R.slots) :
    vx_Run p l e R s m args below meth c H locs cells slots rm.cells rm.slots (F0 m pc ls st0) rest (Qc As.toArray) XC free := by
  obtain ⟨hx, hb, hml, hown, hts, -⟩ := X
  have hm : ∀ w ∈ tb_all, w.before args s = true := fun w h => hts w (List.mem_cons_of_mem _ h)
  exact vx_runS ⟨hx, hb, hml, hown, hts⟩ hM ⟨callB_of n hts (tb_good hy.1) rfl rfl rfl (hm _ hy.2.2) (hm _ hlk) hd hR, hm _ hy.2.1⟩ (pS hA hK hT B) rfl hn hls hst (lv_room hW) hdg hf2
theorem XS_of {px' : String → Prop} {E : String} {t : State} {H1 : Heap} {locs1 : List Loc} {sz : Nat} {f' : Nat → va_E} (hsz : sz = s.heap.size) (hA : ∀ q, s.heap.size ≤ q → aw N ad sz q) (B : WB g (aw N ad sz) s.heap N ad f H locs) (hB : PO g N ad f' (aw N ad H.size) t) (ht : t.heap = H1) (hS : va_S (aw N ad sz) s.heap H1 locs1) (hp : px' E) : ∀ t' : State, t'.heap = H1 → s.vm.Alike t'.vm → XS g N ad f' sz px' E s t' := by
  intro t' ht' _
  refine ⟨(), trivial, ⟨hp, by rw [ht', ← ht]; exact hB.1, hB.2.weaken (fun _ _ _ h => aw_of hA B _ h)⟩, hS.F ht'⟩
theorem k_xi {post : Int32 → WS → Prop} {Qc : Array Value → State → Outcome → State → Prop} {px px' : String → Prop} {mc ms mc' ms' N' k n sz : Nat} {a : Array Value} (hex : ∀ x ∈ c.exceptionTable.toList, False) (X : CX p s m args meth c cc nL own cw) (hsz : sz = s.heap.size) (hA : ∀ q, s.heap.size ≤ q → aw N ad sz q) (B : WB g (aw N ad sz) s.heap N ad f H locs) (hr : vx_Run p l e R s m args below meth c H locs cells slots mc ms (F0 m pc ls st0) rest (va_Qi post (fun u t => PO g N' u.1 u.2 (aw N ad H.size) t) (aw N ad H.size) a) (XS g N ad f H.size px) (aw N ad H.size)) (h1 : cells + mc ≤ k) (h2 : slots + ms ≤ n) (h3 : k ≤ mc') (h4 : n ≤ ms') (hpx : ∀ E, px E → px' E)
    (kk : ∀ (r : Int32) (ad' : Nat → Nat) (f' : Nat → va_E) (H1 : Heap) (locs1 : List Loc), post r (ad', f') → WB g (aw N ad sz) s.heap N' ad' f' H1 locs1 → W p l e R s m args below meth c H1 locs1 k n (vx_MQ below Qc (XS g N ad f sz px') args s mc' ms' (aw N ad sz)) (F0 m (pc + 3) ls (.int r :: rest))) : W p l e R s m args below meth c H locs cells slots (vx_MQ below Qc (XS g N ad f sz px') args s mc' ms' (aw N ad sz)) (F0 m pc ls st0) :=
  vx_calli hr B.2.2 (fun q _ h => aw_of hA B q h) (aw_of hA B) (fun q _ h => aw_of hA B q h)
    (fun E ce q9 u t H1 locs1 ht _ _ hB _ _ hS hc hv hcl => vx_out (fun x hx => (hex x hx).elim) X.2.2.2.2.2 hc hv hcl (XS_of hsz hA B hB.2 ht hS (hpx E hB.1)) hS.2.2 (by omega) (by omega))
    fun r u t H1 locs1 ht _ hp hB _ _ hS => W.widen h1 h2 (kk r u.1 u.2 H1 locs1 hp ⟨by rw [← ht]; exact hB.1, hB.2.weaken (fun _ _ _ h => aw_of hA B _ h), hS⟩)
theorem k_xv {post : WS → Prop} {Qc : Array Value → State → Outcome → State → Prop} {px px' : String → Prop} {mc ms mc' ms' N' k n sz : Nat} {a : Array Value} (hex : ∀ x ∈ c.exceptionTable.toList, False) (X : CX p s m args meth c cc nL own cw) (hsz : sz = s.heap.size) (hA : ∀ q, s.heap.size ≤ q → aw N ad sz q) (B : WB g (aw N ad sz) s.heap N ad f H locs) (hr : vx_Run p l e R s m args below meth c H locs cells slots mc ms (F0 m pc ls st0) rest (va_Qv post (fun u t => PO g N' u.1 u.2 (aw N ad H.size) t) (aw N ad H.size) a) (XS g N ad f H.size px) (aw N ad H.size)) (h1 : cells + mc ≤ k) (h2 : slots + ms ≤ n) (h3 : k ≤ mc') (h4 : n ≤ ms') (hpx : ∀ E, px E → px' E)
    (kk : ∀ (ad' : Nat → Nat) (f' : Nat → va_E) (H1 : Heap) (locs1 : List Loc), post (ad', f') → WB g (aw N ad sz) s.heap N' ad' f' H1 locs1 → W p l e R s m args below meth c H1 locs1 k n (vx_MQ below Qc (XS g N ad f sz px') args s mc' ms' (aw N ad sz)) (F0 m (pc + 3) ls rest)) : W p l e R s m args below meth c H locs cells slots (vx_MQ below Qc (XS g N ad f sz px') args s mc' ms' (aw N ad sz)) (F0 m pc ls st0) :=
  vx_callv hr B.2.2 (fun q _ h => aw_of hA B q h) (aw_of hA B) (fun q _ h => aw_of hA B q h)
    (fun E ce q9 u t H1 locs1 ht _ _ hB _ _ hS hc hv hcl => vx_out (fun x hx => (hex x hx).elim) X.2.2.2.2.2 hc hv hcl (XS_of hsz hA B hB.2 ht hS (hpx E hB.1)) hS.2.2 (by omega) (by omega))
    fun u t H1 locs1 ht _ hp hB _ _ hS => W.widen h1 h2 (kk u.1 u.2 H1 locs1 hp ⟨by rw [← ht]; exact hB.1, hB.2.weaken (fun _ _ _ h => aw_of hA B _ h), hS⟩)
/-- as va_calli, of a callee that answers a reference and may throw -/
theorem vx_callq {S SX : Type} {post : Option Nat → S → Prop} {px : SX → Prop} {Bf : S → State → Prop} {BX : String → SX → State → Prop} {A0 A1 AX : Nat → Prop} {free : Addr → Prop} {mc ms : Nat} {a : Array Value} (hr : vx_Run p l e R s m args below meth c H locs cells slots mc ms (F0 m pc ls st0) rest (va_Qq post Bf A1 a) (vx_X px BX AX) free) (hS : va_S A0 H0 H locs) (hA : ∀ q, q < H.size → A1 q → A0 q) (hf : ∀ q, free q → A0 q) (hAX : ∀ q, q < H.size → AX q → A0 q)
    (kx : ∀ (E : String) (ce : Cell) (q9 : Addr) (u : SX) (t : State) (H1 : Heap) (locs1 : List Loc), t.heap = H1 → s.vm.Alike t.vm → px u → BX E u t → H.size ≤ H1.size → (∀ q : Nat, q < H.size → ¬ AX q → H1[q]? = H[q]?) → va_S A0 H0 H1 locs1 → H1[q9]? = some ce → ce.vm = .none → s.vm.findClass E = some ce.cls → vx_W p l e R s m args below meth c H1 locs1 (cells + mc) (slots + ms) Q (F0 m pc ls rest) q9)
    (kk : ∀ (r : Option Nat) (u : S) (t : State) (H1 : Heap) (locs1 : List Loc), t.heap = H1 → s.vm.Alike t.vm → post r u → Bf u t → H.size ≤ H1.size → (∀ q : Nat, q < H.size → ¬ A1 q → H1[q]? = H[q]?) → va_S A0 H0 H1 locs1 → W p l e R s m args below meth c H1 locs1 (cells + mc) (slots + ms) Q (F0 m (pc + 3) ls (va_rf r :: rest))) : W p l e R s m args below meth c H locs cells slots Q (F0 m pc ls st0) := by
  intro T hT X
  rcases hr T hT X with ⟨v, st₀, t, T', L, h0, X', hL, e1, e2, hq, hg⟩ | ⟨q, st₀, t, T', L, E, ce, h0, X', hL, e1, e2, hx, hc, hv, hcl, hg⟩
  · obtain ⟨⟨r, u, hr2, hp, hB⟩, hF⟩ := hq
    cases hr2
    obtain ⟨k1, k2, k3⟩ := vx_keep h0 e1 hS hA hf hL hF
    obtain ⟨t', a1, b1⟩ := kk r u t T'.heap (locs ++ L) e1.symm (by rw [← e2]; exact X'.warmed.alike) hp hB k1 k2 k3 T' rfl X'
    exact ⟨t', hg t' a1, b1⟩
  · obtain ⟨u, hp, hB, hF⟩ := hx
    obtain ⟨k1, k2, k3⟩ := vx_keep h0 e1 hS hAX hf hL hF
    obtain ⟨t', a1, b1⟩ := kx E ce q u t T'.heap (locs ++ L) e1.symm (by rw [← e2]; exact X'.warmed.alike) hp hB k1 k2 k3 (by rw [e1]; exact hc) hv hcl T' rfl X'
    exact ⟨t', hg.trans a1, b1⟩
theorem k_xr {post : Option Nat → WS → Prop} {Qc : Array Value → State → Outcome → State → Prop} {px px' : String → Prop} {mc ms mc' ms' N' k n sz : Nat} {a : Array Value} (hex : ∀ x ∈ c.exceptionTable.toList, False) (X : CX p s m args meth c cc nL own cw) (hsz : sz = s.heap.size) (hA : ∀ q, s.heap.size ≤ q → aw N ad sz q) (B : WB g (aw N ad sz) s.heap N ad f H locs) (hr : vx_Run p l e R s m args below meth c H locs cells slots mc ms (F0 m pc ls st0) rest (va_Qq post (fun u t => PO g N' u.1 u.2 (aw N ad H.size) t) (aw N ad H.size) a) (XS g N ad f H.size px) (aw N ad H.size)) (h1 : cells + mc ≤ k) (h2 : slots + ms ≤ n) (h3 : k ≤ mc') (h4 : n ≤ ms') (hpx : ∀ E, px E → px' E)
    (kk : ∀ (r : Option Nat) (ad' : Nat → Nat) (f' : Nat → va_E) (H1 : Heap) (locs1 : List Loc), post r (ad', f') → WB g (aw N ad sz) s.heap N' ad' f' H1 locs1 → W p l e R s m args below meth c H1 locs1 k n (vx_MQ below Qc (XS g N ad f sz px') args s mc' ms' (aw N ad sz)) (F0 m (pc + 3) ls (va_rf r :: rest))) : W p l e R s m args below meth c H locs cells slots (vx_MQ below Qc (XS g N ad f sz px') args s mc' ms' (aw N ad sz)) (F0 m pc ls st0) :=
  vx_callq hr B.2.2 (fun q _ h => aw_of hA B q h) (aw_of hA B) (fun q _ h => aw_of hA B q h)
    (fun E ce q9 u t H1 locs1 ht _ _ hB _ _ hS hc hv hcl => vx_out (fun x hx => (hex x hx).elim) X.2.2.2.2.2 hc hv hcl (XS_of hsz hA B hB.2 ht hS (hpx E hB.1)) hS.2.2 (by omega) (by omega))
    fun r u t H1 locs1 ht _ hp hB _ _ hS => W.widen h1 h2 (kk r u.1 u.2 H1 locs1 hp ⟨by rw [← ht]; exact hB.1, hB.2.weaken (fun _ _ _ h => aw_of hA B _ h), hS⟩)
/-- throw new X(text) -/
theorem g_throw {cls text : String} {names : List String} {ik is ic mc ms sz i : Nat} {px : String → Prop} {Qc : Array Value → State → Outcome → State → Prop} (X : CX p s m args meth c cc nL own cw) (hfl : l.stackTraces = false) (hcls : Bundle.fit cls = true ∧ (∀ n ∈ names, Bundle.fit n = true)) (hk : Cond.classLink own ik cls ∈ tb_all) (hini : Cond.initialized cls ∈ tb_all) (hi : i < st_n) (hs : st_own.getD i ("", 0, "") = (own, is, text))
    (hat : (vx_atS own ic cls names).all (fun w => decide (w ∈ lw_tbl) && (goodWord w || ng_ok w)) = true) (hgood : (vx_atS own ic cls names).all vx_ot = true) (hex : ∀ x ∈ c.exceptionTable.toList, False) (hsz : sz = s.heap.size) (hT : ST g.2.2 (aw N ad sz) s s.heap) (B : WB g (aw N ad sz) s.heap N ad f H locs) (hls : ls.size = nL)
    (d0 : decode cc pc = .ok (.new ik, 3)) (d3 : decode cc (pc + 3) = .ok (.dup, 1)) (d4 : decode cc (pc + 4) = .ok (.ldc is, 2)) (d6 : decode cc (pc + 6) = .ok (.invokespecial ic, 3)) (d9 : decode cc (pc + 9) = .ok (.athrow, 1))
    (hRf : names.length + 3 < R.frames) (hRl : (rest.map fun v => v.category).sum + (13 * (names.length + 1) + 43) ≤ R.locals) (hRc : cells + 1 ≤ R.cells) (hRs : slots + 6 ≤ R.slots) (hp : px cls) (h1 : cells + 1 ≤ mc) (h2 : slots + 6 ≤ ms) :
    W p l e R s m args below meth c H locs cells slots (vx_MQ below Qc (XS g N ad f sz px) args s mc ms (aw N ad sz)) (F0 m pc ls rest) := by
  obtain ⟨hx, hb, hml, hown, hts, hlocks⟩ := X
  have hm : ∀ w ∈ tb_all, w.before args s = true := fun w h => hts w (List.mem_cons_of_mem _ h)
  have hstr := hT.2.2.2.1 i hi
  rw [hs] at hstr
  refine vx_throwS (A := aw N ad sz) hx hb hfl hown hcls.1 hcls.2 (hm _ hk) (hm _ hini) hstr (at_of hat hts hT.1.1) (fun w hw => ?_) hT.2.2.1.1 hT.2.2.1.2 B.2.2 (by rw [hls, hml]) d0 d3 d4 d6 d9 (fun x hx => (hex x hx).elim) hRf hRl hRc hRs hlocks (fun t hal h1 h2 => ?_) B.2.2.2.2 h1 h2
  · rcases List.mem_cons.mp hw with e1 | hw
    · rw [e1]; rfl
    · rcases List.mem_cons.mp hw with e1 | hw
      · rw [e1]; rfl
      · exact List.all_eq_true.mp hgood w hw
  · refine ⟨(), trivial, ⟨hp, B.1.kept (fun k x hx => h2 x.1 ((B.1 k x hx).lt)), B.2.1⟩, Nat.le_trans B.2.2.1 h1, fun x h3 h4 => (h2 x (Nat.lt_of_lt_of_le h3 B.2.2.1)).trans (B.2.2.2.1 x h3 h4)⟩
end RX
/-! what is thrown, one after the other -/
def xo (a b : Option String) : Option String := match a with | some e => some e | none => b
theorem xo_none {a b : Option String} (h : a = none) : xo a b = b := by rw [h]; rfl
theorem xo_some {a b : Option String} {E : String} (h : a = some E) : xo a b = some E := by rw [h]; rfl
def iobN : String := "java/lang/IndexOutOfBoundsException"
def iaeN : String := "java/lang/IllegalArgumentException"
end
section
/-! the class's world: 23 places (0 the object, 1 2 3 its arrays, 4.. its spans: cards 0 to 3, pile 4 to 11, result 12, proof 13; 18.. its days: dates 0 to 3, reached 4); what lies beyond is x -/
abbrev TR : Type := Int32 × Int32 × Int32
abbrev c_sp (t : TR) : va_E := .inr (4, [.int t.1, .int t.2.1, .int t.2.2])
abbrev c_dy (t : TR) : va_E := .inr (3, [.int t.1, .int t.2.1, .int t.2.2])
abbrev c_mn (ad : Nat → Nat) (la kn re : Int32) : va_E := .inr (5, [.ref (ad 1), .ref (ad 2), .ref (ad 3), .int la, .int kn, .int re, .ref (ad 16), .ref (ad 17), .ref (ad 22)])
abbrev c_ar (cA : ClassId) (n : Nat) (h : Nat → Option Nat) : va_E := .inl (cA, n, .inr (.inr (.inr (.inr h))))
def cf (g : GG) (ad : Nat → Nat) (x : Nat → va_E) (sp dy : Nat → TR) (la kn re : Int32) : Nat → va_E := fun k =>
  if k = 0 then c_mn ad la kn re
  else if k = 1 then c_ar (g.2.1 3) 4 (fun j => some (ad (4 + j)))
  else if k = 2 then c_ar (g.2.1 3) 8 (fun j => some (ad (8 + j)))
  else if k = 3 then c_ar (g.2.1 4) 4 (fun j => some (ad (18 + j)))
  else if k < 18 then c_sp (sp (k - 4))
  else if k < 23 then c_dy (dy (k - 18))
  else x k
section CF
variable {g : GG} {ad : Nat → Nat} {x : Nat → va_E} {sp dy : Nat → TR} {la kn re : Int32}
theorem cf_0 : cf g ad x sp dy la kn re 0 = c_mn ad la kn re := rfl
theorem cf_1 : cf g ad x sp dy la kn re 1 = c_ar (g.2.1 3) 4 (fun j => some (ad (4 + j))) := rfl
theorem cf_2 : cf g ad x sp dy la kn re 2 = c_ar (g.2.1 3) 8 (fun j => some (ad (8 + j))) := rfl
theorem cf_3 : cf g ad x sp dy la kn re 3 = c_ar (g.2.1 4) 4 (fun j => some (ad (18 + j))) := rfl
theorem cf_sp {i : Nat} (hi : i < 14) : cf g ad x sp dy la kn re (4 + i) = c_sp (sp i) := by
  unfold cf
  rw [if_neg (by omega), if_neg (by omega), if_neg (by omega), if_neg (by omega), if_pos (by omega), Nat.add_sub_cancel_left]
theorem cf_dy {i : Nat} (hi : i < 5) : cf g ad x sp dy la kn re (18 + i) = c_dy (dy i) := by
  unfold cf
  rw [if_neg (by omega), if_neg (by omega), if_neg (by omega), if_neg (by omega), if_neg (by omega), if_pos (by omega), Nat.add_sub_cancel_left]
theorem cf_x {k : Nat} (hk : 23 ≤ k) : cf g ad x sp dy la kn re k = x k := by
  unfold cf
  rw [if_neg (by omega), if_neg (by omega), if_neg (by omega), if_neg (by omega), if_neg (by omega), if_neg (by omega)]
theorem cf_cases (k : Nat) : k = 0 ∨ k = 1 ∨ k = 2 ∨ k = 3 ∨ (∃ i, i < 14 ∧ k = 4 + i) ∨ (∃ i, i < 5 ∧ k = 18 + i) ∨ 23 ≤ k := by
  by_cases h : k < 4
  · omega
  · by_cases h2 : k < 18
    · exact Or.inr (Or.inr (Or.inr (Or.inr (Or.inl ⟨k - 4, by omega, by omega⟩))))
    · by_cases h3 : k < 23
      · exact Or.inr (Or.inr (Or.inr (Or.inr (Or.inr (Or.inl ⟨k - 18, by omega, by omega⟩)))))
      · omega
theorem cf_up_sp {i : Nat} (hi : i < 14) (t : TR) : va_up (cf g ad x sp dy la kn re) (4 + i) (c_sp t) = cf g ad x (va_up sp i t) dy la kn re := by
  funext k
  by_cases h : k = 4 + i
  · rw [h, va_up_self, cf_sp hi, va_up_self]
  · rw [va_up_ne _ _ h]
    rcases cf_cases k with rfl | rfl | rfl | rfl | ⟨j, hj, rfl⟩ | ⟨j, hj, rfl⟩ | hk
    · rfl
    · rfl
    · rfl
    · rfl
    · rw [cf_sp hj, cf_sp hj, va_up_ne _ _ (by omega)]
    · rw [cf_dy hj, cf_dy hj]
    · rw [cf_x hk, cf_x hk]
theorem cf_up_dy {i : Nat} (hi : i < 5) (t : TR) : va_up (cf g ad x sp dy la kn re) (18 + i) (c_dy t) = cf g ad x sp (va_up dy i t) la kn re := by
  funext k
  by_cases h : k = 18 + i
  · rw [h, va_up_self, cf_dy hi, va_up_self]
  · rw [va_up_ne _ _ h]
    rcases cf_cases k with rfl | rfl | rfl | rfl | ⟨j, hj, rfl⟩ | ⟨j, hj, rfl⟩ | hk
    · rfl
    · rfl
    · rfl
    · rfl
    · rw [cf_sp hj, cf_sp hj]
    · rw [cf_dy hj, cf_dy hj, va_up_ne _ _ (by omega)]
    · rw [cf_x hk, cf_x hk]
theorem cf_spU {i : Nat} {t : TR} (hi : i < 14) : cf g ad x (va_up sp i t) dy la kn re (4 + i) = c_sp t := by rw [cf_sp hi, va_up_self]
theorem cf_dyU {i : Nat} {t : TR} (hi : i < 5) : cf g ad x sp (va_up dy i t) la kn re (18 + i) = c_dy t := by rw [cf_dy hi, va_up_self]
theorem cf_up_spU {i : Nat} (hi : i < 14) (t t' : TR) : va_up (cf g ad x (va_up sp i t) dy la kn re) (4 + i) (c_sp t') = cf g ad x (va_up sp i t') dy la kn re := by rw [cf_up_sp hi, bx_uu]
theorem cf_up_dyU {i : Nat} (hi : i < 5) (t t' : TR) : va_up (cf g ad x sp (va_up dy i t) la kn re) (18 + i) (c_dy t') = cf g ad x sp (va_up dy i t') la kn re := by rw [cf_up_dy hi, bx_uu]
theorem cf_up_mn (la' kn' re' : Int32) : va_up (cf g ad x sp dy la kn re) 0 (c_mn ad la' kn' re') = cf g ad x sp dy la' kn' re' := by
  funext k
  by_cases h : k = 0
  · rw [h, va_up_self, cf_0]
  · rw [va_up_ne _ _ h]
    rcases cf_cases k with rfl | rfl | rfl | rfl | ⟨j, hj, rfl⟩ | ⟨j, hj, rfl⟩ | hk
    · exact absurd rfl h
    · rfl
    · rfl
    · rfl
    · rw [cf_sp hj, cf_sp hj]
    · rw [cf_dy hj, cf_dy hj]
    · rw [cf_x hk, cf_x hk]
end CF
theorem pl_sp {N i : Nat} (hN : 23 ≤ N) (hi : i < 14) : 4 + i < N := by omega
theorem pl_dy {N i : Nat} (hN : 23 ≤ N) (hi : i < 5) : 18 + i < N := by omega
theorem pl_c {N : Nat} (hN : 23 ≤ N) (i : Nat) (hi : i < 23) : i < N := by omega
abbrev rm (d c s : Nat) : Room := { frames := 10 + 2 * d, cells := c, slots := s, locals := 200 + 60 * d }
theorem ix_nl {k n : Int32} (h : k < n) : ¬ n ≤ k := fun q => by rw [Int32.le_iff_toInt_le] at q; rw [Int32.lt_iff_toInt_lt] at h; omega
theorem ix_lt {k b : Int32} {n : Nat} (h1 : ¬ k < 0) (h2 : ¬ b ≤ k) (hb : b.toInt = (n : Int)) : k.toNatClampNeg < n := by
  obtain ⟨j, hj, rfl⟩ := nI_of h1
  rw [nI_clamp hj]
  rw [Int32.le_iff_toInt_le, nI_toInt hj, hb] at h2
  omega
theorem ix_in {k b : Int32} {n : Nat} (h1 : ¬ k < 0) (h2 : ¬ b ≤ k) (hb : b.toInt = (n : Int)) : vp_in k n := by
  have h := ix_lt h1 h2 hb
  exact fun q => q.elim h1 (fun q => by omega)
theorem fu_le {m b : Int32} {n : Nat} (h : ¬ b ≤ m) (hn : (b.toInt - m.toInt).toNat < n + 1) : (b.toInt - (m + 1).toInt).toNat < n := by
  rw [Int32.le_iff_toInt_le] at h
  have hb := Int32.toInt_lt b
  have hm := Int32.le_toInt m
  have e : (m + 1).toInt = m.toInt + 1 := by
    rw [Int32.toInt_add]
    show (m.toInt + 1).bmod (2 ^ 32) = _
    rw [Int.bmod_eq_of_le (by omega) (by omega)]
  rw [e]
  omega
theorem sw_ne {x k : Int32} {z : Int} (h : ¬ x = k) (hk : k.toInt = z) : x.toInt ≠ z := fun e => h (Int32.toInt_inj.mp (e.trans hk.symm))
theorem inc_nn {k b : Int32} (h1 : ¬ k < 0) (h2 : ¬ b ≤ k) : ¬ k + 1 < 0 := by
  rw [Int32.lt_iff_toInt_lt] at h1 ⊢
  rw [Int32.le_iff_toInt_le] at h2
  have hb := Int32.toInt_lt b
  have hm := Int32.le_toInt k
  have h0 : (0 : Int32).toInt = 0 := rfl
  have e : (k + 1).toInt = k.toInt + 1 := by
    rw [Int32.toInt_add]
    show (k.toInt + 1).bmod (2 ^ 32) = _
    rw [Int.bmod_eq_of_le (by omega) (by omega)]
  rw [e]
  omega
theorem le_tr {k b c : Int32} (h1 : ¬ b ≤ k) (h2 : ¬ c < b) : ¬ c ≤ k := by
  rw [Int32.le_iff_toInt_le] at h1 ⊢
  rw [Int32.lt_iff_toInt_lt] at h2
  omega
theorem dec_lt {k : Int32} (h1 : 1 ≤ k) (h2 : ¬ 8 < k) : ¬ k - 1 < 0 ∧ ¬ 8 ≤ k - 1 := by
  rw [Int32.le_iff_toInt_le] at h1 ⊢
  rw [Int32.lt_iff_toInt_lt] at h2 ⊢
  have h0 : (0 : Int32).toInt = 0 := rfl
  have h3 : (1 : Int32).toInt = 1 := rfl
  have h8 : (8 : Int32).toInt = 8 := rfl
  have e : (k - 1).toInt = k.toInt - 1 := by
    rw [Int32.toInt_sub]
    show (k.toInt - 1).bmod (2 ^ 32) = _
    rw [Int.bmod_eq_of_le (by omega) (by omega)]
  rw [e]
  omega
theorem nb_of {v : Int32} (h : v = 0 ∨ v = 1) : narrow .boolean (.int v) = .int v := by rcases h with rfl | rfl <;> rfl
theorem mw_min : Cond.code Lib.Math.min.name Lib.Math.min.code 2 (some .int) ∈ tb_all ∧ Cond.static Lib.Math.min.name ∈ tb_all ∧ Cond.initialized "java/lang/Math" ∈ tb_all := ⟨tb_in (lw_at 185 (by decide +kernel)) rfl, tb_in (lw_at 184 (by decide +kernel)) rfl, ii_J9⟩
end
