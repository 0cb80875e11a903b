/-! what the tables and the statics give, carried by every contract -/
def st_own : List (String × Nat × String) := [("Periodcard", 98, ""), ("Periodcard$Span", 68, "y "), ("Periodcard$Span", 73, "m "), ("java/util/Arrays", 337, " > "), ("Periodcard", 229, "there is no such card"), ("Periodcard", 234, "there is no such part to ask of"), ("Periodcard", 135, "it can be added 0 to 9 times"), ("Periodcard", 232, "there is no such date"), ("Periodcard", 148, "there is no such day from 1600 to 2400"), ("Periodcard", 165, "it can be walked 1 to 12 times"), ("PeriodcardModel", 61, ""), ("PeriodcardModel", 70, "y "), ("PeriodcardModel", 75, "m "), ("PeriodcardModel", 77, "d"), ("PeriodcardModel", 206, "-")]
def st_len : List Nat := [0, 2, 2, 3, 21, 31, 28, 21, 38, 30, 0, 2, 2, 1, 1]
def st_byt : List (List Int32) := [[], [121, 32], [109, 32], [32, 62, 32], [116, 104, 101, 114, 101, 32, 105, 115, 32, 110, 111, 32, 115, 117, 99, 104, 32, 99, 97, 114, 100], [116, 104, 101, 114, 101, 32, 105, 115, 32, 110, 111, 32, 115, 117, 99, 104, 32, 112, 97, 114, 116, 32, 116, 111, 32, 97, 115, 107, 32, 111, 102], [105, 116, 32, 99, 97, 110, 32, 98, 101, 32, 97, 100, 100, 101, 100, 32, 48, 32, 116, 111, 32, 57, 32, 116, 105, 109, 101, 115], [116, 104, 101, 114, 101, 32, 105, 115, 32, 110, 111, 32, 115, 117, 99, 104, 32, 100, 97, 116, 101], [116, 104, 101, 114, 101, 32, 105, 115, 32, 110, 111, 32, 115, 117, 99, 104, 32, 100, 97, 121, 32, 102, 114, 111, 109, 32, 49, 54, 48, 48, 32, 116, 111, 32, 50, 52, 48, 48], [105, 116, 32, 99, 97, 110, 32, 98, 101, 32, 119, 97, 108, 107, 101, 100, 32, 49, 32, 116, 111, 32, 49, 50, 32, 116, 105, 109, 101, 115], [], [121, 32], [109, 32], [100], [45]]
def st_ones : List Int32 := [48, 49, 50, 51, 52, 53, 54, 55, 56, 57, 48, 49, 50, 51, 52, 53, 54, 55, 56, 57, 48, 49, 50, 51, 52, 53, 54, 55, 56, 57, 48, 49, 50, 51, 52, 53, 54, 55, 56, 57, 48, 49, 50, 51, 52, 53, 54, 55, 56, 57, 48, 49, 50, 51, 52, 53, 54, 55, 56, 57, 48, 49, 50, 51, 52, 53, 54, 55, 56, 57, 48, 49, 50, 51, 52, 53, 54, 55, 56, 57, 48, 49, 50, 51, 52, 53, 54, 55, 56, 57, 48, 49, 50, 51, 52, 53, 54, 55, 56, 57]
def st_tens : List Int32 := [48, 48, 48, 48, 48, 48, 48, 48, 48, 48, 49, 49, 49, 49, 49, 49, 49, 49, 49, 49, 50, 50, 50, 50, 50, 50, 50, 50, 50, 50, 51, 51, 51, 51, 51, 51, 51, 51, 51, 51, 52, 52, 52, 52, 52, 52, 52, 52, 52, 52, 53, 53, 53, 53, 53, 53, 53, 53, 53, 53, 54, 54, 54, 54, 54, 54, 54, 54, 54, 54, 55, 55, 55, 55, 55, 55, 55, 55, 55, 55, 56, 56, 56, 56, 56, 56, 56, 56, 56, 56, 57, 57, 57, 57, 57, 57, 57, 57, 57, 57]
def st_lens : List Int32 := [31, 28, 31, 30, 31, 30, 31, 31, 30, 31, 30, 31]
def st_n : Nat := 15
/-- words of links between nest mates, of casts, of what a class declares -/
def ng_ok : Cond → Bool
  | .methodLinkNest .. => true
  | .fieldLinkNest .. => true
  | .castable .. => true
  | .declares _ => true
  | .privateMethod _ => true
  | _ => false
def ng_all (U : State) : Prop := ∀ w ∈ lw_tbl, ng_ok w = true → va_Nw w U
theorem ng_warm {s U : State} (hW : s.WarmedH U.vm) (h : ng_all s) : ng_all U := by
  intro w hw hg
  have h1 := h w hw hg
  cases w <;> first | exact va_Nw.warmM hW h1 | exact va_Nw.warmF hW h1 | exact va_Nw.warmC hW h1 | exact va_Nw.warmD hW h1 | exact Cond.privateMethod_warm hW h1 | (simp [ng_ok] at hg)
def ao_all (U : State) : Prop := va_AO "Periodcard$Span" U ∧ va_AO "Periodcard$Day" U ∧ va_AO "java/lang/Object" U ∧ (Cond.arrayOver (.array .int)).before #[] U = true
theorem ao_moved {s U : State} (hvm : s.vm.Alike U.vm) (h : ao_all s) : ao_all U := ⟨h.1.moved hvm, h.2.1.moved hvm, h.2.2.1.moved hvm, over_moved hvm h.2.2.2⟩
/-- the constants: each a text of the machine's own, of one byte a letter; two of them may be one object -/
def vk_P (N : Nat) (len : List Nat) (byt : List (List Int32)) (adK adV : Nat → Nat) (A : Nat → Prop) (U : State) (H : Heap) : Prop :=
  (∀ i : Nat, i < N → va_O "java/lang/String" (adK i) A U H ∧ va_OF "java/lang/String" "coder" "B" (.int 0) (adK i) A U H ∧ va_OF "java/lang/String" "value" "[B" (.ref (adV i)) (adK i) A U H ∧ va_T .byte (adV i) (len.getD i 0) (fun j => .int ((byt.getD i []).getD j 0)) A U H) ∧ True
theorem vk_P.moved {N : Nat} {len : List Nat} {byt : List (List Int32)} {adK adV : Nat → Nat} {A : Nat → Prop} {u U : State} {H : Heap} (hvm : u.vm.Alike U.vm) (h : vk_P N len byt adK adV A u H) : vk_P N len byt adK adV A U H :=
  ⟨fun i hi => ⟨va_O.moved hvm (h.1 i hi).1, va_OF.moved hvm (h.1 i hi).2.1, va_OF.moved hvm (h.1 i hi).2.2.1, va_T.moved hvm (h.1 i hi).2.2.2⟩, trivial⟩
theorem vk_P.kept {N : Nat} {len : List Nat} {byt : List (List Int32)} {adK adV : Nat → Nat} {A : Nat → Prop} {U : State} {H H1 : Heap} (h : vk_P N len byt adK adV A U H) (hq : ∀ a : Nat, a < H.size → ¬ A a → H1[a]? = H[a]?) : vk_P N len byt adK adV A U H1 :=
  ⟨fun i hi => ⟨va_O.kept (h.1 i hi).1 hq, va_OF.kept (h.1 i hi).2.1 hq, va_OF.kept (h.1 i hi).2.2.1 hq, va_T.kept (h.1 i hi).2.2.2 hq⟩, trivial⟩
theorem vk_P.narrow {N : Nat} {len : List Nat} {byt : List (List Int32)} {adK adV : Nat → Nat} {A B : Nat → Prop} {U : State} {H : Heap} (h : vk_P N len byt adK adV A U H) (hAB : ∀ q, B q → A q) : vk_P N len byt adK adV B U H :=
  ⟨fun i hi => ⟨va_O.narrow (h.1 i hi).1 hAB, va_OF.narrow (h.1 i hi).2.1 hAB, va_OF.narrow (h.1 i hi).2.2.1 hAB, va_T.narrow (h.1 i hi).2.2.2 hAB⟩, trivial⟩
theorem vk_P.one {N i : Nat} {len : List Nat} {byt : List (List Int32)} {adK adV : Nat → Nat} {A : Nat → Prop} {U : State} {H : Heap} (h : vk_P N len byt adK adV A U H) (hi : i < N) : vk_S 1 [len.getD i 0] [byt.getD i []] (fun _ => adK i) (fun _ => adV i) A U H :=
  ⟨fun j hj => by
    have e : j = 0 := by omega
    subst e
    exact h.1 i hi, fun a b ha hb _ => by omega⟩
/-- the statics and the texts: z names the addresses -/
def ST (z : Nat → Nat) (A : Nat → Prop) (U : State) (H : Heap) : Prop :=
  (ng_all U ∧ ao_all U) ∧
  (va_Z "java/lang/String" "COMPACT_STRINGS" "Z" (.int 1) A U H ∧
  (va_Z "java/lang/Integer" "DigitOnes" "[B" (.ref (z 0)) A U H ∧ va_T .byte (z 0) 100 (fun j => .int (st_ones.getD j 0)) A U H) ∧
  (va_Z "java/lang/Integer" "DigitTens" "[B" (.ref (z 1)) A U H ∧ va_T .byte (z 1) 100 (fun j => .int (st_tens.getD j 0)) A U H) ∧
  (va_Z "PeriodcardModel" "LENGTHS" "[I" (.ref (z 2)) A U H ∧ va_T .int (z 2) 12 (fun j => .int (st_lens.getD j 0)) A U H) ∧
  (va_Z "java/util/ArrayList" "DEFAULTCAPACITY_EMPTY_ELEMENTDATA" "[Ljava/lang/Object;" (.ref (z 3)) A U H ∧ va_T (.object "java/lang/Object") (z 3) 0 (fun _ => .null) A U H)) ∧
  (vx_Zq "java/lang/Throwable" "UNASSIGNED_STACK" "[Ljava/lang/StackTraceElement;" A U H ∧ vx_Zq "java/lang/Throwable" "SUPPRESSED_SENTINEL" "Ljava/util/List;" A U H) ∧
  (∀ i, i < st_n → vk_R (st_own.getD i ("", 0, "")).1 (st_own.getD i ("", 0, "")).2.1 (st_own.getD i ("", 0, "")).2.2 (z (100 + i)) U) ∧
  vk_P st_n st_len st_byt (fun i => z (100 + i)) (fun i => z (200 + i)) A U H
theorem ST.to {z : Nat → Nat} {A B : Nat → Prop} {u U : State} {H H1 : Heap} (hW : u.WarmedH U.vm) (h : ST z A u H) (hq : ∀ a : Nat, a < H.size → ¬ A a → H1[a]? = H[a]?) (hAB : ∀ q, B q → A q) : ST z B U H1 := by
  obtain ⟨⟨h1, h2⟩, ⟨h3, ⟨h4, h5⟩, ⟨h6, h7⟩, ⟨h8, h9⟩, ⟨h10, h11⟩⟩, ⟨h12, h13⟩, h14, h15⟩ := h
  have hv := hW.alike
  exact ⟨⟨ng_warm hW h1, ao_moved hv h2⟩, ⟨((h3.kept hq).narrow hAB).moved hv, ⟨((h4.kept hq).narrow hAB).moved hv, ((h5.kept hq).narrow hAB).moved hv⟩, ⟨((h6.kept hq).narrow hAB).moved hv, ((h7.kept hq).narrow hAB).moved hv⟩, ⟨((h8.kept hq).narrow hAB).moved hv, ((h9.kept hq).narrow hAB).moved hv⟩, ⟨((h10.kept hq).narrow hAB).moved hv, ((h11.kept hq).narrow hAB).moved hv⟩⟩,
    ⟨((h12.kept hq).narrow hAB).moved hv, ((h13.kept hq).narrow hAB).moved hv⟩, fun i hi => (h14 i hi).warm hW, ((h15.kept hq).narrow hAB).moved hv⟩
/-! a world: N places, at each an address and what lies there -/
def wd (N : Nat) (ad : Nat → Nat) (f : Nat → va_E) : va_W := (List.range N).map (fun k => (ad k, f k))
theorem wd_len {N : Nat} {ad : Nat → Nat} {f : Nat → va_E} : (wd N ad f).length = N := by simp [wd]
theorem wd_get {N : Nat} {ad : Nat → Nat} {f : Nat → va_E} {k : Nat} (h : k < N) : (wd N ad f)[k]? = some (ad k, f k) := by
  unfold wd
  rw [List.getElem?_map, List.getElem?_range h]
  rfl
theorem wd_at {N : Nat} {ad : Nat → Nat} {f : Nat → va_E} {k : Nat} {q : Nat × va_E} (h : (wd N ad f)[k]? = some q) : k < N ∧ q = (ad k, f k) := by
  have hk : k < N := by
    have := (List.getElem?_eq_some_iff.mp h).1
    rwa [wd_len] at this
  rw [wd_get hk] at h
  exact ⟨hk, (Option.some.inj h).symm⟩
theorem wd_ext {w : va_W} {N : Nat} {ad : Nat → Nat} {f : Nat → va_E} (hl : w.length = N) (h : ∀ k, k < N → w[k]? = some (ad k, f k)) : w = wd N ad f := by
  apply List.ext_getElem?
  intro k
  by_cases hk : k < N
  · rw [h k hk, wd_get hk]
  · rw [List.getElem?_eq_none (by omega), List.getElem?_eq_none (by rw [wd_len]; omega)]
theorem wd_set {N : Nat} {ad : Nat → Nat} {f : Nat → va_E} {k : Nat} {e : va_E} (h : k < N) : (wd N ad f).set k (ad k, e) = wd N ad (va_up f k e) := by
  apply wd_ext
  · rw [List.length_set, wd_len]
  · intro j hj
    by_cases hjk : j = k
    · subst hjk
      rw [List.getElem?_set_self (by rw [wd_len]; exact hj)]
      simp [va_up]
    · rw [List.getElem?_set_ne (fun z => hjk z.symm), wd_get hj]
      simp [va_up, hjk]
theorem wd_push {N : Nat} {ad : Nat → Nat} {f : Nat → va_E} {a : Nat} {e : va_E} : wd N ad f ++ [(a, e)] = wd (N + 1) (va_up ad N a) (va_up f N e) := by
  apply wd_ext
  · rw [List.length_append, wd_len]; rfl
  · intro j hj
    by_cases hjk : j < N
    · rw [List.getElem?_append_left (by rw [wd_len]; exact hjk), wd_get hjk]
      simp [va_up, Nat.ne_of_lt hjk]
    · have : j = N := by omega
      subst this
      rw [List.getElem?_append_right (by rw [wd_len]; exact Nat.le_refl _), wd_len, Nat.sub_self]
      simp [va_up]
theorem wd_P {D : va_G} {cl : List vw_C} {N : Nat} {ad : Nat → Nat} {f : Nat → va_E} {H : Heap} : va_P D cl (wd N ad f) H ↔ ∀ k, k < N → va_at D cl (ad k, f k) H := by
  constructor
  · intro h k hk
    exact h k _ (wd_get hk)
  · intro h k q hq
    obtain ⟨hk, rfl⟩ := wd_at hq
    exact h k hk
theorem wd_D {A : Nat → Prop} {N : Nat} {ad : Nat → Nat} {f : Nat → va_E} : va_D A (wd N ad f) ↔ (∀ i j, i < N → j < N → ad i = ad j → i = j) ∧ ∀ k, k < N → A (ad k) := by
  constructor
  · intro h
    exact ⟨fun i j hi hj e => h.1 i j _ _ (wd_get hi) (wd_get hj) e, fun k hk => h.2 k _ (wd_get hk)⟩
  · intro h
    refine ⟨fun i j p q hi hj e => ?_, fun k q hq => ?_⟩
    · obtain ⟨hi2, rfl⟩ := wd_at hi
      obtain ⟨hj2, rfl⟩ := wd_at hj
      exact h.1 i j hi2 hj2 e
    · obtain ⟨hk, rfl⟩ := wd_at hq
      exact h.2 k hk
theorem wd_eq {N : Nat} {ad ad' : Nat → Nat} {f f' : Nat → va_E} (h1 : ∀ k, k < N → ad' k = ad k) (h2 : ∀ k, k < N → f' k = f k) : wd N ad' f' = wd N ad f := by
  apply wd_ext wd_len
  intro k hk
  rw [wd_get hk, h1 k hk, h2 k hk]
/-- what a method may write: its world's addresses, and what is new -/
def aw (N : Nat) (ad : Nat → Nat) (sz : Nat) : Nat → Prop := fun q => (∃ k, k < N ∧ q = ad k) ∨ sz ≤ q
abbrev GG : Type := va_G × (Nat → ClassId) × (Nat → Nat)
def TY (ti : Nat → ClassId) : List (ClassId × FieldType) := [(ti 0, .int), (ti 1, .byte), (ti 2, .array .int), (ti 3, .object "Periodcard$Span"), (ti 4, .object "Periodcard$Day"), (ti 5, .object "java/lang/Object")]
abbrev KK (g : GG) (U : State) : Prop := va_K g.1 vwCl (TY g.2.1) U
/-- the world in a walk -/
def WB (g : GG) (A : Nat → Prop) (H0 : Heap) (N : Nat) (ad : Nat → Nat) (f : Nat → va_E) (H : Heap) (locs : List Loc) : Prop := va_P g.1 vwCl (wd N ad f) H ∧ va_D A (wd N ad f) ∧ va_S A H0 H locs
/-- a contract's start -/
def PR (g : GG) (N : Nat) (ad : Nat → Nat) (f : Nat → va_E) (sz : Nat) (U : State) : Prop := U.heap.size = sz ∧ va_P g.1 vwCl (wd N ad f) U.heap ∧ KK g U ∧ va_D (fun _ => True) (wd N ad f) ∧ ST g.2.2 (aw N ad sz) U U.heap
/-- a contract's end: the world of N places -/
def PO (g : GG) (N : Nat) (ad : Nat → Nat) (f : Nat → va_E) (A : Nat → Prop) (t : State) : Prop := va_P g.1 vwCl (wd N ad f) t.heap ∧ va_D A (wd N ad f)
theorem PR_blind {g : GG} {N : Nat} {ad : Nat → Nat} {f : Nat → va_E} {sz : Nat} {av : List Value} : FrameBlind (va_Pc av (PR g N ad f sz)) := by
  intro a U k mk h
  obtain ⟨h0, h1, h2, h3, h4, h5⟩ := h
  have hW : U.WarmedH (U.calling k mk a).vm := State.WarmedH.refl U
  exact ⟨h0, h1, h2, va_K.moved hW.alike h3, h4, h5.to hW (fun _ _ _ => rfl) (fun _ h => h)⟩
theorem aw_of {g : GG} {A : Nat → Prop} {H0 H : Heap} {N : Nat} {ad : Nat → Nat} {f : Nat → va_E} {locs : List Loc} (hA : ∀ q, H0.size ≤ q → A q) (B : WB g A H0 N ad f H locs) : ∀ q, aw N ad H.size q → A q := by
  intro q h
  rcases h with ⟨k, hk, rfl⟩ | h
  · exact (wd_D.mp B.2.1).2 k hk
  · exact hA q (Nat.le_trans B.2.2.1 h)
theorem PR_of {g : GG} {A : Nat → Prop} {s : State} {H : Heap} {N : Nat} {ad : Nat → Nat} {f : Nat → va_E} {locs : List Loc} (hA : ∀ q, s.heap.size ≤ q → A q) (hK : KK g s) (hT : ST g.2.2 A s s.heap) (B : WB g A s.heap N ad f H locs) {U : State} (hU : U.heap = H) (hW : s.WarmedH U.vm) : PR g N ad f H.size U := by
  refine ⟨by rw [hU], by rw [hU]; exact B.1, va_K.moved hW.alike hK, B.2.1.weaken (fun _ _ _ _ => trivial), ?_⟩
  rw [hU]
  exact hT.to hW (fun a h1 h2 => B.2.2.2.1 a h1 h2) (aw_of hA B)
theorem pS {g : GG} {A : Nat → Prop} {s : State} {H : Heap} {N : Nat} {ad : Nat → Nat} {f : Nat → va_E} {locs : List Loc} {As : List Value} (hA : ∀ q, s.heap.size ≤ q → A q) (hK : KK g s) (hT : ST g.2.2 A s s.heap) (B : WB g A s.heap N ad f H locs) : PreS s H (va_Pc As (PR g N ad f H.size)) As :=
  ⟨PR_blind, fun _ hU hW => ⟨rfl, PR_of hA hK hT B hU hW⟩⟩
theorem pV {g : GG} {A : Nat → Prop} {s : State} {H : Heap} {N : Nat} {ad : Nat → Nat} {f : Nat → va_E} {locs : List Loc} {As : List Value} (hA : ∀ q, s.heap.size ≤ q → A q) (hK : KK g s) (hT : ST g.2.2 A s s.heap) (B : WB g A s.heap N ad f H locs) {q ci : Nat} {fs : List Value} {r : vw_C} (hq : q < N) (hf : f q = .inr (ci, fs)) (hc : vwCl[ci]? = some r) : PreV s H r.1 (ad q) (va_Pc (.ref (ad q) :: As) (PR g N ad f H.size)) As :=
  ⟨PR_blind, va_recv hK B.1 (q0 := q) hc (by rw [wd_get hq, hf]), fun _ hU hW => ⟨rfl, PR_of hA hK hT B hU hW⟩⟩
