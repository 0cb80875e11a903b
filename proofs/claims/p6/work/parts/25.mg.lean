theorem asg_self (vm : Vm) (c : ClassId) : vm.assignable c c = true := by
  show Vm.assignableAux vm (255 + 1) c c = true
  unfold Vm.assignableAux
  rw [beq_self_eq_true, Bool.true_or]
/-! the reference's world: 24 the object, 25 26 its arrays, 27 its list, 28.. its cards, 32.. its dates, from 36 its pile (pz: 0 nothing is made yet, else one more than lies there); what lies elsewhere is y -/
def va_eq (a b : va_E) : Prop := a = b ∨ ∃ (cA : ClassId) (n : Nat) (h h' : Nat → Option Nat), a = c_ar cA n h ∧ b = c_ar cA n h' ∧ ∀ j, j < n → h j = h' j
theorem va_eq.at {D : va_G} {cl : List vw_C} {q : Nat} {a b : va_E} {H : Heap} (h : va_eq a b) (hb : va_at D cl (q, b) H) : va_at D cl (q, a) H := by
  rcases h with rfl | ⟨cA, n, h, h', rfl, rfl, e⟩
  · exact hb
  · have e2 : vp_cell cA (n, .inr (.inr (.inr (.inr h)))) = vp_cell cA (n, .inr (.inr (.inr (.inr h')))) := by
      rw [vp_cell_q, vp_cell_q]
      unfold arrV
      congr 2
      funext j
      show va_rf (h j.val) = va_rf (h' j.val)
      rw [e j.val j.isLt]
    show H[q]? = some (vp_cell cA (n, .inr (.inr (.inr (.inr h)))))
    rw [e2]
    exact hb
/-- the same cells, in other places -/
theorem WB_map {g : GG} {A : Nat → Prop} {H0 H : Heap} {N M : Nat} {ad ad' : Nat → Nat} {f f' : Nat → va_E} {locs : List Loc} (r : Nat → Nat) (B : WB g A H0 M ad f H locs) (h0 : ∀ k, k < N → r k < M) (hi : ∀ i j, i < N → j < N → r i = r j → i = j) (h1 : ∀ k, k < N → ad' k = ad (r k)) (h2 : ∀ k, k < N → va_eq (f' k) (f (r k))) : WB g A H0 N ad' f' H locs := by
  obtain ⟨hP, hD, hS⟩ := B
  have hP := wd_P.mp hP
  obtain ⟨hi2, hA⟩ := wd_D.mp hD
  refine ⟨wd_P.mpr fun k hk => ?_, wd_D.mpr ⟨fun i j hi1 hj1 e => ?_, fun k hk => ?_⟩, hS⟩
  · rw [h1 k hk]
    exact (h2 k hk).at (hP (r k) (h0 k hk))
  · rw [h1 i hi1, h1 j hj1] at e
    exact hi i j hi1 hj1 (hi2 _ _ (h0 i hi1) (h0 j hj1) e)
  · rw [h1 k hk]
    exact hA _ (h0 k hk)
/-- the same cells, most of them in their places -/
theorem WB_same {g : GG} {A : Nat → Prop} {H0 H : Heap} {N M : Nat} {ad ad' : Nat → Nat} {f f' : Nat → va_E} {locs : List Loc} (B : WB g A H0 M ad f H locs) (h0 : N ≤ M) (h1 : ∀ k, k < N → ad' k = ad k) (h2 : ∀ k, k < N → va_eq (f' k) (f k)) : WB g A H0 N ad' f' H locs :=
  WB_map (fun k => k) B (fun _ h => Nat.lt_of_lt_of_le h h0) (fun _ _ _ _ e => e) h1 h2
abbrev c_md (ad : Nat → Nat) (th kn rf : Int32) : va_E := .inr (7, [.int th, .ref (ad 25), .ref (ad 27), .ref (ad 26), .int kn, .int rf])
abbrev c_al (g : GG) (ad : Nat → Nat) (pz : Nat) (mc : Int32) : va_E := .inr (2, [.int mc, .ref (if pz = 0 then g.2.2 3 else ad 36), .int (Int32.ofNat (pz - 1))])
def mg (g : GG) (ad : Nat → Nat) (y : Nat → va_E) (cr dr : Nat → TR) (th kn rf : Int32) (pl : Nat → TR) (pz : Nat) (mc : Int32) : Nat → va_E := fun k =>
  if k < 24 then y k
  else if k = 24 then c_md ad th kn rf
  else if k = 25 then c_ar (g.2.1 2) 4 (fun j => some (ad (28 + j)))
  else if k = 26 then c_ar (g.2.1 2) 4 (fun j => some (ad (32 + j)))
  else if k = 27 then c_al g ad pz mc
  else if k < 32 then c_row g (cr (k - 28))
  else if k < 36 then c_row g (dr (k - 32))
  else if k < 36 + pz then (if k = 36 then c_ar (g.2.1 5) 10 (fun j => if j + 1 < pz then some (ad (37 + j)) else none) else c_row g (pl (k - 37)))
  else y k
section MG
variable {g : GG} {ad ad' : Nat → Nat} {y y' : Nat → va_E} {cr dr : Nat → TR} {th kn rf : Int32} {pl : Nat → TR} {pz : Nat} {mc : Int32}
theorem mg_lo {k : Nat} (h : k < 24) : mg g ad y cr dr th kn rf pl pz mc k = y k := if_pos h
theorem mg_24 : mg g ad y cr dr th kn rf pl pz mc 24 = c_md ad th kn rf := rfl
theorem mg_25 : mg g ad y cr dr th kn rf pl pz mc 25 = c_ar (g.2.1 2) 4 (fun j => some (ad (28 + j))) := rfl
theorem mg_26 : mg g ad y cr dr th kn rf pl pz mc 26 = c_ar (g.2.1 2) 4 (fun j => some (ad (32 + j))) := rfl
theorem mg_27 : mg g ad y cr dr th kn rf pl pz mc 27 = c_al g ad pz mc := rfl
theorem mg_cr {i : Nat} (hi : i < 4) : mg g ad y cr dr th kn rf pl pz mc (28 + i) = c_row g (cr i) := by
  unfold mg
  rw [if_neg (by omega), if_neg (by omega), if_neg (by omega), if_neg (by omega), if_neg (by omega), if_pos (by omega), Nat.add_sub_cancel_left]
theorem mg_dr {i : Nat} (hi : i < 4) : mg g ad y cr dr th kn rf pl pz mc (32 + i) = c_row g (dr i) := by
  unfold mg
  rw [if_neg (by omega), if_neg (by omega), if_neg (by omega), if_neg (by omega), if_neg (by omega), if_neg (by omega), if_pos (by omega), Nat.add_sub_cancel_left]
theorem mg_ed (h : 0 < pz) : mg g ad y cr dr th kn rf pl pz mc 36 = c_ar (g.2.1 5) 10 (fun j => if j + 1 < pz then some (ad (37 + j)) else none) := by
  unfold mg
  rw [if_neg (by omega), if_neg (by omega), if_neg (by omega), if_neg (by omega), if_neg (by omega), if_neg (by omega), if_neg (by omega), if_pos (by omega), if_pos rfl]
theorem mg_pl {i : Nat} (hi : i + 1 < pz) : mg g ad y cr dr th kn rf pl pz mc (37 + i) = c_row g (pl i) := by
  unfold mg
  rw [if_neg (by omega), if_neg (by omega), if_neg (by omega), if_neg (by omega), if_neg (by omega), if_neg (by omega), if_neg (by omega), if_pos (by omega), if_neg (by omega), Nat.add_sub_cancel_left]
theorem mg_hi {k : Nat} (h : 36 + pz ≤ k) : mg g ad y cr dr th kn rf pl pz mc k = y k := by
  unfold mg
  rw [if_neg (by omega), if_neg (by omega), if_neg (by omega), if_neg (by omega), if_neg (by omega), if_neg (by omega), if_neg (by omega), if_neg (by omega)]
theorem mg_cases (pz k : Nat) : k < 24 ∨ k = 24 ∨ k = 25 ∨ k = 26 ∨ k = 27 ∨ (∃ i, i < 4 ∧ k = 28 + i) ∨ (∃ i, i < 4 ∧ k = 32 + i) ∨ (k = 36 ∧ 0 < pz) ∨ (∃ i, i + 1 < pz ∧ k = 37 + i) ∨ 36 + pz ≤ k := by
  by_cases h : k < 28
  · omega
  · by_cases h2 : k < 32
    · exact Or.inr (Or.inr (Or.inr (Or.inr (Or.inr (Or.inl ⟨k - 28, by omega, by omega⟩)))))
    · by_cases h3 : k < 36
      · exact Or.inr (Or.inr (Or.inr (Or.inr (Or.inr (Or.inr (Or.inl ⟨k - 32, by omega, by omega⟩))))))
      · by_cases h4 : 36 + pz ≤ k
        · omega
        · by_cases h5 : k = 36
          · omega
          · exact Or.inr (Or.inr (Or.inr (Or.inr (Or.inr (Or.inr (Or.inr (Or.inr (Or.inl ⟨k - 37, by omega, by omega⟩))))))))
/-- other addresses: the same where they are named -/
theorem mg_ad {k : Nat} (h : ∀ j, j < 36 + pz → 25 ≤ j → ad' j = ad j) (hy : y' k = y k) : va_eq (mg g ad' y' cr dr th kn rf pl pz mc k) (mg g ad y cr dr th kn rf pl pz mc k) := by
  rcases mg_cases pz k with h1 | rfl | rfl | rfl | rfl | ⟨i, hi, rfl⟩ | ⟨i, hi, rfl⟩ | ⟨rfl, hp⟩ | ⟨i, hi, rfl⟩ | h1
  · rw [mg_lo h1, mg_lo h1]; exact Or.inl hy
  · rw [mg_24, mg_24]; unfold c_md; rw [h 25 (by omega) (by omega), h 26 (by omega) (by omega), h 27 (by omega) (by omega)]; exact Or.inl rfl
  · rw [mg_25, mg_25]; exact Or.inr ⟨_, _, _, _, rfl, rfl, fun j hj => by rw [h _ (by omega) (by omega)]⟩
  · rw [mg_26, mg_26]; exact Or.inr ⟨_, _, _, _, rfl, rfl, fun j hj => by rw [h _ (by omega) (by omega)]⟩
  · rw [mg_27, mg_27]; unfold c_al
    by_cases hp : pz = 0
    · rw [if_pos hp, if_pos hp]; exact Or.inl rfl
    · rw [if_neg hp, if_neg hp, h 36 (by omega) (by omega)]; exact Or.inl rfl
  · rw [mg_cr hi, mg_cr hi]; exact Or.inl rfl
  · rw [mg_dr hi, mg_dr hi]; exact Or.inl rfl
  · rw [mg_ed hp, mg_ed hp]
    refine Or.inr ⟨_, _, _, _, rfl, rfl, fun j hj => ?_⟩
    by_cases h2 : j + 1 < pz
    · rw [if_pos h2, if_pos h2, h _ (by omega) (by omega)]
    · rw [if_neg h2, if_neg h2]
  · rw [mg_pl hi, mg_pl hi]; exact Or.inl rfl
  · rw [mg_hi h1, mg_hi h1]; exact Or.inl hy
theorem mg_up_md (th' kn' rf' : Int32) : va_up (mg g ad y cr dr th kn rf pl pz mc) 24 (c_md ad th' kn' rf') = mg g ad y cr dr th' kn' rf' pl pz mc := by
  funext k
  by_cases h : k = 24
  · rw [h, va_up_self, mg_24]
  · rw [va_up_ne _ _ h]
    unfold mg
    rw [if_neg h, if_neg h]
end MG
section WM
variable {g : GG} {A : Nat → Prop} {H0 H : Heap} {N M : Nat} {ad ad' : Nat → Nat} {y y' : Nat → va_E} {cr dr : Nat → TR} {th kn rf : Int32} {pl : Nat → TR} {pz : Nat} {mc : Int32} {locs : List Loc}
/-- a place more, into what lies elsewhere -/
theorem WM_push {a : Nat} {c : va_E} (hN : 36 + pz ≤ N) (B : WB g A H0 (N + 1) (va_up ad N a) (va_up (mg g ad y cr dr th kn rf pl pz mc) N c) H locs) : WB g A H0 (N + 1) (va_up ad N a) (mg g (va_up ad N a) (va_up y N c) cr dr th kn rf pl pz mc) H locs := by
  refine WB_same B (Nat.le_refl _) (fun _ _ => rfl) (fun k hk => ?_)
  by_cases h : k = N
  · subst h
    rw [mg_hi hN, va_up_self, va_up_self]
    exact Or.inl rfl
  · rw [va_up_ne _ _ h]
    exact mg_ad (fun j hj _ => va_up_ne _ _ (by omega)) (va_up_ne _ _ h)
/-- back to fewer places -/
theorem WM_drop (B : WB g A H0 M ad' (mg g ad' y' cr dr th kn rf pl pz mc) H locs) (hN : 36 + pz ≤ N) (h0 : N ≤ M) (h1 : ∀ k, k < N → ad' k = ad k) (h2 : ∀ k, k < N → y' k = y k) : WB g A H0 N ad (mg g ad y cr dr th kn rf pl pz mc) H locs :=
  WB_same B h0 (fun k hk => (h1 k hk).symm) (fun k hk => mg_ad (fun j hj _ => (h1 j (by omega)).symm) (h2 k hk).symm)
/-- a new row takes a card's place -/
theorem WM_cr {a i : Nat} {t : TR} {h0 : Nat → Option Nat} (B : WB g A H0 (N + 1) (va_up ad N a) (va_up (mg g (va_up ad N a) (va_up y N (c_row g t)) cr dr th kn rf pl pz mc) 25 (c_ar (g.2.1 2) 4 (va_up h0 i (some a)))) H locs) (hh : ∀ j, h0 j = some (va_up ad N a (28 + j))) (hN : 36 + pz ≤ N) (hi : i < 4) : WB g A H0 N (va_up ad (28 + i) a) (mg g (va_up ad (28 + i) a) y (va_up cr i t) dr th kn rf pl pz mc) H locs := by
  refine WB_map (fun k => if k = 28 + i then N else k) B (fun k hk => ?_) (fun p q hp hq e => ?_) (fun k hk => ?_) (fun k hk => ?_)
  · show (if k = 28 + i then N else k) < _
    by_cases h : k = 28 + i
    · rw [if_pos h]; omega
    · rw [if_neg h]; omega
  · have e : (if p = 28 + i then N else p) = (if q = 28 + i then N else q) := e
    by_cases h : p = 28 + i <;> by_cases h' : q = 28 + i
    · omega
    · rw [if_pos h, if_neg h'] at e; omega
    · rw [if_neg h, if_pos h'] at e; omega
    · rw [if_neg h, if_neg h'] at e; exact e
  · show _ = va_up ad N a (if k = 28 + i then N else k)
    by_cases h : k = 28 + i
    · rw [if_pos h, h, va_up_self, va_up_self]
    · rw [if_neg h, va_up_ne _ _ h, va_up_ne _ _ (by omega)]
  · show va_eq _ (va_up (mg g (va_up ad N a) (va_up y N (c_row g t)) cr dr th kn rf pl pz mc) 25 _ (if k = 28 + i then N else k))
    by_cases h : k = 28 + i
    · rw [if_pos h, h, mg_cr hi, va_up_self, va_up_ne _ _ (by omega), mg_hi hN, va_up_self]
      exact Or.inl rfl
    · rw [if_neg h]
      rcases mg_cases pz k with h1 | rfl | rfl | rfl | rfl | ⟨j, hj, rfl⟩ | ⟨j, hj, rfl⟩ | ⟨rfl, hp⟩ | ⟨j, hj, rfl⟩ | h1
      · rw [va_up_ne _ _ (by omega), mg_lo h1, mg_lo h1, va_up_ne _ _ (by omega)]; exact Or.inl rfl
      · rw [va_up_ne _ _ (by omega), mg_24, mg_24]; unfold c_md
        rw [va_up_ne _ _ (by omega), va_up_ne _ _ (by omega), va_up_ne _ _ (by omega), va_up_ne _ _ (by omega), va_up_ne _ _ (by omega), va_up_ne _ _ (by omega)]
        exact Or.inl rfl
      · rw [va_up_self, mg_25]
        refine Or.inr ⟨_, _, _, _, rfl, rfl, fun j hj => ?_⟩
        by_cases hji : j = i
        · rw [hji, va_up_self, va_up_self]
        · rw [va_up_ne _ _ (by omega), va_up_ne _ _ hji, hh, va_up_ne _ _ (by omega)]
      · rw [va_up_ne _ _ (by omega), mg_26, mg_26]
        exact Or.inr ⟨_, _, _, _, rfl, rfl, fun j hj => by rw [va_up_ne _ _ (by omega), va_up_ne _ _ (by omega)]⟩
      · rw [va_up_ne _ _ (by omega), mg_27, mg_27]; unfold c_al
        by_cases hp : pz = 0
        · rw [if_pos hp, if_pos hp]; exact Or.inl rfl
        · rw [if_neg hp, if_neg hp, va_up_ne _ _ (by omega), va_up_ne _ _ (by omega)]; exact Or.inl rfl
      · rw [va_up_ne _ _ (by omega), mg_cr hj, mg_cr hj, va_up_ne _ _ (by omega)]; exact Or.inl rfl
      · rw [va_up_ne _ _ (by omega), mg_dr hj, mg_dr hj]; exact Or.inl rfl
      · rw [va_up_ne _ _ (by omega), mg_ed hp, mg_ed hp]
        refine Or.inr ⟨_, _, _, _, rfl, rfl, fun j hj => ?_⟩
        by_cases h2 : j + 1 < pz
        · rw [if_pos h2, if_pos h2, va_up_ne _ _ (by omega), va_up_ne _ _ (by omega)]
        · rw [if_neg h2, if_neg h2]
      · rw [va_up_ne _ _ (by omega), mg_pl hj, mg_pl hj]; exact Or.inl rfl
      · rw [va_up_ne _ _ (by omega), mg_hi h1, mg_hi h1, va_up_ne _ _ (by omega)]; exact Or.inl rfl
/-- a new row takes a date's place -/
theorem WM_dr {a i : Nat} {t : TR} {h0 : Nat → Option Nat} (B : WB g A H0 (N + 1) (va_up ad N a) (va_up (mg g (va_up ad N a) (va_up y N (c_row g t)) cr dr th kn rf pl pz mc) 26 (c_ar (g.2.1 2) 4 (va_up h0 i (some a)))) H locs) (hh : ∀ j, h0 j = some (va_up ad N a (32 + j))) (hN : 36 + pz ≤ N) (hi : i < 4) : WB g A H0 N (va_up ad (32 + i) a) (mg g (va_up ad (32 + i) a) y cr (va_up dr i t) th kn rf pl pz mc) H locs := by
  refine WB_map (fun k => if k = 32 + i then N else k) B (fun k hk => ?_) (fun p q hp hq e => ?_) (fun k hk => ?_) (fun k hk => ?_)
  · show (if k = 32 + i then N else k) < _
    by_cases h : k = 32 + i
    · rw [if_pos h]; omega
    · rw [if_neg h]; omega
  · have e : (if p = 32 + i then N else p) = (if q = 32 + i then N else q) := e
    by_cases h : p = 32 + i <;> by_cases h' : q = 32 + i
    · omega
    · rw [if_pos h, if_neg h'] at e; omega
    · rw [if_neg h, if_pos h'] at e; omega
    · rw [if_neg h, if_neg h'] at e; exact e
  · show _ = va_up ad N a (if k = 32 + i then N else k)
    by_cases h : k = 32 + i
    · rw [if_pos h, h, va_up_self, va_up_self]
    · rw [if_neg h, va_up_ne _ _ h, va_up_ne _ _ (by omega)]
  · show va_eq _ (va_up (mg g (va_up ad N a) (va_up y N (c_row g t)) cr dr th kn rf pl pz mc) 26 _ (if k = 32 + i then N else k))
    by_cases h : k = 32 + i
    · rw [if_pos h, h, mg_dr hi, va_up_self, va_up_ne _ _ (by omega), mg_hi hN, va_up_self]
      exact Or.inl rfl
    · rw [if_neg h]
      rcases mg_cases pz k with h1 | rfl | rfl | rfl | rfl | ⟨j, hj, rfl⟩ | ⟨j, hj, rfl⟩ | ⟨rfl, hp⟩ | ⟨j, hj, rfl⟩ | h1
      · rw [va_up_ne _ _ (by omega), mg_lo h1, mg_lo h1, va_up_ne _ _ (by omega)]; exact Or.inl rfl
      · rw [va_up_ne _ _ (by omega), mg_24, mg_24]; unfold c_md
        rw [va_up_ne _ _ (by omega), va_up_ne _ _ (by omega), va_up_ne _ _ (by omega), va_up_ne _ _ (by omega), va_up_ne _ _ (by omega), va_up_ne _ _ (by omega)]
        exact Or.inl rfl
      · rw [va_up_ne _ _ (by omega), mg_25, mg_25]
        exact Or.inr ⟨_, _, _, _, rfl, rfl, fun j hj => by rw [va_up_ne _ _ (by omega), va_up_ne _ _ (by omega)]⟩
      · rw [va_up_self, mg_26]
        refine Or.inr ⟨_, _, _, _, rfl, rfl, fun j hj => ?_⟩
        by_cases hji : j = i
        · rw [hji, va_up_self, va_up_self]
        · rw [va_up_ne _ _ (by omega), va_up_ne _ _ hji, hh, va_up_ne _ _ (by omega)]
      · rw [va_up_ne _ _ (by omega), mg_27, mg_27]; unfold c_al
        by_cases hp : pz = 0
        · rw [if_pos hp, if_pos hp]; exact Or.inl rfl
        · rw [if_neg hp, if_neg hp, va_up_ne _ _ (by omega), va_up_ne _ _ (by omega)]; exact Or.inl rfl
      · rw [va_up_ne _ _ (by omega), mg_cr hj, mg_cr hj]; exact Or.inl rfl
      · rw [va_up_ne _ _ (by omega), mg_dr hj, mg_dr hj, va_up_ne _ _ (by omega)]; exact Or.inl rfl
      · rw [va_up_ne _ _ (by omega), mg_ed hp, mg_ed hp]
        refine Or.inr ⟨_, _, _, _, rfl, rfl, fun j hj => ?_⟩
        by_cases h2 : j + 1 < pz
        · rw [if_pos h2, if_pos h2, va_up_ne _ _ (by omega), va_up_ne _ _ (by omega)]
        · rw [if_neg h2, if_neg h2]
      · rw [va_up_ne _ _ (by omega), mg_pl hj, mg_pl hj]; exact Or.inl rfl
      · rw [va_up_ne _ _ (by omega), mg_hi h1, mg_hi h1, va_up_ne _ _ (by omega)]; exact Or.inl rfl
end WM
section RM
variable {p : Program} {l : Launch} {e : Env} {R : Room} {s : State} {m : MethodId} {args : Array Value} {below : List Frame} {meth : Method} {c : Code} {H : Heap} {locs : List Loc} {cells slots : Nat} {Q : State → Prop}
variable {cc : ByteArray} {nL : Nat} {own : String} {cw : Cond} {pc : Nat} {ls : Array Slot} {rest st0 : List Value} {g : GG} {A : Nat → Prop} {H0 : Heap} {N : Nat} {ad : Nat → Nat} {f : Nat → va_E}
theorem b_get {ref : String} {ci index q k b : Nat} {C : String} {T : u_T} {n : Nat} {fs : List Value} {v : Value} (hbq : ad q = b) (X : CX p s m args meth c cc nL own cw) (hK : KK g s) (B : WB g A s.heap N ad f H locs) (hc : vwCl[ci]? = some (C, T, n)) (hin : ∀ w ∈ u_ws C T n, w ∈ tb_all) (hq : q < N) (hf : f q = .inr (ci, fs)) (hk : k < n) (hlink : Cond.fieldLink own index ref (T k).2.1 (T k).2.2.1 ∈ tb_all) (hsame : (T k).1 = ref) (hv : fs[k]? = some v) (hdg : decode cc pc = .ok (.getfield index, 3))
    (kk : W p l e R s m args below meth c H locs cells slots Q (F0 m (pc + 3) ls (v :: rest))) : W p l e R s m args below meth c H locs cells slots Q (F0 m pc ls (.ref b :: rest)) := by
  subst hbq
  exact g_get X hK B hc hin hq hf hk hlink hsame hv hdg kk
theorem b_put {ref : String} {ci index q k b : Nat} {C : String} {T : u_T} {n : Nat} {fs : List Value} {v : Value} {ty : FieldType} {ty0 : Nat → FieldType} (hbq : ad q = b) (X : CX p s m args meth c cc nL own cw) (hK : KK g s) (B : WB g A s.heap N ad f H locs) (hc : vwCl[ci]? = some (C, T, n)) (hin : ∀ w ∈ u_ws C T n, w ∈ tb_all) (hty : ∀ k, k < n → parseFieldDescriptor (T k).2.2.1 = some (ty0 k)) (hnm : ∀ a, a < n → ∀ b, b < n → a ≠ b → (T a).2.1 ≠ (T b).2.1) (hq : q < N) (hf : f q = .inr (ci, fs)) (hk : k < n) (hlink : Cond.fieldLink own index ref (T k).2.1 (T k).2.2.1 ∈ tb_all) (hsame : (T k).1 = ref) (hfin : (T k).2.2.2 = false) (hd : ty0 k = ty) (hn : narrow ty v = v) (hfit : fits ty v = true) (hl : k < fs.length) (hdg : decode cc pc = .ok (.putfield index, 3))
    (kk : ∀ (H1 : Heap) (locs1 : List Loc), WB g A s.heap N ad (va_up f q (.inr (ci, fs.set k v))) H1 locs1 → W p l e R s m args below meth c H1 locs1 cells slots Q (F0 m (pc + 3) ls rest)) : W p l e R s m args below meth c H locs cells slots Q (F0 m pc ls (v :: .ref b :: rest)) := by
  subst hbq
  exact g_put X hK B hc hin hty hnm hq hf hk hlink hsame hfin hd hn hfit hl hdg kk
theorem b_aald {q b n : Nat} {t0 : Nat} {cA : ClassId} {h : Nat → Option Nat} {i : Int32} {v : Nat} {ty : FieldType} (hbq : ad q = b) (X : CX p s m args meth c cc nL own cw) (hK : KK g s) (B : WB g A s.heap N ad f H locs) (hq : q < N) (hf : f q = c_ar cA n h) (ht : (TY g.2.1)[t0]? = some (cA, ty)) (hty : ty.isReference = true) (hi : vp_in i n) (hv : h i.toNatClampNeg = some v) (hdg : decode cc pc = .ok (.aaload, 1))
    (kk : W p l e R s m args below meth c H locs cells slots Q (F0 m (pc + 1) ls (.ref v :: rest))) : W p l e R s m args below meth c H locs cells slots Q (F0 m pc ls (.int i :: .ref b :: rest)) := by
  subst hbq
  refine g_aald X hK B hq hf ht hty hi hdg ?_
  rw [hv]
  exact kk
/-- a row into an array of rows -/
theorem b_aast {q b qv bv n : Nat} {h : Nat → Option Nat} {t : TR} {i : Int32} (hbq : ad q = b) (X : CX p s m args meth c cc nL own cw) (hK : KK g s) (hT : ST g.2.2 A s s.heap) (B : WB g A s.heap N ad f H locs) (hq : q < N) (hf : f q = c_ar (g.2.1 2) n h) (hqv : qv < N) (hbv : ad qv = bv) (hfv : f qv = c_row g t) (hi : vp_in i n) (hdg : decode cc pc = .ok (.aastore, 1))
    (kk : ∀ (H1 : Heap) (locs1 : List Loc), WB g A s.heap N ad (va_up f q (c_ar (g.2.1 2) n (va_up h i.toNatClampNeg (some bv)))) H1 locs1 → W p l e R s m args below meth c H1 locs1 cells slots Q (F0 m (pc + 1) ls rest)) : W p l e R s m args below meth c H locs cells slots Q (F0 m pc ls (.ref bv :: .int i :: .ref b :: rest)) := by
  subst hbq hbv
  obtain ⟨hP, hD, hS⟩ := B
  have hlt : i.toNatClampNeg < n := Nat.not_le.mp fun q => hi (Or.inr q)
  have h0 : ¬ i < 0 := fun q => hi (Or.inl q)
  have hcq := wd_P.mp hP q hq
  rw [hf] at hcq
  have hcv := wd_P.mp hP qv hqv
  rw [hfv] at hcv
  have hcv : H[ad qv]? = some (vp_cell (g.2.1 0) (3, .inl (rw3 t))) := hcv
  obtain ⟨comp, cA, kA, f1, -, f3, f4, f5⟩ := arrayOverA_spec hT.1.2.2.2.2
  have e1 : cA = g.2.1 2 := Option.some.inj (f5.symm.trans (hK.2 2 (g.2.1 2, .array .int) rfl).2)
  have e2 : comp = g.2.1 0 := Option.some.inj (f1.symm.trans (hK.2 0 (g.2.1 0, .int) rfl).2)
  subst e1 e2
  obtain ⟨-, kv, hkv, cv, hkind⟩ := (hK.2 0 (g.2.1 0, .int) rfl).1 3 (fun j => .int (rw3 t j))
  have hw : (wd N ad f)[q]? = some (ad q, c_ar (g.2.1 2) n h) := by rw [wd_get hq, hf]
  refine W.aast X.1 X.2.1 (show H[ad q]? = some (vp_cell (g.2.1 2) (n, .inr (.inr (.inr (.inr h))))) from hcq) (fun q h => by cases h) (fun h => by cases h) f3 f4 rfl hkv ⟨h0, by show _ < (arrV _ _ _).slots.size; rw [arrV_size]; exact hlt⟩ hcv (fun q h => by cases h) hkv (asg_self s.vm (g.2.1 0)) rfl rfl hdg fun H1 e z oq => ?_
  have hP1 := hP.set hD hw (e := c_ar (g.2.1 2) n (va_up h i.toNatClampNeg (some (ad qv)))) (by
    show H1[ad q]? = some (vp_cell _ _)
    rw [e]
    rw [vp_cell_q, vp_cell_q, arrV_store]
    congr 2
    funext j
    by_cases hq : j = i.toNatClampNeg
    · subst hq
      simp [updV, va_up, va_rf]
    · simp [updV, va_up, hq]) oq
  have hD1 := hD.set (e := c_ar (g.2.1 2) n (va_up h i.toNatClampNeg (some (ad qv)))) hw
  rw [wd_set hq] at hP1 hD1
  exact kk H1 _ ⟨hP1, hD1, hS.put z oq (hD.2 q _ hw)⟩
theorem b_V {y : MethodName} {bytes : ByteArray} {maxL index n b : Nat} {ret : Option FieldType} {rm : Room} {As : List Value} {Qc : Array Value → State → Outcome → State → Prop} {free : Addr → Prop} {q ci : Nat} {fs : List Value} {r : vw_C} (hbq : ad q = b)
    (X : CX p s m args meth c cc nL own cw) (hM : Met l y (Cond.code y bytes maxL ret :: tb_all) rm (va_Pc (.ref b :: As) (PR g N ad f H.size)) Qc rm.cells rm.slots free)
    (hy : Cond.code y bytes maxL ret ∈ tb_all ∧ Cond.instanceMethod y ∈ tb_all ∧ Cond.selects y.cls y y ∈ tb_all ∧ Cond.initialized y.cls ∈ tb_all) (hd : y.cls ≠ "java/lang/invoke/MethodHandle" ∧ y.cls ≠ "java/lang/invoke/VarHandle" ∧ (parseMethodDescriptor y.desc).map (fun d => d.parameters.length) = some n) (hn : As.length = n) (hlk : Cond.methodLink own index y ∈ tb_all)
    (hR : rm.frames + 1 ≤ R.frames ∧ 8 + (maxL + 11) + rm.locals ≤ R.locals) (hA : ∀ q, s.heap.size ≤ q → A q) (hK : KK g s) (hT : ST g.2.2 A s s.heap) (B : WB g A s.heap N ad f H locs) (hq : q < N) (hf : f q = .inr (ci, fs)) (hc : vwCl[ci]? = some r) (hyc : y.cls = r.1) (hls : ls.size = nL)
    (hst : st0 = As.reverse ++ .ref b :: rest) (hW : (rest.map fun v => v.category).sum ≤ 8) (hdg : decode cc pc = .ok (.invokevirtual index, 3)) (hf2 : cells + rm.cells ≤ R.cells ∧ slots + rm.slots ≤ R.slots) :
    va_Run p l e R s m args below meth c H locs cells slots rm.cells rm.slots (F0 m pc ls st0) rest (Qc (Value.ref b :: As).toArray) free := by
  subst hbq
  exact u_V X hM hy hd hn hlk hR hA hK hT B hq hf hc hyc hls hst hW hdg hf2
end RM
/-! numbers of cards and dates -/
theorem no_lt {k : Int32} (h : v_X4_isNone k = 0) : k.toNatClampNeg < 4 := by
  unfold v_X4_isNone at h
  by_cases h1 : k < 0
  · rw [if_pos h1] at h; exact absurd h (by decide)
  · rw [if_neg h1] at h
    by_cases h2 : k < 4
    · exact ix_lt (n := 4) h1 (ix_nl h2) rfl
    · rw [if_neg h2] at h; exact absurd h (by decide)
theorem no_in {k : Int32} (h : v_X4_isNone k = 0) : vp_in k 4 := by
  unfold v_X4_isNone at h
  by_cases h1 : k < 0
  · rw [if_pos h1] at h; exact absurd h (by decide)
  · rw [if_neg h1] at h
    by_cases h2 : k < 4
    · exact ix_in (n := 4) h1 (ix_nl h2) rfl
    · rw [if_neg h2] at h; exact absurd h (by decide)
theorem no_of {k : Int32} (h1 : ¬ k < 0) (h2 : ¬ 4 ≤ k) : v_X4_isNone k = 0 := by
  unfold v_X4_isNone
  rw [if_neg h1, if_pos (Int32.not_le.mp h2)]
theorem pl_cr {N pz i : Nat} (hN : 36 + pz ≤ N) (hi : i < 4) : 28 + i < N := by omega
theorem pl_dr {N pz i : Nat} (hN : 36 + pz ≤ N) (hi : i < 4) : 32 + i < N := by omega
theorem pl_m {N pz : Nat} (hN : 36 + pz ≤ N) (i : Nat) (hi : i < 36) : i < N := by omega
theorem mg_yup {g : GG} {ad : Nat → Nat} {y : Nat → va_E} {cr dr : Nat → TR} {th kn rf : Int32} {pl : Nat → TR} {pz : Nat} {mc : Int32} {q : Nat} {e : va_E} (hq : 36 + pz ≤ q) : va_up (mg g ad y cr dr th kn rf pl pz mc) q e = mg g ad (va_up y q e) cr dr th kn rf pl pz mc := by
  funext k
  by_cases h : k = q
  · subst h
    rw [va_up_self, mg_hi hq, va_up_self]
  · rw [va_up_ne _ _ h]
    unfold mg
    rw [va_up_ne _ _ h]
theorem c_row_al {g : GG} {cA : ClassId} {n : Nat} {h : Nat → Option Nat} {t : TR} (e : c_ar cA n h = c_row g t) : False := by
  injection e with e
  injection e with _ e
  injection e with _ e
  cases e
/-- a row stays where nothing else is named -/
theorem mg_row {g : GG} {ad ad' : Nat → Nat} {y y' : Nat → va_E} {cr dr : Nat → TR} {th kn rf th' kn' rf' : Int32} {pl : Nat → TR} {pz : Nat} {mc : Int32} {j : Nat} {t : TR} (h : mg g ad y cr dr th kn rf pl pz mc j = c_row g t) (hy : y' j = y j) : mg g ad' y' cr dr th' kn' rf' pl pz mc j = c_row g t := by
  rcases mg_cases pz j with h1 | rfl | rfl | rfl | rfl | ⟨i, hi, rfl⟩ | ⟨i, hi, rfl⟩ | ⟨rfl, hp⟩ | ⟨i, hi, rfl⟩ | h1
  · rw [mg_lo h1] at h ⊢; rw [hy]; exact h
  · rw [mg_24] at h; cases h
  · rw [mg_25] at h; exact (c_row_al h).elim
  · rw [mg_26] at h; exact (c_row_al h).elim
  · rw [mg_27] at h; cases h
  · rw [mg_cr hi] at h ⊢; exact h
  · rw [mg_dr hi] at h ⊢; exact h
  · rw [mg_ed hp] at h; exact (c_row_al h).elim
  · rw [mg_pl hi] at h ⊢; exact h
  · rw [mg_hi h1] at h ⊢; rw [hy]; exact h
