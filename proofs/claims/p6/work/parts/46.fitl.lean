theorem fitL86 {ss : Int32} : ∀ (n : Nat) (pq yy : Int32) (bt : Nat → Int32), sb_Fit bt → sb_Fit (wJ13_getChars_11360_86 ss n pq yy bt).2 := by
  intro n
  induction n with
  | zero => intro pq yy bt h; exact h
  | succ n ih =>
    intro pq yy bt h
    rw [wJ13_getChars_11360_86]
    by_cases c1 : (-100) < yy
    · rw [if_pos c1]
      by_cases c2 : (-9) ≤ yy
      · rw [if_pos c2]
        by_cases c3 : ss = 0
        · rw [if_pos c3]; exact sb_fitU h (fit_nar _)
        · rw [if_neg c3]; exact sb_fitU (sb_fitU h (fit_nar _)) (fit_nar _)
      · rw [if_neg c2]
        by_cases c3 : ss = 0
        · rw [if_pos c3]; exact sb_fitU (sb_fitU h (fit_nar _)) (fit_nar _)
        · rw [if_neg c3]; exact sb_fitU (sb_fitU (sb_fitU h (fit_nar _)) (fit_nar _)) (fit_nar _)
    · rw [if_neg c1]
      exact ih _ _ _ (sb_fitU (sb_fitU h (fit_nar _)) (fit_nar _))
theorem fitL24 : ∀ (n : Nat) (xx : Int64) (pp ss : Int32) (bt : Nat → Int32), sb_Fit bt → sb_Fit (wJ13_getChars_11360_24 n xx pp ss bt).2 := by
  intro n
  induction n with
  | zero => intro xx pp ss bt h; exact h
  | succ n ih =>
    intro xx pp ss bt h
    rw [wJ13_getChars_11360_24]
    by_cases c1 : 0 < lg_cmp xx (-2147483648)
    · rw [if_pos c1]; exact fitL86 _ _ _ _ h
    · rw [if_neg c1]
      exact ih _ _ _ _ (sb_fitU (sb_fitU h (fit_nar _)) (fit_nar _))
theorem fitL {bt : Nat → Int32} (a : Int64) (b : Int32) (h : sb_Fit bt) : sb_Fit (v_J13_getChars_11360 bt a b).2 := by
  unfold v_J13_getChars_11360
  by_cases c : 0 ≤ lg_cmp a 0
  · rw [if_pos c]; exact fitL24 _ _ _ _ _ h
  · rw [if_neg c]; exact fitL24 _ _ _ _ _ h
