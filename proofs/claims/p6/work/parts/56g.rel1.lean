/-! method by method: cards -/
section RLS
variable {sp dy cr dr pl : Nat → TR} {la re rf : Int32} {pz : Nat}
/-- so many, or far more -/
def far (a b : Int32) : Int64 := if b = 0 then a.toInt64 else 4000000000 * a.toInt64
theorem how_far (a b : Int32) : v_X2_howMany a b = far a b := by
  unfold v_X2_howMany far
  by_cases c : b = 0
  · rw [if_pos c, if_pos c]
  · rw [if_neg c, if_neg c, Int64.mul_comm]
theorem far_p (x : Int64) : (1 : Int32).toInt64 * x = x := by
  have e : (1 : Int32).toInt64 = 1 := by decide
  rw [e, Int64.one_mul]
theorem far_m (x y : Int64) : x - y = x + (-1 : Int32).toInt64 * y := by
  have e : (-1 : Int32).toInt64 = -1 := by decide
  rw [e, sub_mi]
theorem rl_write {a1 a2 a3 a4 : Int32} (hR : Rq sp dy la re cr dr rf pl pz) : RO (x_X2_write a1) (v_X4_write cr rf a1 a2 a3 a4).2.2.1 (v_X2_write sp re a1 a2 a3 a4).1 (v_X4_write cr rf a1 a2 a3 a4).1 (Rq (v_X2_write sp re a1 a2 a3 a4).2.1 dy la (v_X2_write sp re a1 a2 a3 a4).2.2 (v_X4_write cr rf a1 a2 a3 a4).2.1 dr (v_X4_write cr rf a1 a2 a3 a4).2.2.2 pl pz) (Rq sp dy la re (v_X4_write cr rf a1 a2 a3 a4).2.1 dr (v_X4_write cr rf a1 a2 a3 a4).2.2.2 pl pz) := by
  have hE := hR.1
  rcases ca_cs a1 with ⟨h1, h2, h3⟩ | ⟨h1, h2⟩
  · refine pa_c (v := v_X4_span a2.toInt64 a3.toInt64 a4.toInt64) hR h3 (by unfold x_X2_write; rw [h2]; rfl) ?_ ?_
    · unfold v_X2_write
      rw [pe3, put_eq]
      exact act_c (by omega)
    · unfold v_X4_write; rw [pe4]; unfold v_X4_written
      rw [if_pos h1]
      exact om_get
  · have e : v_X4_write cr rf a1 a2 a3 a4 = (0, cr, 1, rf) := by
      unfold v_X4_write; rw [pe4]; unfold v_X4_written
      rw [if_neg h1]
    rw [e]
    exact RO_no (E := iobN) (by unfold x_X2_write; rw [h2]; rfl) rfl hR
theorem rl_ofYears {a1 a2 : Int32} (hR : Rq sp dy la re cr dr rf pl pz) : RO (x_X2_ofYears a1) (v_X4_ofYears cr rf a1 a2).2.2.1 (v_X2_ofYears sp re a1 a2).1 (v_X4_ofYears cr rf a1 a2).1 (Rq (v_X2_ofYears sp re a1 a2).2.1 dy la (v_X2_ofYears sp re a1 a2).2.2 (v_X4_ofYears cr rf a1 a2).2.1 dr (v_X4_ofYears cr rf a1 a2).2.2.2 pl pz) (Rq sp dy la re (v_X4_ofYears cr rf a1 a2).2.1 dr (v_X4_ofYears cr rf a1 a2).2.2.2 pl pz) := by
  have hE := hR.1
  rcases ca_cs a1 with ⟨h1, h2, h3⟩ | ⟨h1, h2⟩
  · refine pa_c (v := v_X4_span a2.toInt64 0 0) hR h3 (by unfold x_X2_ofYears; rw [h2]; rfl) ?_ ?_
    · unfold v_X2_ofYears
      rw [pe3, put_eq]
      exact act_c (by omega)
    · unfold v_X4_ofYears; rw [pe4]; unfold v_X4_written
      rw [if_pos h1]
      exact om_get
  · have e : v_X4_ofYears cr rf a1 a2 = (0, cr, 1, rf) := by
      unfold v_X4_ofYears; rw [pe4]; unfold v_X4_written
      rw [if_neg h1]
    rw [e]
    exact RO_no (E := iobN) (by unfold x_X2_ofYears; rw [h2]; rfl) rfl hR
theorem rl_ofMonths {a1 a2 : Int32} (hR : Rq sp dy la re cr dr rf pl pz) : RO (x_X2_ofMonths a1) (v_X4_ofMonths cr rf a1 a2).2.2.1 (v_X2_ofMonths sp re a1 a2).1 (v_X4_ofMonths cr rf a1 a2).1 (Rq (v_X2_ofMonths sp re a1 a2).2.1 dy la (v_X2_ofMonths sp re a1 a2).2.2 (v_X4_ofMonths cr rf a1 a2).2.1 dr (v_X4_ofMonths cr rf a1 a2).2.2.2 pl pz) (Rq sp dy la re (v_X4_ofMonths cr rf a1 a2).2.1 dr (v_X4_ofMonths cr rf a1 a2).2.2.2 pl pz) := by
  have hE := hR.1
  rcases ca_cs a1 with ⟨h1, h2, h3⟩ | ⟨h1, h2⟩
  · refine pa_c (v := v_X4_span 0 a2.toInt64 0) hR h3 (by unfold x_X2_ofMonths; rw [h2]; rfl) ?_ ?_
    · unfold v_X2_ofMonths
      rw [pe3, put_eq]
      exact act_c (by omega)
    · unfold v_X4_ofMonths; rw [pe4]; unfold v_X4_written
      rw [if_pos h1]
      exact om_get
  · have e : v_X4_ofMonths cr rf a1 a2 = (0, cr, 1, rf) := by
      unfold v_X4_ofMonths; rw [pe4]; unfold v_X4_written
      rw [if_neg h1]
    rw [e]
    exact RO_no (E := iobN) (by unfold x_X2_ofMonths; rw [h2]; rfl) rfl hR
theorem rl_ofWeeks {a1 a2 : Int32} (hR : Rq sp dy la re cr dr rf pl pz) : RO (x_X2_ofWeeks a1) (v_X4_ofWeeks cr rf a1 a2).2.2.1 (v_X2_ofWeeks sp re a1 a2).1 (v_X4_ofWeeks cr rf a1 a2).1 (Rq (v_X2_ofWeeks sp re a1 a2).2.1 dy la (v_X2_ofWeeks sp re a1 a2).2.2 (v_X4_ofWeeks cr rf a1 a2).2.1 dr (v_X4_ofWeeks cr rf a1 a2).2.2.2 pl pz) (Rq sp dy la re (v_X4_ofWeeks cr rf a1 a2).2.1 dr (v_X4_ofWeeks cr rf a1 a2).2.2.2 pl pz) := by
  have hE := hR.1
  rcases ca_cs a1 with ⟨h1, h2, h3⟩ | ⟨h1, h2⟩
  · refine pa_c (v := v_X4_span 0 0 (7 * a2.toInt64)) hR h3 (by unfold x_X2_ofWeeks; rw [h2]; rfl) ?_ ?_
    · unfold v_X2_ofWeeks
      rw [pe3, put_eq, Int64.mul_comm a2.toInt64 7]
      exact act_c (by omega)
    · unfold v_X4_ofWeeks; rw [pe4]; unfold v_X4_written
      rw [if_pos h1]
      exact om_get
  · have e : v_X4_ofWeeks cr rf a1 a2 = (0, cr, 1, rf) := by
      unfold v_X4_ofWeeks; rw [pe4]; unfold v_X4_written
      rw [if_neg h1]
    rw [e]
    exact RO_no (E := iobN) (by unfold x_X2_ofWeeks; rw [h2]; rfl) rfl hR
theorem rl_ofDays {a1 a2 : Int32} (hR : Rq sp dy la re cr dr rf pl pz) : RO (x_X2_ofDays a1) (v_X4_ofDays cr rf a1 a2).2.2.1 (v_X2_ofDays sp re a1 a2).1 (v_X4_ofDays cr rf a1 a2).1 (Rq (v_X2_ofDays sp re a1 a2).2.1 dy la (v_X2_ofDays sp re a1 a2).2.2 (v_X4_ofDays cr rf a1 a2).2.1 dr (v_X4_ofDays cr rf a1 a2).2.2.2 pl pz) (Rq sp dy la re (v_X4_ofDays cr rf a1 a2).2.1 dr (v_X4_ofDays cr rf a1 a2).2.2.2 pl pz) := by
  have hE := hR.1
  rcases ca_cs a1 with ⟨h1, h2, h3⟩ | ⟨h1, h2⟩
  · refine pa_c (v := v_X4_span 0 0 a2.toInt64) hR h3 (by unfold x_X2_ofDays; rw [h2]; rfl) ?_ ?_
    · unfold v_X2_ofDays
      rw [pe3, put_eq]
      exact act_c (by omega)
    · unfold v_X4_ofDays; rw [pe4]; unfold v_X4_written
      rw [if_pos h1]
      exact om_get
  · have e : v_X4_ofDays cr rf a1 a2 = (0, cr, 1, rf) := by
      unfold v_X4_ofDays; rw [pe4]; unfold v_X4_written
      rw [if_neg h1]
    rw [e]
    exact RO_no (E := iobN) (by unfold x_X2_ofDays; rw [h2]; rfl) rfl hR
theorem rl_plusYears {a1 a2 a3 : Int32} (hR : Rq sp dy la re cr dr rf pl pz) : RO (x_X2_plusYears a1) (v_X4_plusYears cr rf a1 a2 a3).2.2.1 (v_X2_plusYears sp re a1 a2 a3).1 (v_X4_plusYears cr rf a1 a2 a3).1 (Rq (v_X2_plusYears sp re a1 a2 a3).2.1 dy la (v_X2_plusYears sp re a1 a2 a3).2.2 (v_X4_plusYears cr rf a1 a2 a3).2.1 dr (v_X4_plusYears cr rf a1 a2 a3).2.2.2 pl pz) (Rq sp dy la re (v_X4_plusYears cr rf a1 a2 a3).2.1 dr (v_X4_plusYears cr rf a1 a2 a3).2.2.2 pl pz) := by
  have hE := hR.1
  rcases ca_cs a1 with ⟨h1, h2, h3⟩ | ⟨h1, h2⟩
  · refine pa_c (v := v_X4_span ((cr a1.toNatClampNeg).1.toInt64 + (1 : Int32).toInt64 * far a2 a3) ((cr a1.toNatClampNeg).2.1.toInt64 + 0) ((cr a1.toNatClampNeg).2.2.toInt64 + 0)) hR h3 (by unfold x_X2_plusYears; rw [h2]; rfl) ?_ ?_
    · unfold v_X2_plusYears
      rw [pe3, put_eq, hE _ h3, how_far, Int64.add_zero, Int64.add_zero, far_p]
      exact act_c (by omega)
    · unfold v_X4_plusYears; rw [pe4]; unfold v_X4_moreOf
      rw [if_pos h1]
      by_cases c : a3 = 0
      · rw [if_pos c, if_pos (show (0 : Int32) = 0 from rfl), if_neg (show ¬ (0 : Int32) = 1 by decide), if_neg (show ¬ (0 : Int32) = 2 by decide), show a2.toInt64 = far a2 a3 from (if_pos c).symm]
        exact om_get
      · rw [if_neg c, if_pos (show (0 : Int32) = 0 from rfl), if_neg (show ¬ (0 : Int32) = 1 by decide), if_neg (show ¬ (0 : Int32) = 2 by decide), show 4000000000 * a2.toInt64 = far a2 a3 from (if_neg c).symm]
        exact om_get
  · have e : v_X4_plusYears cr rf a1 a2 a3 = (0, cr, 1, rf) := by
      unfold v_X4_plusYears; rw [pe4]; unfold v_X4_moreOf
      rw [if_neg h1]
    rw [e]
    exact RO_no (E := iobN) (by unfold x_X2_plusYears; rw [h2]; rfl) rfl hR
theorem rl_plusMonths {a1 a2 a3 : Int32} (hR : Rq sp dy la re cr dr rf pl pz) : RO (x_X2_plusMonths a1) (v_X4_plusMonths cr rf a1 a2 a3).2.2.1 (v_X2_plusMonths sp re a1 a2 a3).1 (v_X4_plusMonths cr rf a1 a2 a3).1 (Rq (v_X2_plusMonths sp re a1 a2 a3).2.1 dy la (v_X2_plusMonths sp re a1 a2 a3).2.2 (v_X4_plusMonths cr rf a1 a2 a3).2.1 dr (v_X4_plusMonths cr rf a1 a2 a3).2.2.2 pl pz) (Rq sp dy la re (v_X4_plusMonths cr rf a1 a2 a3).2.1 dr (v_X4_plusMonths cr rf a1 a2 a3).2.2.2 pl pz) := by
  have hE := hR.1
  rcases ca_cs a1 with ⟨h1, h2, h3⟩ | ⟨h1, h2⟩
  · refine pa_c (v := v_X4_span ((cr a1.toNatClampNeg).1.toInt64 + 0) ((cr a1.toNatClampNeg).2.1.toInt64 + (1 : Int32).toInt64 * far a2 a3) ((cr a1.toNatClampNeg).2.2.toInt64 + 0)) hR h3 (by unfold x_X2_plusMonths; rw [h2]; rfl) ?_ ?_
    · unfold v_X2_plusMonths
      rw [pe3, put_eq, hE _ h3, how_far, Int64.add_zero, Int64.add_zero, far_p]
      exact act_c (by omega)
    · unfold v_X4_plusMonths; rw [pe4]; unfold v_X4_moreOf
      rw [if_pos h1]
      by_cases c : a3 = 0
      · rw [if_pos c, if_neg (show ¬ (1 : Int32) = 0 by decide), if_pos (show (1 : Int32) = 1 from rfl), if_neg (show ¬ (1 : Int32) = 2 by decide), show a2.toInt64 = far a2 a3 from (if_pos c).symm]
        exact om_get
      · rw [if_neg c, if_neg (show ¬ (1 : Int32) = 0 by decide), if_pos (show (1 : Int32) = 1 from rfl), if_neg (show ¬ (1 : Int32) = 2 by decide), show 4000000000 * a2.toInt64 = far a2 a3 from (if_neg c).symm]
        exact om_get
  · have e : v_X4_plusMonths cr rf a1 a2 a3 = (0, cr, 1, rf) := by
      unfold v_X4_plusMonths; rw [pe4]; unfold v_X4_moreOf
      rw [if_neg h1]
    rw [e]
    exact RO_no (E := iobN) (by unfold x_X2_plusMonths; rw [h2]; rfl) rfl hR
theorem rl_plusDays {a1 a2 a3 : Int32} (hR : Rq sp dy la re cr dr rf pl pz) : RO (x_X2_plusDays a1) (v_X4_plusDays cr rf a1 a2 a3).2.2.1 (v_X2_plusDays sp re a1 a2 a3).1 (v_X4_plusDays cr rf a1 a2 a3).1 (Rq (v_X2_plusDays sp re a1 a2 a3).2.1 dy la (v_X2_plusDays sp re a1 a2 a3).2.2 (v_X4_plusDays cr rf a1 a2 a3).2.1 dr (v_X4_plusDays cr rf a1 a2 a3).2.2.2 pl pz) (Rq sp dy la re (v_X4_plusDays cr rf a1 a2 a3).2.1 dr (v_X4_plusDays cr rf a1 a2 a3).2.2.2 pl pz) := by
  have hE := hR.1
  rcases ca_cs a1 with ⟨h1, h2, h3⟩ | ⟨h1, h2⟩
  · refine pa_c (v := v_X4_span ((cr a1.toNatClampNeg).1.toInt64 + 0) ((cr a1.toNatClampNeg).2.1.toInt64 + 0) ((cr a1.toNatClampNeg).2.2.toInt64 + (1 : Int32).toInt64 * far a2 a3)) hR h3 (by unfold x_X2_plusDays; rw [h2]; rfl) ?_ ?_
    · unfold v_X2_plusDays
      rw [pe3, put_eq, hE _ h3, how_far, Int64.add_zero, Int64.add_zero, far_p]
      exact act_c (by omega)
    · unfold v_X4_plusDays; rw [pe4]; unfold v_X4_moreOf
      rw [if_pos h1]
      by_cases c : a3 = 0
      · rw [if_pos c, if_neg (show ¬ (2 : Int32) = 0 by decide), if_neg (show ¬ (2 : Int32) = 1 by decide), if_pos (show (2 : Int32) = 2 from rfl), show a2.toInt64 = far a2 a3 from (if_pos c).symm]
        exact om_get
      · rw [if_neg c, if_neg (show ¬ (2 : Int32) = 0 by decide), if_neg (show ¬ (2 : Int32) = 1 by decide), if_pos (show (2 : Int32) = 2 from rfl), show 4000000000 * a2.toInt64 = far a2 a3 from (if_neg c).symm]
        exact om_get
  · have e : v_X4_plusDays cr rf a1 a2 a3 = (0, cr, 1, rf) := by
      unfold v_X4_plusDays; rw [pe4]; unfold v_X4_moreOf
      rw [if_neg h1]
    rw [e]
    exact RO_no (E := iobN) (by unfold x_X2_plusDays; rw [h2]; rfl) rfl hR
theorem rl_minusYears {a1 a2 a3 : Int32} (hR : Rq sp dy la re cr dr rf pl pz) : RO (x_X2_minusYears a1) (v_X4_minusYears cr rf a1 a2 a3).2.2.1 (v_X2_minusYears sp re a1 a2 a3).1 (v_X4_minusYears cr rf a1 a2 a3).1 (Rq (v_X2_minusYears sp re a1 a2 a3).2.1 dy la (v_X2_minusYears sp re a1 a2 a3).2.2 (v_X4_minusYears cr rf a1 a2 a3).2.1 dr (v_X4_minusYears cr rf a1 a2 a3).2.2.2 pl pz) (Rq sp dy la re (v_X4_minusYears cr rf a1 a2 a3).2.1 dr (v_X4_minusYears cr rf a1 a2 a3).2.2.2 pl pz) := by
  have hE := hR.1
  rcases ca_cs a1 with ⟨h1, h2, h3⟩ | ⟨h1, h2⟩
  · refine pa_c (v := v_X4_span ((cr a1.toNatClampNeg).1.toInt64 + ((-1) : Int32).toInt64 * far a2 a3) ((cr a1.toNatClampNeg).2.1.toInt64 + 0) ((cr a1.toNatClampNeg).2.2.toInt64 + 0)) hR h3 (by unfold x_X2_minusYears; rw [h2]; rfl) ?_ ?_
    · unfold v_X2_minusYears
      rw [pe3, put_eq, hE _ h3, how_far, Int64.add_zero, Int64.add_zero, far_m]
      exact act_c (by omega)
    · unfold v_X4_minusYears; rw [pe4]; unfold v_X4_moreOf
      rw [if_pos h1]
      by_cases c : a3 = 0
      · rw [if_pos c, if_pos (show (0 : Int32) = 0 from rfl), if_neg (show ¬ (0 : Int32) = 1 by decide), if_neg (show ¬ (0 : Int32) = 2 by decide), show a2.toInt64 = far a2 a3 from (if_pos c).symm]
        exact om_get
      · rw [if_neg c, if_pos (show (0 : Int32) = 0 from rfl), if_neg (show ¬ (0 : Int32) = 1 by decide), if_neg (show ¬ (0 : Int32) = 2 by decide), show 4000000000 * a2.toInt64 = far a2 a3 from (if_neg c).symm]
        exact om_get
  · have e : v_X4_minusYears cr rf a1 a2 a3 = (0, cr, 1, rf) := by
      unfold v_X4_minusYears; rw [pe4]; unfold v_X4_moreOf
      rw [if_neg h1]
    rw [e]
    exact RO_no (E := iobN) (by unfold x_X2_minusYears; rw [h2]; rfl) rfl hR
theorem rl_minusMonths {a1 a2 a3 : Int32} (hR : Rq sp dy la re cr dr rf pl pz) : RO (x_X2_minusMonths a1) (v_X4_minusMonths cr rf a1 a2 a3).2.2.1 (v_X2_minusMonths sp re a1 a2 a3).1 (v_X4_minusMonths cr rf a1 a2 a3).1 (Rq (v_X2_minusMonths sp re a1 a2 a3).2.1 dy la (v_X2_minusMonths sp re a1 a2 a3).2.2 (v_X4_minusMonths cr rf a1 a2 a3).2.1 dr (v_X4_minusMonths cr rf a1 a2 a3).2.2.2 pl pz) (Rq sp dy la re (v_X4_minusMonths cr rf a1 a2 a3).2.1 dr (v_X4_minusMonths cr rf a1 a2 a3).2.2.2 pl pz) := by
  have hE := hR.1
  rcases ca_cs a1 with ⟨h1, h2, h3⟩ | ⟨h1, h2⟩
  · refine pa_c (v := v_X4_span ((cr a1.toNatClampNeg).1.toInt64 + 0) ((cr a1.toNatClampNeg).2.1.toInt64 + ((-1) : Int32).toInt64 * far a2 a3) ((cr a1.toNatClampNeg).2.2.toInt64 + 0)) hR h3 (by unfold x_X2_minusMonths; rw [h2]; rfl) ?_ ?_
    · unfold v_X2_minusMonths
      rw [pe3, put_eq, hE _ h3, how_far, Int64.add_zero, Int64.add_zero, far_m]
      exact act_c (by omega)
    · unfold v_X4_minusMonths; rw [pe4]; unfold v_X4_moreOf
      rw [if_pos h1]
      by_cases c : a3 = 0
      · rw [if_pos c, if_neg (show ¬ (1 : Int32) = 0 by decide), if_pos (show (1 : Int32) = 1 from rfl), if_neg (show ¬ (1 : Int32) = 2 by decide), show a2.toInt64 = far a2 a3 from (if_pos c).symm]
        exact om_get
      · rw [if_neg c, if_neg (show ¬ (1 : Int32) = 0 by decide), if_pos (show (1 : Int32) = 1 from rfl), if_neg (show ¬ (1 : Int32) = 2 by decide), show 4000000000 * a2.toInt64 = far a2 a3 from (if_neg c).symm]
        exact om_get
  · have e : v_X4_minusMonths cr rf a1 a2 a3 = (0, cr, 1, rf) := by
      unfold v_X4_minusMonths; rw [pe4]; unfold v_X4_moreOf
      rw [if_neg h1]
    rw [e]
    exact RO_no (E := iobN) (by unfold x_X2_minusMonths; rw [h2]; rfl) rfl hR
theorem rl_minusDays {a1 a2 a3 : Int32} (hR : Rq sp dy la re cr dr rf pl pz) : RO (x_X2_minusDays a1) (v_X4_minusDays cr rf a1 a2 a3).2.2.1 (v_X2_minusDays sp re a1 a2 a3).1 (v_X4_minusDays cr rf a1 a2 a3).1 (Rq (v_X2_minusDays sp re a1 a2 a3).2.1 dy la (v_X2_minusDays sp re a1 a2 a3).2.2 (v_X4_minusDays cr rf a1 a2 a3).2.1 dr (v_X4_minusDays cr rf a1 a2 a3).2.2.2 pl pz) (Rq sp dy la re (v_X4_minusDays cr rf a1 a2 a3).2.1 dr (v_X4_minusDays cr rf a1 a2 a3).2.2.2 pl pz) := by
  have hE := hR.1
  rcases ca_cs a1 with ⟨h1, h2, h3⟩ | ⟨h1, h2⟩
  · refine pa_c (v := v_X4_span ((cr a1.toNatClampNeg).1.toInt64 + 0) ((cr a1.toNatClampNeg).2.1.toInt64 + 0) ((cr a1.toNatClampNeg).2.2.toInt64 + ((-1) : Int32).toInt64 * far a2 a3)) hR h3 (by unfold x_X2_minusDays; rw [h2]; rfl) ?_ ?_
    · unfold v_X2_minusDays
      rw [pe3, put_eq, hE _ h3, how_far, Int64.add_zero, Int64.add_zero, far_m]
      exact act_c (by omega)
    · unfold v_X4_minusDays; rw [pe4]; unfold v_X4_moreOf
      rw [if_pos h1]
      by_cases c : a3 = 0
      · rw [if_pos c, if_neg (show ¬ (2 : Int32) = 0 by decide), if_neg (show ¬ (2 : Int32) = 1 by decide), if_pos (show (2 : Int32) = 2 from rfl), show a2.toInt64 = far a2 a3 from (if_pos c).symm]
        exact om_get
      · rw [if_neg c, if_neg (show ¬ (2 : Int32) = 0 by decide), if_neg (show ¬ (2 : Int32) = 1 by decide), if_pos (show (2 : Int32) = 2 from rfl), show 4000000000 * a2.toInt64 = far a2 a3 from (if_neg c).symm]
        exact om_get
  · have e : v_X4_minusDays cr rf a1 a2 a3 = (0, cr, 1, rf) := by
      unfold v_X4_minusDays; rw [pe4]; unfold v_X4_moreOf
      rw [if_neg h1]
    rw [e]
    exact RO_no (E := iobN) (by unfold x_X2_minusDays; rw [h2]; rfl) rfl hR
theorem rl_plus {a1 a2 : Int32} (hR : Rq sp dy la re cr dr rf pl pz) : RO (x_X2_plus a1 a2) (v_X4_plus cr rf a1 a2).2.2.1 (v_X2_plus sp re a1 a2).1 (v_X4_plus cr rf a1 a2).1 (Rq (v_X2_plus sp re a1 a2).2.1 dy la (v_X2_plus sp re a1 a2).2.2 (v_X4_plus cr rf a1 a2).2.1 dr (v_X4_plus cr rf a1 a2).2.2.2 pl pz) (Rq sp dy la re (v_X4_plus cr rf a1 a2).2.1 dr (v_X4_plus cr rf a1 a2).2.2.2 pl pz) := by
  have hE := hR.1
  rcases ca_cs a1 with ⟨h1, h2, h3⟩ | ⟨h1, h2⟩
  · rcases ca_cs a2 with ⟨g1, g2, g3⟩ | ⟨g1, g2⟩
    · refine pa_c (v := v_X4_sum (cr a1.toNatClampNeg) 1 (cr a2.toNatClampNeg)) hR h3 (by unfold x_X2_plus; rw [h2, g2]; rfl) ?_ ?_
      · unfold v_X2_plus
        rw [pe3, psum_eq, hE _ h3, hE _ g3]
        exact act_c (by omega)
      · unfold v_X4_plus
        rw [if_pos h1, if_pos g1]
        exact om_get
    · have e : v_X4_plus cr rf a1 a2 = (0, cr, 1, rf) := by
        unfold v_X4_plus
        rw [if_pos h1, if_neg g1]
      rw [e]
      exact RO_no (E := iobN) (by unfold x_X2_plus; rw [h2, g2]; rfl) rfl hR
  · have e : v_X4_plus cr rf a1 a2 = (0, cr, 1, rf) := by
      unfold v_X4_plus
      rw [if_neg h1]
    rw [e]
    exact RO_no (E := iobN) (by unfold x_X2_plus; rw [h2]; rfl) rfl hR
theorem rl_minus {a1 a2 : Int32} (hR : Rq sp dy la re cr dr rf pl pz) : RO (x_X2_minus a1 a2) (v_X4_minus cr rf a1 a2).2.2.1 (v_X2_minus sp re a1 a2).1 (v_X4_minus cr rf a1 a2).1 (Rq (v_X2_minus sp re a1 a2).2.1 dy la (v_X2_minus sp re a1 a2).2.2 (v_X4_minus cr rf a1 a2).2.1 dr (v_X4_minus cr rf a1 a2).2.2.2 pl pz) (Rq sp dy la re (v_X4_minus cr rf a1 a2).2.1 dr (v_X4_minus cr rf a1 a2).2.2.2 pl pz) := by
  have hE := hR.1
  rcases ca_cs a1 with ⟨h1, h2, h3⟩ | ⟨h1, h2⟩
  · rcases ca_cs a2 with ⟨g1, g2, g3⟩ | ⟨g1, g2⟩
    · refine pa_c (v := v_X4_sum (cr a1.toNatClampNeg) (-1) (cr a2.toNatClampNeg)) hR h3 (by unfold x_X2_minus; rw [h2, g2]; rfl) ?_ ?_
      · unfold v_X2_minus
        rw [pe3, pdif_eq, hE _ h3, hE _ g3]
        exact act_c (by omega)
      · unfold v_X4_minus
        rw [if_pos h1, if_pos g1]
        exact om_get
    · have e : v_X4_minus cr rf a1 a2 = (0, cr, 1, rf) := by
        unfold v_X4_minus
        rw [if_pos h1, if_neg g1]
      rw [e]
      exact RO_no (E := iobN) (by unfold x_X2_minus; rw [h2, g2]; rfl) rfl hR
  · have e : v_X4_minus cr rf a1 a2 = (0, cr, 1, rf) := by
      unfold v_X4_minus
      rw [if_neg h1]
    rw [e]
    exact RO_no (E := iobN) (by unfold x_X2_minus; rw [h2]; rfl) rfl hR
theorem rl_multipliedBy {a1 a2 : Int32} (hR : Rq sp dy la re cr dr rf pl pz) : RO (x_X2_multipliedBy a1) (v_X4_multipliedBy cr rf a1 a2).2.2.1 (v_X2_multipliedBy sp re a1 a2).1 (v_X4_multipliedBy cr rf a1 a2).1 (Rq (v_X2_multipliedBy sp re a1 a2).2.1 dy la (v_X2_multipliedBy sp re a1 a2).2.2 (v_X4_multipliedBy cr rf a1 a2).2.1 dr (v_X4_multipliedBy cr rf a1 a2).2.2.2 pl pz) (Rq sp dy la re (v_X4_multipliedBy cr rf a1 a2).2.1 dr (v_X4_multipliedBy cr rf a1 a2).2.2.2 pl pz) := by
  have hE := hR.1
  rcases ca_cs a1 with ⟨h1, h2, h3⟩ | ⟨h1, h2⟩
  · refine pa_c (v := v_X4_sum v_X4_nothing a2.toInt64 (cr a1.toNatClampNeg)) hR h3 (by unfold x_X2_multipliedBy; rw [h2]; rfl) ?_ ?_
    · unfold v_X2_multipliedBy
      rw [pe3, ptim_eq, hE _ h3]
      exact act_c (by omega)
    · unfold v_X4_multipliedBy
      rw [if_pos h1]
      exact om_get
  · have e : v_X4_multipliedBy cr rf a1 a2 = (0, cr, 1, rf) := by
      unfold v_X4_multipliedBy
      rw [if_neg h1]
    rw [e]
    exact RO_no (E := iobN) (by unfold x_X2_multipliedBy; rw [h2]; rfl) rfl hR
theorem rl_negated {a1 : Int32} (hR : Rq sp dy la re cr dr rf pl pz) : RO (x_X2_negated a1) (v_X4_negated cr rf a1).2.2.1 (v_X2_negated sp re a1).1 (v_X4_negated cr rf a1).1 (Rq (v_X2_negated sp re a1).2.1 dy la (v_X2_negated sp re a1).2.2 (v_X4_negated cr rf a1).2.1 dr (v_X4_negated cr rf a1).2.2.2 pl pz) (Rq sp dy la re (v_X4_negated cr rf a1).2.1 dr (v_X4_negated cr rf a1).2.2.2 pl pz) := by
  have hE := hR.1
  rcases ca_cs a1 with ⟨h1, h2, h3⟩ | ⟨h1, h2⟩
  · refine pa_c (v := v_X4_opposed (cr a1.toNatClampNeg)) hR h3 (by unfold x_X2_negated; rw [h2]; rfl) ?_ ?_
    · unfold v_X2_negated
      rw [pe3, popp_eq, hE _ h3]
      exact act_c (by omega)
    · unfold v_X4_negated
      rw [if_pos h1]
      exact om_get
  · have e : v_X4_negated cr rf a1 = (0, cr, 1, rf) := by
      unfold v_X4_negated
      rw [if_neg h1]
    rw [e]
    exact RO_no (E := iobN) (by unfold x_X2_negated; rw [h2]; rfl) rfl hR
theorem rl_normalized {a1 : Int32} (hR : Rq sp dy la re cr dr rf pl pz) : RO (x_X2_normalized a1) (v_X4_normalized cr rf a1).2.2.1 (v_X2_normalized sp re a1).1 (v_X4_normalized cr rf a1).1 (Rq (v_X2_normalized sp re a1).2.1 dy la (v_X2_normalized sp re a1).2.2 (v_X4_normalized cr rf a1).2.1 dr (v_X4_normalized cr rf a1).2.2.2 pl pz) (Rq sp dy la re (v_X4_normalized cr rf a1).2.1 dr (v_X4_normalized cr rf a1).2.2.2 pl pz) := by
  have hE := hR.1
  rcases ca_cs a1 with ⟨h1, h2, h3⟩ | ⟨h1, h2⟩
  · refine pa_c (v := v_X4_tidied (cr a1.toNatClampNeg)) hR h3 (by unfold x_X2_normalized; rw [h2]; rfl) ?_ ?_
    · unfold v_X2_normalized
      rw [pe3, ptid_eq, hE _ h3]
      exact act_c (by omega)
    · unfold v_X4_normalized
      rw [if_pos h1]
      exact om_get
  · have e : v_X4_normalized cr rf a1 = (0, cr, 1, rf) := by
      unfold v_X4_normalized
      rw [if_neg h1]
    rw [e]
    exact RO_no (E := iobN) (by unfold x_X2_normalized; rw [h2]; rfl) rfl hR
end RLS
