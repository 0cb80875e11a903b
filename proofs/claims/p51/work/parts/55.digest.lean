set_option maxHeartbeats 16000000 in
set_option maxRecDepth 100000 in
theorem c_X4_ofCards (l : Launch) (g : GG) (N : Nat) (ad : Nat → Nat) (y : Nat → va_E) (cr dr : Nat → TR) (th kn rf : Int32) (pl : Nat → TR) (pz : Nat) (mc : Int32) (hN : 36 + pz ≤ N) (b0 : Nat) (hb0 : ad 24 = b0) (b1 : Int64) (hz : pz ≤ 9) : KL l yX4_ofCards cX4_ofCards 7 (rm 8 164 4044) g [.ref b0, .long b1] N ad (mg g ad y cr dr th kn rf pl pz mc) N (fun r ad' f' => ad = ad' ∧ mg g ad y cr dr th kn rf pl pz mc = f') := by
  intro sz
  refine mt_start (by decide) (Nat.le_of_ble_eq_true rfl) ?_
  intro p e s m args below meth c hsz X hr hnam hA hK hT H locs B ls hl
  obtain ⟨hx, hb, hml, hown, hts, hlocks⟩ := id X
  have hl : lv_has ls 7 [(0, .ref b0), (1, .long b1)] := hl
  refine lv_lload_n hx hb dX4_ofCards_0 rfl (lv_at hl 1 rfl) ?_
  refine lv_lstore_n (lv' := [(3, .long b1), (0, .ref b0), (1, .long b1)]) hx hb dX4_ofCards_1 rfl hl (by decide) rfl (fun ls hl => ?_)
  refine lv_iconst (v := 0) hx hb dX4_ofCards_2 (by decide) ?_
  refine lv_istore (lv' := [(5, .int 0), (3, .long b1), (0, .ref b0), (1, .long b1)]) hx hb dX4_ofCards_3 hl (by decide) rfl (fun ls hl => ?_)
  have loop1 : ∀ (n1 : Nat) (ca : Int32) (dd : Int64) (C1 : Nat) (S1 : Nat) (H : Heap) (locs : List Loc), C1 + n1 * 22 ≤ 110 → S1 + n1 * 510 ≤ 2550 → ((4 : Int32).toInt - ca.toInt).toNat < n1 → ¬ ca < 0 → WB g (aw N ad sz) s.heap N ad (mg g ad y cr dr th kn rf pl pz mc) H locs → ∀ ls : Array Slot, lv_has ls 7 [(5, .int ca), (3, .long dd), (0, .ref b0), (1, .long b1)] → W p l e (rm 8 164 4044) s m args below meth c H locs C1 S1 (MQ below (va_Ql (fun r (u : WS) => (fun r ad' f' => ad = ad' ∧ mg g ad y cr dr th kn rf pl pz mc = f') r u.1 u.2) (fun u t => PO g N u.1 u.2 (aw N ad sz) t) (aw N ad sz)) args s (rm 8 164 4044).cells (rm 8 164 4044).slots (aw N ad sz)) (F0 m 5 ls []) := by
    intro n1
    induction n1 with
    | zero => intro ca dd C1 S1 H locs _ _ hn; exact absurd hn (Nat.not_lt_zero _)
    | succ n1 ih1 =>
      intro ca dd C1 S1 H locs hC1 hS1 hn1 hzca B ls hl
      refine lv_iload hx hb dX4_ofCards_5 (lv_at hl 0 rfl) ?_
      refine lv_iconst (v := 4) hx hb dX4_ofCards_7 (by decide) ?_
      refine lv_icmp_ge (tgt := 148) hx hb dX4_ofCards_8 (by decide) (fun c2 => ?_) (fun c2 => ?_)
      · refine W.widen (show (C1 + 0) ≤ 110 by omega) (show (S1 + 0) ≤ 2550 by omega) ?_
        refine lv_iconst (v := 0) hx hb dX4_ofCards_148 (by decide) ?_
        refine lv_istore (lv' := [(5, .int 0), (3, .long dd), (0, .ref b0), (1, .long b1)]) hx hb dX4_ofCards_149 hl (by decide) rfl (fun ls hl => ?_)
        have loop3 : ∀ (n3 : Nat) (cb : Int32) (df : Int64) (C3 : Nat) (S3 : Nat) (H : Heap) (locs : List Loc), C3 + n3 * 0 ≤ 110 → S3 + n3 * 0 ≤ 2550 → ((4 : Int32).toInt - cb.toInt).toNat < n3 → ¬ cb < 0 → WB g (aw N ad sz) s.heap N ad (mg g ad y cr dr th kn rf pl pz mc) H locs → ∀ ls : Array Slot, lv_has ls 7 [(5, .int cb), (3, .long df), (0, .ref b0), (1, .long b1)] → W p l e (rm 8 164 4044) s m args below meth c H locs C3 S3 (MQ below (va_Ql (fun r (u : WS) => (fun r ad' f' => ad = ad' ∧ mg g ad y cr dr th kn rf pl pz mc = f') r u.1 u.2) (fun u t => PO g N u.1 u.2 (aw N ad sz) t) (aw N ad sz)) args s (rm 8 164 4044).cells (rm 8 164 4044).slots (aw N ad sz)) (F0 m 151 ls []) := by
          intro n3
          induction n3 with
          | zero => intro cb df C3 S3 H locs _ _ hn; exact absurd hn (Nat.not_lt_zero _)
          | succ n3 ih3 =>
            intro cb df C3 S3 H locs hC3 hS3 hn3 hzcb B ls hl
            refine lv_iload hx hb dX4_ofCards_151 (lv_at hl 0 rfl) ?_
            refine lv_iconst (v := 4) hx hb dX4_ofCards_153 (by decide) ?_
            refine lv_icmp_ge (tgt := 228) hx hb dX4_ofCards_154 (by decide) (fun c4 => ?_) (fun c4 => ?_)
            · refine W.widen (show (C3 + 0) ≤ 110 by omega) (show (S3 + 0) ≤ 2550 by omega) ?_
              refine lv_iconst (v := 0) hx hb dX4_ofCards_228 (by decide) ?_
              refine lv_istore (lv' := [(5, .int 0), (3, .long df), (0, .ref b0), (1, .long b1)]) hx hb dX4_ofCards_229 hl (by decide) rfl (fun ls hl => ?_)
              have loop5 : ∀ (n5 : Nat) (pk : Int32) (dh : Int64) (C5 : Nat) (S5 : Nat) (H : Heap) (locs : List Loc), C5 + n5 * 6 ≤ 164 → S5 + n5 * 166 ≤ 4044 → ((8 : Int32).toInt - pk.toInt).toNat < n5 → ¬ pk < 0 → WB g (aw N ad sz) s.heap N ad (mg g ad y cr dr th kn rf pl pz mc) H locs → ∀ ls : Array Slot, lv_has ls 7 [(5, .int pk), (3, .long dh), (0, .ref b0), (1, .long b1)] → W p l e (rm 8 164 4044) s m args below meth c H locs C5 S5 (MQ below (va_Ql (fun r (u : WS) => (fun r ad' f' => ad = ad' ∧ mg g ad y cr dr th kn rf pl pz mc = f') r u.1 u.2) (fun u t => PO g N u.1 u.2 (aw N ad sz) t) (aw N ad sz)) args s (rm 8 164 4044).cells (rm 8 164 4044).slots (aw N ad sz)) (F0 m 231 ls []) := by
                intro n5
                induction n5 with
                | zero => intro pk dh C5 S5 H locs _ _ hn; exact absurd hn (Nat.not_lt_zero _)
                | succ n5 ih5 =>
                  intro pk dh C5 S5 H locs hC5 hS5 hn5 hzpk B ls hl
                  refine lv_iload hx hb dX4_ofCards_231 (lv_at hl 0 rfl) ?_
                  refine lv_bipush (v := 8) hx hb dX4_ofCards_233 (by decide) ?_
                  refine lv_icmp_ge (tgt := 259) hx hb dX4_ofCards_235 (by decide) (fun c6 => ?_) (fun c6 => ?_)
                  · refine W.widen (show (C5 + 0) ≤ 164 by omega) (show (S5 + 0) ≤ 4044 by omega) ?_
                    refine lv_lload_n hx hb dX4_ofCards_259 rfl (lv_at hl 1 rfl) ?_
                    exact rt_l X hr (ad, mg g ad y cr dr th kn rf pl pz mc) B (PO_of B) ⟨rfl, rfl⟩ (Nat.le_of_ble_eq_true rfl) (Nat.le_of_ble_eq_true rfl) dX4_ofCards_260
                  · refine lv_lload_n hx hb dX4_ofCards_238 rfl (lv_at hl 1 rfl) ?_
                    refine lv_aload_n hx hb dX4_ofCards_239 rfl (lv_at hl 2 rfl) ?_
                    refine lv_iload hx hb dX4_ofCards_240 (lv_at hl 0 rfl) ?_
                    by_cases sn7 : (v_X4_isIn pk.toInt64 0 (((Int32.ofNat (pz - 1)) - 1).toInt64)) = 0
                    · refine k_r (k := (C5 + 0)) (n := (S5 + 0)) hA B (b_V (q := 24) (rest := [.long dh]) hb0 X (c_X4_piledNowN l g N ad y cr dr th kn rf pl pz mc (by omega) b0 hb0 pk hz sn7 H.size) mw_X4_piledNow md_X4_piledNow rfl lk_X4_149 ⟨Nat.le_of_ble_eq_true rfl, Nat.le_of_ble_eq_true rfl⟩ hA hK hT B (by omega) mg_24 rfl rfl hl.1 rfl (Nat.le_of_ble_eq_true rfl) dX4_ofCards_242 (by dsimp only [rm]; omega)) (by dsimp only [rm]; omega) (by dsimp only [rm]; omega) (fun r ad' f' H locs hw B => ?_)
                      obtain ⟨rfl, rfl, rfl⟩ := hw
                      refine k_i (k := (C5 + 0)) (n := (S5 + 0)) hA B (u_K (rest := [.long dh]) (by decide) X (c_K_len l g N ad (mg g ad y cr dr th kn rf pl pz mc) 10 (by decide) H.size) mw_J0_length_8abf5 rfl md_J0_length_8abf5 rfl lk_X4_269 ⟨Nat.le_of_ble_eq_true rfl, Nat.le_of_ble_eq_true rfl⟩ hA hK hT B hl.1 rfl (Nat.le_of_ble_eq_true rfl) dX4_ofCards_245 (by dsimp only [rm]; omega)) (by dsimp only [rm]; omega) (by dsimp only [rm]; omega) (fun r ad' f' H locs hw B => ?_)
                      obtain ⟨rfl, rfl, rfl⟩ := hw
                      refine lv_i2l (v := (nI (st_len.getD 10 0)).toInt64) hx hb dX4_ofCards_248 rfl ?_
                      refine k_l (k := (C5 + 0)) (n := (S5 + 0)) hA B (u_S (rest := []) X (c_X4_add l g N ad (mg g ad y cr dr th kn rf pl pz mc) dh ((nI (st_len.getD 10 0)).toInt64) H.size) mw_X4_add md_X4_add rfl lk_X4_266 ⟨Nat.le_of_ble_eq_true rfl, Nat.le_of_ble_eq_true rfl⟩ hA hK hT B hl.1 rfl (Nat.le_of_ble_eq_true rfl) dX4_ofCards_249 (by dsimp only [rm]; omega)) (by dsimp only [rm]; omega) (by dsimp only [rm]; omega) (fun r9 ad9 f' H locs hw B => ?_)
                      obtain ⟨rfl, rfl, rfl⟩ := hw
                      refine lv_lstore_n (lv' := [(3, .long (v_X4_add dh ((nI (st_len.getD 10 0)).toInt64))), (5, .int pk), (0, .ref b0), (1, .long b1)]) hx hb dX4_ofCards_252 rfl hl (by decide) rfl (fun ls hl => ?_)
                      refine lv_iinc (v := pk + 1) (lv' := [(5, .int (pk + 1)), (3, .long (v_X4_add dh ((nI (st_len.getD 10 0)).toInt64))), (0, .ref b0), (1, .long b1)]) hx hb dX4_ofCards_253 hl (k := 1) rfl rfl (by decide) rfl (fun ls hl => ?_)
                      refine lv_goto (tgt := 231) hx hb dX4_ofCards_256 (by decide) ?_
                      exact ih5 (pk + 1) (v_X4_add dh ((nI (st_len.getD 10 0)).toInt64)) (C5 + 0) (S5 + 0) H locs (by omega) (by omega) (fu_le c6 hn5) (inc_nn hzpk c6) B ls (lv_sub hl [0, 1, 2, 3] rfl)
                    · refine k_r (k := (C5 + 6)) (n := (S5 + 166)) hA B (b_V (q := 24) (rest := [.long dh]) hb0 X (c_X4_piledNowY l g N ad y cr dr th kn rf pl pz mc (by omega) b0 hb0 pk hz sn7 H.size) mw_X4_piledNow md_X4_piledNow rfl lk_X4_149 ⟨Nat.le_of_ble_eq_true rfl, Nat.le_of_ble_eq_true rfl⟩ hA hK hT B (by omega) mg_24 rfl rfl hl.1 rfl (Nat.le_of_ble_eq_true rfl) dX4_ofCards_242 (by dsimp only [rm]; omega)) (by dsimp only [rm]; omega) (by dsimp only [rm]; omega) (fun r ad' f' H locs hw B => ?_)
                      dsimp only at hw
                      obtain ⟨a8, a8x, h8, hF8, rfl, rfl, rfl⟩ := hw
                      have B : WB g (aw N ad sz) s.heap (N + 1 + 1) (va_up (va_up ad N a8) (N + 1) a8x) (mg g (va_up (va_up ad N a8) (N + 1) a8x) (va_up (va_up y N (c_st a8x)) (N + 1) (c_ba g (tlen (pl pk.toNatClampNeg)) h8)) cr dr th kn rf pl pz mc) H locs := B
                      refine k_i (k := (C5 + 6)) (n := (S5 + 166)) hA B (b_V (q := N) (rest := [.long dh]) ((up_lt (by omega)).trans up_eq) X (c_W_len l g (N + 1 + 1) (va_up (va_up ad N a8) (N + 1) a8x) (mg g (va_up (va_up ad N a8) (N + 1) a8x) (va_up (va_up y N (c_st a8x)) (N + 1) (c_ba g (tlen (pl pk.toNatClampNeg)) h8)) cr dr th kn rf pl pz mc) N a8 (N + 1) a8x (tlen (pl pk.toNatClampNeg)) h8 (by omega) (by omega) ((up_lt (by omega)).trans up_eq) up_eq ((mg_hi (by omega)).trans ((up_lt (by omega)).trans up_eq)) ((mg_hi (by omega)).trans up_eq) H.size) mw_J0_length_8abf5 md_J0_length_8abf5 rfl lk_X4_269 ⟨Nat.le_of_ble_eq_true rfl, Nat.le_of_ble_eq_true rfl⟩ hA hK hT B (by omega) ((mg_hi (by omega)).trans ((up_lt (by omega)).trans up_eq)) rfl rfl hl.1 rfl (Nat.le_of_ble_eq_true rfl) dX4_ofCards_245 (by dsimp only [rm]; omega)) (by dsimp only [rm]; omega) (by dsimp only [rm]; omega) (fun r ad' f' H locs hw B => ?_)
                      obtain ⟨rfl, rfl, rfl⟩ := hw
                      have B : WB g (aw N ad sz) s.heap N ad (mg g ad y cr dr th kn rf pl pz mc) H locs := WM_drop B (by omega) (by omega) (fun _ hk => ((up_lt (Nat.lt_succ_of_lt hk)).trans (up_lt hk))) (fun _ hk => ((up_lt (Nat.lt_succ_of_lt hk)).trans (up_lt hk)))
                      refine lv_i2l (v := (nI (tlen (pl pk.toNatClampNeg))).toInt64) hx hb dX4_ofCards_248 rfl ?_
                      refine k_l (k := (C5 + 6)) (n := (S5 + 166)) hA B (u_S (rest := []) X (c_X4_add l g N ad (mg g ad y cr dr th kn rf pl pz mc) dh ((nI (tlen (pl pk.toNatClampNeg))).toInt64) H.size) mw_X4_add md_X4_add rfl lk_X4_266 ⟨Nat.le_of_ble_eq_true rfl, Nat.le_of_ble_eq_true rfl⟩ hA hK hT B hl.1 rfl (Nat.le_of_ble_eq_true rfl) dX4_ofCards_249 (by dsimp only [rm]; omega)) (by dsimp only [rm]; omega) (by dsimp only [rm]; omega) (fun r10 ad10 f' H locs hw B => ?_)
                      obtain ⟨rfl, rfl, rfl⟩ := hw
                      refine lv_lstore_n (lv' := [(3, .long (v_X4_add dh ((nI (tlen (pl pk.toNatClampNeg))).toInt64))), (5, .int pk), (0, .ref b0), (1, .long b1)]) hx hb dX4_ofCards_252 rfl hl (by decide) rfl (fun ls hl => ?_)
                      refine lv_iinc (v := pk + 1) (lv' := [(5, .int (pk + 1)), (3, .long (v_X4_add dh ((nI (tlen (pl pk.toNatClampNeg))).toInt64))), (0, .ref b0), (1, .long b1)]) hx hb dX4_ofCards_253 hl (k := 1) rfl rfl (by decide) rfl (fun ls hl => ?_)
                      refine lv_goto (tgt := 231) hx hb dX4_ofCards_256 (by decide) ?_
                      exact ih5 (pk + 1) (v_X4_add dh ((nI (tlen (pl pk.toNatClampNeg))).toInt64)) (C5 + 6) (S5 + 166) H locs (by omega) (by omega) (fu_le c6 hn5) (inc_nn hzpk c6) B ls (lv_sub hl [0, 1, 2, 3] rfl)
              have hT5 : 8 + 1 ≤ 9 := (by decide)
              exact loop5 (8 + 1) 0 df 110 2550 H locs (by first | exact Nat.le_refl _ | exact Nat.le_of_ble_eq_true rfl | omega) (by first | exact Nat.le_refl _ | exact Nat.le_of_ble_eq_true rfl | omega) (by decide) (by decide) B ls hl
            · refine lv_iconst (v := 0) hx hb dX4_ofCards_157 (by decide) ?_
              refine lv_istore (lv' := [(6, .int 0), (5, .int cb), (3, .long df), (0, .ref b0), (1, .long b1)]) hx hb dX4_ofCards_158 hl (by decide) rfl (fun ls hl => ?_)
              have loop11 : ∀ (n11 : Nat) (ce : Int32) (dg : Int64) (C11 : Nat) (S11 : Nat) (H : Heap) (locs : List Loc), C11 + n11 * 0 ≤ (C3 + 0) → S11 + n11 * 0 ≤ (S3 + 0) → ((4 : Int32).toInt - ce.toInt).toNat < n11 → ¬ ce < 0 → WB g (aw N ad sz) s.heap N ad (mg g ad y cr dr th kn rf pl pz mc) H locs → ∀ ls : Array Slot, lv_has ls 7 [(6, .int ce), (5, .int cb), (3, .long dg), (0, .ref b0), (1, .long b1)] → W p l e (rm 8 164 4044) s m args below meth c H locs C11 S11 (MQ below (va_Ql (fun r (u : WS) => (fun r ad' f' => ad = ad' ∧ mg g ad y cr dr th kn rf pl pz mc = f') r u.1 u.2) (fun u t => PO g N u.1 u.2 (aw N ad sz) t) (aw N ad sz)) args s (rm 8 164 4044).cells (rm 8 164 4044).slots (aw N ad sz)) (F0 m 160 ls []) := by
                intro n11
                induction n11 with
                | zero => intro ce dg C11 S11 H locs _ _ hn; exact absurd hn (Nat.not_lt_zero _)
                | succ n11 ih11 =>
                  intro ce dg C11 S11 H locs hC11 hS11 hn11 hzce B ls hl
                  refine lv_iload hx hb dX4_ofCards_160 (lv_at hl 0 rfl) ?_
                  refine lv_iconst (v := 4) hx hb dX4_ofCards_162 (by decide) ?_
                  refine lv_icmp_ge (tgt := 222) hx hb dX4_ofCards_163 (by decide) (fun c12 => ?_) (fun c12 => ?_)
                  · refine W.widen (show (C11 + 0) ≤ (C3 + 0) by omega) (show (S11 + 0) ≤ (S3 + 0) by omega) ?_
                    refine lv_iinc (v := cb + 1) (lv' := [(5, .int (cb + 1)), (6, .int ce), (3, .long dg), (0, .ref b0), (1, .long b1)]) hx hb dX4_ofCards_222 hl (k := 1) rfl rfl (by decide) rfl (fun ls hl => ?_)
                    refine lv_goto (tgt := 151) hx hb dX4_ofCards_225 (by decide) ?_
                    exact ih3 (cb + 1) dg (C3 + 0) (S3 + 0) H locs (by omega) (by omega) (fu_le c4 hn3) (inc_nn hzcb c4) B ls (lv_sub hl [0, 2, 3, 4] rfl)
                  · refine lv_lload_n hx hb dX4_ofCards_166 rfl (lv_at hl 2 rfl) ?_
                    refine lv_aload_n hx hb dX4_ofCards_167 rfl (lv_at hl 3 rfl) ?_
                    refine b_get (q := 24) (k := 1) hb0 X hK B rfl in_X4 (by omega) mg_24 (by decide) lk_X4_11 rfl rfl dX4_ofCards_168 ?_
                    refine lv_iload hx hb dX4_ofCards_171 (lv_at hl 1 rfl) ?_
                    refine b_aald (q := 25) (t0 := 2) (v := ad (28 + cb.toNatClampNeg)) rfl X hK B (by omega) mg_25 rfl rfl (ix_in (n := 4) hzcb c4 rfl) rfl dX4_ofCards_173 ?_
                    have g13 : cb.toNatClampNeg < 4 := (ix_lt (n := 4) hzcb c4 rfl)
                    refine lv_aload_n hx hb dX4_ofCards_174 rfl (lv_at hl 3 rfl) ?_
                    refine b_get (q := 24) (k := 1) hb0 X hK B rfl in_X4 (by omega) mg_24 (by decide) lk_X4_11 rfl rfl dX4_ofCards_175 ?_
                    refine lv_iload hx hb dX4_ofCards_178 (lv_at hl 0 rfl) ?_
                    refine b_aald (q := 25) (t0 := 2) (v := ad (28 + ce.toNatClampNeg)) rfl X hK B (by omega) mg_25 rfl rfl (ix_in (n := 4) hzce c12 rfl) rfl dX4_ofCards_180 ?_
                    have g14 : ce.toNatClampNeg < 4 := (ix_lt (n := 4) hzce c12 rfl)
                    refine k_i (k := (C11 + 0)) (n := (S11 + 0)) hA B (u_S (rest := [.long dg]) X (c_X4_isSame l g N ad (mg g ad y cr dr th kn rf pl pz mc) (28 + cb.toNatClampNeg) (ad (28 + cb.toNatClampNeg)) (cr cb.toNatClampNeg) (pl_cr hN g13) rfl (mg_cr g13) (28 + ce.toNatClampNeg) (ad (28 + ce.toNatClampNeg)) (cr ce.toNatClampNeg) (pl_cr hN g14) rfl (mg_cr g14) H.size) mw_X4_isSame md_X4_isSame rfl lk_X4_87 ⟨Nat.le_of_ble_eq_true rfl, Nat.le_of_ble_eq_true rfl⟩ hA hK hT B hl.1 rfl (Nat.le_of_ble_eq_true rfl) dX4_ofCards_181 (by dsimp only [rm]; omega)) (by dsimp only [rm]; omega) (by dsimp only [rm]; omega) (fun r15 ad15 f' H locs hw B => ?_)
                    obtain ⟨rfl, rfl, rfl⟩ := hw
                    refine k_i (k := (C11 + 0)) (n := (S11 + 0)) hA B (u_S (rest := [.long dg]) X (c_X4_one l g N ad (mg g ad y cr dr th kn rf pl pz mc) (v_X4_isSame (cr cb.toNatClampNeg) (cr ce.toNatClampNeg)) H.size) mw_X4_one md_X4_one rfl lk_X4_91 ⟨Nat.le_of_ble_eq_true rfl, Nat.le_of_ble_eq_true rfl⟩ hA hK hT B hl.1 rfl (Nat.le_of_ble_eq_true rfl) dX4_ofCards_184 (by dsimp only [rm]; omega)) (by dsimp only [rm]; omega) (by dsimp only [rm]; omega) (fun r16 ad16 f' H locs hw B => ?_)
                    obtain ⟨rfl, rfl, rfl⟩ := hw
                    refine lv_i2l (v := (v_X4_one (v_X4_isSame (cr cb.toNatClampNeg) (cr ce.toNatClampNeg))).toInt64) hx hb dX4_ofCards_187 rfl ?_
                    refine k_l (k := (C11 + 0)) (n := (S11 + 0)) hA B (u_S (rest := []) X (c_X4_add l g N ad (mg g ad y cr dr th kn rf pl pz mc) dg ((v_X4_one (v_X4_isSame (cr cb.toNatClampNeg) (cr ce.toNatClampNeg))).toInt64) H.size) mw_X4_add md_X4_add rfl lk_X4_266 ⟨Nat.le_of_ble_eq_true rfl, Nat.le_of_ble_eq_true rfl⟩ hA hK hT B hl.1 rfl (Nat.le_of_ble_eq_true rfl) dX4_ofCards_188 (by dsimp only [rm]; omega)) (by dsimp only [rm]; omega) (by dsimp only [rm]; omega) (fun r17 ad17 f' H locs hw B => ?_)
                    obtain ⟨rfl, rfl, rfl⟩ := hw
                    refine lv_aload_n hx hb dX4_ofCards_191 rfl (lv_at hl 3 rfl) ?_
                    refine b_get (q := 24) (k := 1) hb0 X hK B rfl in_X4 (by omega) mg_24 (by decide) lk_X4_11 rfl rfl dX4_ofCards_192 ?_
                    refine lv_iload hx hb dX4_ofCards_195 (lv_at hl 1 rfl) ?_
                    refine b_aald (q := 25) (t0 := 2) (v := ad (28 + cb.toNatClampNeg)) rfl X hK B (by omega) mg_25 rfl rfl (ix_in (n := 4) hzcb c4 rfl) rfl dX4_ofCards_197 ?_
                    have g18 : cb.toNatClampNeg < 4 := (ix_lt (n := 4) hzcb c4 rfl)
                    refine lv_aload_n hx hb dX4_ofCards_198 rfl (lv_at hl 3 rfl) ?_
                    refine b_get (q := 24) (k := 1) hb0 X hK B rfl in_X4 (by omega) mg_24 (by decide) lk_X4_11 rfl rfl dX4_ofCards_199 ?_
                    refine lv_iload hx hb dX4_ofCards_202 (lv_at hl 0 rfl) ?_
                    refine b_aald (q := 25) (t0 := 2) (v := ad (28 + ce.toNatClampNeg)) rfl X hK B (by omega) mg_25 rfl rfl (ix_in (n := 4) hzce c12 rfl) rfl dX4_ofCards_204 ?_
                    have g19 : ce.toNatClampNeg < 4 := (ix_lt (n := 4) hzce c12 rfl)
                    refine k_i (k := (C11 + 0)) (n := (S11 + 0)) hA B (u_S (rest := [.long (v_X4_add dg ((v_X4_one (v_X4_isSame (cr cb.toNatClampNeg) (cr ce.toNatClampNeg))).toInt64))]) X (c_X4_isAlike l g N ad (mg g ad y cr dr th kn rf pl pz mc) (28 + cb.toNatClampNeg) (ad (28 + cb.toNatClampNeg)) (cr cb.toNatClampNeg) (pl_cr hN g18) rfl (mg_cr g18) (28 + ce.toNatClampNeg) (ad (28 + ce.toNatClampNeg)) (cr ce.toNatClampNeg) (pl_cr hN g19) rfl (mg_cr g19) H.size) mw_X4_isAlike md_X4_isAlike rfl lk_X4_162 ⟨Nat.le_of_ble_eq_true rfl, Nat.le_of_ble_eq_true rfl⟩ hA hK hT B hl.1 rfl (Nat.le_of_ble_eq_true rfl) dX4_ofCards_205 (by dsimp only [rm]; omega)) (by dsimp only [rm]; omega) (by dsimp only [rm]; omega) (fun r20 ad20 f' H locs hw B => ?_)
                    obtain ⟨rfl, rfl, rfl⟩ := hw
                    refine k_i (k := (C11 + 0)) (n := (S11 + 0)) hA B (u_S (rest := [.long (v_X4_add dg ((v_X4_one (v_X4_isSame (cr cb.toNatClampNeg) (cr ce.toNatClampNeg))).toInt64))]) X (c_X4_one l g N ad (mg g ad y cr dr th kn rf pl pz mc) (v_X4_isAlike (cr cb.toNatClampNeg) (cr ce.toNatClampNeg)) H.size) mw_X4_one md_X4_one rfl lk_X4_91 ⟨Nat.le_of_ble_eq_true rfl, Nat.le_of_ble_eq_true rfl⟩ hA hK hT B hl.1 rfl (Nat.le_of_ble_eq_true rfl) dX4_ofCards_208 (by dsimp only [rm]; omega)) (by dsimp only [rm]; omega) (by dsimp only [rm]; omega) (fun r21 ad21 f' H locs hw B => ?_)
                    obtain ⟨rfl, rfl, rfl⟩ := hw
                    refine lv_i2l (v := (v_X4_one (v_X4_isAlike (cr cb.toNatClampNeg) (cr ce.toNatClampNeg))).toInt64) hx hb dX4_ofCards_211 rfl ?_
                    refine k_l (k := (C11 + 0)) (n := (S11 + 0)) hA B (u_S (rest := []) X (c_X4_add l g N ad (mg g ad y cr dr th kn rf pl pz mc) (v_X4_add dg ((v_X4_one (v_X4_isSame (cr cb.toNatClampNeg) (cr ce.toNatClampNeg))).toInt64)) ((v_X4_one (v_X4_isAlike (cr cb.toNatClampNeg) (cr ce.toNatClampNeg))).toInt64) H.size) mw_X4_add md_X4_add rfl lk_X4_266 ⟨Nat.le_of_ble_eq_true rfl, Nat.le_of_ble_eq_true rfl⟩ hA hK hT B hl.1 rfl (Nat.le_of_ble_eq_true rfl) dX4_ofCards_212 (by dsimp only [rm]; omega)) (by dsimp only [rm]; omega) (by dsimp only [rm]; omega) (fun r22 ad22 f' H locs hw B => ?_)
                    obtain ⟨rfl, rfl, rfl⟩ := hw
                    refine lv_lstore_n (lv' := [(3, .long (v_X4_add (v_X4_add dg ((v_X4_one (v_X4_isSame (cr cb.toNatClampNeg) (cr ce.toNatClampNeg))).toInt64)) ((v_X4_one (v_X4_isAlike (cr cb.toNatClampNeg) (cr ce.toNatClampNeg))).toInt64))), (6, .int ce), (5, .int cb), (0, .ref b0), (1, .long b1)]) hx hb dX4_ofCards_215 rfl hl (by decide) rfl (fun ls hl => ?_)
                    refine lv_iinc (v := ce + 1) (lv' := [(6, .int (ce + 1)), (3, .long (v_X4_add (v_X4_add dg ((v_X4_one (v_X4_isSame (cr cb.toNatClampNeg) (cr ce.toNatClampNeg))).toInt64)) ((v_X4_one (v_X4_isAlike (cr cb.toNatClampNeg) (cr ce.toNatClampNeg))).toInt64))), (5, .int cb), (0, .ref b0), (1, .long b1)]) hx hb dX4_ofCards_216 hl (k := 1) rfl rfl (by decide) rfl (fun ls hl => ?_)
                    refine lv_goto (tgt := 160) hx hb dX4_ofCards_219 (by decide) ?_
                    exact ih11 (ce + 1) (v_X4_add (v_X4_add dg ((v_X4_one (v_X4_isSame (cr cb.toNatClampNeg) (cr ce.toNatClampNeg))).toInt64)) ((v_X4_one (v_X4_isAlike (cr cb.toNatClampNeg) (cr ce.toNatClampNeg))).toInt64)) (C11 + 0) (S11 + 0) H locs (by omega) (by omega) (fu_le c12 hn11) (inc_nn hzce c12) B ls (lv_sub hl [0, 2, 1, 3, 4] rfl)
              have hT11 : 4 + 1 ≤ 5 := (by decide)
              exact loop11 (4 + 1) 0 df (C3 + 0) (S3 + 0) H locs (by first | exact Nat.le_refl _ | exact Nat.le_of_ble_eq_true rfl | omega) (by first | exact Nat.le_refl _ | exact Nat.le_of_ble_eq_true rfl | omega) (by decide) (by decide) B ls hl
        have hT3 : 4 + 1 ≤ 5 := (by decide)
        exact loop3 (4 + 1) 0 dd 110 2550 H locs (by first | exact Nat.le_refl _ | exact Nat.le_of_ble_eq_true rfl | omega) (by first | exact Nat.le_refl _ | exact Nat.le_of_ble_eq_true rfl | omega) (by decide) (by decide) B ls hl
      · refine lv_iconst (v := 0) hx hb dX4_ofCards_11 (by decide) ?_
        refine lv_istore (lv' := [(6, .int 0), (5, .int ca), (3, .long dd), (0, .ref b0), (1, .long b1)]) hx hb dX4_ofCards_12 hl (by decide) rfl (fun ls hl => ?_)
        have loop23 : ∀ (n23 : Nat) (wa : Int32) (de : Int64) (C23 : Nat) (S23 : Nat) (H : Heap) (locs : List Loc), C23 + n23 * 0 ≤ (C1 + 0) → S23 + n23 * 0 ≤ (S1 + 0) → ((3 : Int32).toInt - wa.toInt).toNat < n23 → ¬ wa < 0 → WB g (aw N ad sz) s.heap N ad (mg g ad y cr dr th kn rf pl pz mc) H locs → ∀ ls : Array Slot, lv_has ls 7 [(6, .int wa), (5, .int ca), (3, .long de), (0, .ref b0), (1, .long b1)] → W p l e (rm 8 164 4044) s m args below meth c H locs C23 S23 (MQ below (va_Ql (fun r (u : WS) => (fun r ad' f' => ad = ad' ∧ mg g ad y cr dr th kn rf pl pz mc = f') r u.1 u.2) (fun u t => PO g N u.1 u.2 (aw N ad sz) t) (aw N ad sz)) args s (rm 8 164 4044).cells (rm 8 164 4044).slots (aw N ad sz)) (F0 m 14 ls []) := by
          intro n23
          induction n23 with
          | zero => intro wa de C23 S23 H locs _ _ hn; exact absurd hn (Nat.not_lt_zero _)
          | succ n23 ih23 =>
            intro wa de C23 S23 H locs hC23 hS23 hn23 hzwa B ls hl
            refine lv_iload hx hb dX4_ofCards_14 (lv_at hl 0 rfl) ?_
            refine lv_iconst (v := 3) hx hb dX4_ofCards_16 (by decide) ?_
            refine lv_icmp_ge (tgt := 42) hx hb dX4_ofCards_17 (by decide) (fun c24 => ?_) (fun c24 => ?_)
            · refine W.widen (show (C23 + 0) ≤ (C1 + 0) by omega) (show (S23 + 0) ≤ (S1 + 0) by omega) ?_
              refine lv_lload_n hx hb dX4_ofCards_42 rfl (lv_at hl 2 rfl) ?_
              refine lv_aload_n hx hb dX4_ofCards_43 rfl (lv_at hl 3 rfl) ?_
              refine b_get (q := 24) (k := 1) hb0 X hK B rfl in_X4 (by omega) mg_24 (by decide) lk_X4_11 rfl rfl dX4_ofCards_44 ?_
              refine lv_iload hx hb dX4_ofCards_47 (lv_at hl 1 rfl) ?_
              refine b_aald (q := 25) (t0 := 2) (v := ad (28 + ca.toNatClampNeg)) rfl X hK B (by omega) mg_25 rfl rfl (ix_in (n := 4) hzca c2 rfl) rfl dX4_ofCards_49 ?_
              have g25 : ca.toNatClampNeg < 4 := (ix_lt (n := 4) hzca c2 rfl)
              refine k_l (k := (C1 + 0)) (n := (S1 + 0)) hA B (u_S (rest := [.long de]) X (c_X4_total l g N ad (mg g ad y cr dr th kn rf pl pz mc) (28 + ca.toNatClampNeg) (ad (28 + ca.toNatClampNeg)) (cr ca.toNatClampNeg) (pl_cr hN g25) rfl (mg_cr g25) H.size) mw_X4_total md_X4_total rfl lk_X4_43 ⟨Nat.le_of_ble_eq_true rfl, Nat.le_of_ble_eq_true rfl⟩ hA hK hT B hl.1 rfl (Nat.le_of_ble_eq_true rfl) dX4_ofCards_50 (by dsimp only [rm]; omega)) (by dsimp only [rm]; omega) (by dsimp only [rm]; omega) (fun r26 ad26 f' H locs hw B => ?_)
              obtain ⟨rfl, rfl, rfl⟩ := hw
              refine k_l (k := (C1 + 0)) (n := (S1 + 0)) hA B (u_S (rest := []) X (c_X4_add l g N ad (mg g ad y cr dr th kn rf pl pz mc) de (v_X4_total (cr ca.toNatClampNeg)) H.size) mw_X4_add md_X4_add rfl lk_X4_266 ⟨Nat.le_of_ble_eq_true rfl, Nat.le_of_ble_eq_true rfl⟩ hA hK hT B hl.1 rfl (Nat.le_of_ble_eq_true rfl) dX4_ofCards_53 (by dsimp only [rm]; omega)) (by dsimp only [rm]; omega) (by dsimp only [rm]; omega) (fun r27 ad27 f' H locs hw B => ?_)
              obtain ⟨rfl, rfl, rfl⟩ := hw
              refine lv_aload_n hx hb dX4_ofCards_56 rfl (lv_at hl 3 rfl) ?_
              refine lv_iload hx hb dX4_ofCards_57 (lv_at hl 1 rfl) ?_
              refine k_i (k := (C1 + 1)) (n := (S1 + 3)) hA B (b_V (q := 24) (rest := [.long (v_X4_add de (v_X4_total (cr ca.toNatClampNeg)))]) hb0 X (c_X4_isZeroNow l g N ad y cr dr th kn rf pl pz mc (by omega) b0 hb0 ca (no_of hzca c2) H.size) mw_X4_isZeroNow md_X4_isZeroNow rfl lk_X4_156 ⟨Nat.le_of_ble_eq_true rfl, Nat.le_of_ble_eq_true rfl⟩ hA hK hT B (by omega) mg_24 rfl rfl hl.1 rfl (Nat.le_of_ble_eq_true rfl) dX4_ofCards_59 (by dsimp only [rm]; omega)) (by dsimp only [rm]; omega) (by dsimp only [rm]; omega) (fun r28 ad28 f' H locs hw B => ?_)
              obtain ⟨rfl, rfl, rfl⟩ := hw
              refine k_i (k := (C1 + 1)) (n := (S1 + 3)) hA B (u_S (rest := [.long (v_X4_add de (v_X4_total (cr ca.toNatClampNeg)))]) X (c_X4_one l g N ad (mg g ad y cr dr th kn rf pl pz mc) (v_X4_isZeroNow cr ca) H.size) mw_X4_one md_X4_one rfl lk_X4_91 ⟨Nat.le_of_ble_eq_true rfl, Nat.le_of_ble_eq_true rfl⟩ hA hK hT B hl.1 rfl (Nat.le_of_ble_eq_true rfl) dX4_ofCards_62 (by dsimp only [rm]; omega)) (by dsimp only [rm]; omega) (by dsimp only [rm]; omega) (fun r29 ad29 f' H locs hw B => ?_)
              obtain ⟨rfl, rfl, rfl⟩ := hw
              refine lv_i2l (v := (v_X4_one (v_X4_isZeroNow cr ca)).toInt64) hx hb dX4_ofCards_65 rfl ?_
              refine k_l (k := (C1 + 1)) (n := (S1 + 3)) hA B (u_S (rest := []) X (c_X4_add l g N ad (mg g ad y cr dr th kn rf pl pz mc) (v_X4_add de (v_X4_total (cr ca.toNatClampNeg))) ((v_X4_one (v_X4_isZeroNow cr ca)).toInt64) H.size) mw_X4_add md_X4_add rfl lk_X4_266 ⟨Nat.le_of_ble_eq_true rfl, Nat.le_of_ble_eq_true rfl⟩ hA hK hT B hl.1 rfl (Nat.le_of_ble_eq_true rfl) dX4_ofCards_66 (by dsimp only [rm]; omega)) (by dsimp only [rm]; omega) (by dsimp only [rm]; omega) (fun r30 ad30 f' H locs hw B => ?_)
              obtain ⟨rfl, rfl, rfl⟩ := hw
              refine lv_aload_n hx hb dX4_ofCards_69 rfl (lv_at hl 3 rfl) ?_
              refine lv_iload hx hb dX4_ofCards_70 (lv_at hl 1 rfl) ?_
              refine k_i (k := (C1 + 1)) (n := (S1 + 3)) hA B (b_V (q := 24) (rest := [.long (v_X4_add (v_X4_add de (v_X4_total (cr ca.toNatClampNeg))) ((v_X4_one (v_X4_isZeroNow cr ca)).toInt64))]) hb0 X (c_X4_isNegativeNow l g N ad y cr dr th kn rf pl pz mc (by omega) b0 hb0 ca (no_of hzca c2) H.size) mw_X4_isNegativeNow md_X4_isNegativeNow rfl lk_X4_159 ⟨Nat.le_of_ble_eq_true rfl, Nat.le_of_ble_eq_true rfl⟩ hA hK hT B (by omega) mg_24 rfl rfl hl.1 rfl (Nat.le_of_ble_eq_true rfl) dX4_ofCards_72 (by dsimp only [rm]; omega)) (by dsimp only [rm]; omega) (by dsimp only [rm]; omega) (fun r31 ad31 f' H locs hw B => ?_)
              obtain ⟨rfl, rfl, rfl⟩ := hw
              refine k_i (k := (C1 + 1)) (n := (S1 + 3)) hA B (u_S (rest := [.long (v_X4_add (v_X4_add de (v_X4_total (cr ca.toNatClampNeg))) ((v_X4_one (v_X4_isZeroNow cr ca)).toInt64))]) X (c_X4_one l g N ad (mg g ad y cr dr th kn rf pl pz mc) (v_X4_isNegativeNow cr ca) H.size) mw_X4_one md_X4_one rfl lk_X4_91 ⟨Nat.le_of_ble_eq_true rfl, Nat.le_of_ble_eq_true rfl⟩ hA hK hT B hl.1 rfl (Nat.le_of_ble_eq_true rfl) dX4_ofCards_75 (by dsimp only [rm]; omega)) (by dsimp only [rm]; omega) (by dsimp only [rm]; omega) (fun r32 ad32 f' H locs hw B => ?_)
              obtain ⟨rfl, rfl, rfl⟩ := hw
              refine lv_i2l (v := (v_X4_one (v_X4_isNegativeNow cr ca)).toInt64) hx hb dX4_ofCards_78 rfl ?_
              refine k_l (k := (C1 + 1)) (n := (S1 + 3)) hA B (u_S (rest := []) X (c_X4_add l g N ad (mg g ad y cr dr th kn rf pl pz mc) (v_X4_add (v_X4_add de (v_X4_total (cr ca.toNatClampNeg))) ((v_X4_one (v_X4_isZeroNow cr ca)).toInt64)) ((v_X4_one (v_X4_isNegativeNow cr ca)).toInt64) H.size) mw_X4_add md_X4_add rfl lk_X4_266 ⟨Nat.le_of_ble_eq_true rfl, Nat.le_of_ble_eq_true rfl⟩ hA hK hT B hl.1 rfl (Nat.le_of_ble_eq_true rfl) dX4_ofCards_79 (by dsimp only [rm]; omega)) (by dsimp only [rm]; omega) (by dsimp only [rm]; omega) (fun r33 ad33 f' H locs hw B => ?_)
              obtain ⟨rfl, rfl, rfl⟩ := hw
              refine lv_lstore_n (lv' := [(3, .long (v_X4_add (v_X4_add (v_X4_add de (v_X4_total (cr ca.toNatClampNeg))) ((v_X4_one (v_X4_isZeroNow cr ca)).toInt64)) ((v_X4_one (v_X4_isNegativeNow cr ca)).toInt64))), (6, .int wa), (5, .int ca), (0, .ref b0), (1, .long b1)]) hx hb dX4_ofCards_82 rfl hl (by decide) rfl (fun ls hl => ?_)
              refine lv_lload_n hx hb dX4_ofCards_83 rfl (lv_at hl 0 rfl) ?_
              refine lv_aload_n hx hb dX4_ofCards_84 rfl (lv_at hl 3 rfl) ?_
              refine b_get (q := 24) (k := 1) hb0 X hK B rfl in_X4 (by omega) mg_24 (by decide) lk_X4_11 rfl rfl dX4_ofCards_85 ?_
              refine lv_iload hx hb dX4_ofCards_88 (lv_at hl 2 rfl) ?_
              refine b_aald (q := 25) (t0 := 2) (v := ad (28 + ca.toNatClampNeg)) rfl X hK B (by omega) mg_25 rfl rfl (ix_in (n := 4) hzca c2 rfl) rfl dX4_ofCards_90 ?_
              have g34 : ca.toNatClampNeg < 4 := (ix_lt (n := 4) hzca c2 rfl)
              refine k_r (k := (C1 + 7)) (n := (S1 + 169)) hA B (u_S (rest := [.long (v_X4_add (v_X4_add (v_X4_add de (v_X4_total (cr ca.toNatClampNeg))) ((v_X4_one (v_X4_isZeroNow cr ca)).toInt64)) ((v_X4_one (v_X4_isNegativeNow cr ca)).toInt64))]) X (c_W_told l g N ad (mg g ad y cr dr th kn rf pl pz mc) (28 + ca.toNatClampNeg) (ad (28 + ca.toNatClampNeg)) (cr ca.toNatClampNeg) (pl_cr hN g34) rfl (mg_cr g34) H.size) mw_X4_told md_X4_told rfl lk_X4_145 ⟨Nat.le_of_ble_eq_true rfl, Nat.le_of_ble_eq_true rfl⟩ hA hK hT B hl.1 rfl (Nat.le_of_ble_eq_true rfl) dX4_ofCards_91 (by dsimp only [rm]; omega)) (by dsimp only [rm]; omega) (by dsimp only [rm]; omega) (fun r ad' f' H locs hw B => ?_)
              obtain ⟨a35, a35x, h35, hF35, rfl, rfl, rfl⟩ := hw
              have B : WB g (aw N ad sz) s.heap (N + 1 + 1) (va_up (va_up ad N a35) (N + 1) a35x) (mg g (va_up (va_up ad N a35) (N + 1) a35x) (va_up (va_up y N (c_st a35x)) (N + 1) (c_ba g (tlen (cr ca.toNatClampNeg)) h35)) cr dr th kn rf pl pz mc) H locs := WM_push2 (by omega) B
              refine k_i (k := (C1 + 7)) (n := (S1 + 169)) hA B (b_V (q := N) (rest := [.long (v_X4_add (v_X4_add (v_X4_add de (v_X4_total (cr ca.toNatClampNeg))) ((v_X4_one (v_X4_isZeroNow cr ca)).toInt64)) ((v_X4_one (v_X4_isNegativeNow cr ca)).toInt64))]) ((up_lt (by omega)).trans up_eq) X (c_W_len l g (N + 1 + 1) (va_up (va_up ad N a35) (N + 1) a35x) (mg g (va_up (va_up ad N a35) (N + 1) a35x) (va_up (va_up y N (c_st a35x)) (N + 1) (c_ba g (tlen (cr ca.toNatClampNeg)) h35)) cr dr th kn rf pl pz mc) N a35 (N + 1) a35x (tlen (cr ca.toNatClampNeg)) h35 (by omega) (by omega) ((up_lt (by omega)).trans up_eq) up_eq ((mg_hi (by omega)).trans ((up_lt (by omega)).trans up_eq)) ((mg_hi (by omega)).trans up_eq) H.size) mw_J0_length_8abf5 md_J0_length_8abf5 rfl lk_X4_269 ⟨Nat.le_of_ble_eq_true rfl, Nat.le_of_ble_eq_true rfl⟩ hA hK hT B (by omega) ((mg_hi (by omega)).trans ((up_lt (by omega)).trans up_eq)) rfl rfl hl.1 rfl (Nat.le_of_ble_eq_true rfl) dX4_ofCards_94 (by dsimp only [rm]; omega)) (by dsimp only [rm]; omega) (by dsimp only [rm]; omega) (fun r ad' f' H locs hw B => ?_)
              obtain ⟨rfl, rfl, rfl⟩ := hw
              have B : WB g (aw N ad sz) s.heap N ad (mg g ad y cr dr th kn rf pl pz mc) H locs := WM_drop B (by omega) (by omega) (fun _ hk => ((up_lt (Nat.lt_succ_of_lt hk)).trans (up_lt hk))) (fun _ hk => ((up_lt (Nat.lt_succ_of_lt hk)).trans (up_lt hk)))
              refine lv_i2l (v := (nI (tlen (cr ca.toNatClampNeg))).toInt64) hx hb dX4_ofCards_97 rfl ?_
              refine k_l (k := (C1 + 7)) (n := (S1 + 169)) hA B (u_S (rest := []) X (c_X4_add l g N ad (mg g ad y cr dr th kn rf pl pz mc) (v_X4_add (v_X4_add (v_X4_add de (v_X4_total (cr ca.toNatClampNeg))) ((v_X4_one (v_X4_isZeroNow cr ca)).toInt64)) ((v_X4_one (v_X4_isNegativeNow cr ca)).toInt64)) ((nI (tlen (cr ca.toNatClampNeg))).toInt64) H.size) mw_X4_add md_X4_add rfl lk_X4_266 ⟨Nat.le_of_ble_eq_true rfl, Nat.le_of_ble_eq_true rfl⟩ hA hK hT B hl.1 rfl (Nat.le_of_ble_eq_true rfl) dX4_ofCards_98 (by dsimp only [rm]; omega)) (by dsimp only [rm]; omega) (by dsimp only [rm]; omega) (fun r36 ad36 f' H locs hw B => ?_)
              obtain ⟨rfl, rfl, rfl⟩ := hw
              refine lv_aload_n hx hb dX4_ofCards_101 rfl (lv_at hl 3 rfl) ?_
              refine b_get (q := 24) (k := 1) hb0 X hK B rfl in_X4 (by omega) mg_24 (by decide) lk_X4_11 rfl rfl dX4_ofCards_102 ?_
              refine lv_iload hx hb dX4_ofCards_105 (lv_at hl 2 rfl) ?_
              refine b_aald (q := 25) (t0 := 2) (v := ad (28 + ca.toNatClampNeg)) rfl X hK B (by omega) mg_25 rfl rfl (ix_in (n := 4) hzca c2 rfl) rfl dX4_ofCards_107 ?_
              have g37 : ca.toNatClampNeg < 4 := (ix_lt (n := 4) hzca c2 rfl)
              refine k_r (k := (C1 + 8)) (n := (S1 + 172)) hA B (u_S (rest := [.long (v_X4_add (v_X4_add (v_X4_add (v_X4_add de (v_X4_total (cr ca.toNatClampNeg))) ((v_X4_one (v_X4_isZeroNow cr ca)).toInt64)) ((v_X4_one (v_X4_isNegativeNow cr ca)).toInt64)) ((nI (tlen (cr ca.toNatClampNeg))).toInt64))]) X (c_X4_tidied l g N ad (mg g ad y cr dr th kn rf pl pz mc) (28 + ca.toNatClampNeg) (ad (28 + ca.toNatClampNeg)) (cr ca.toNatClampNeg) (pl_cr hN g37) rfl (mg_cr g37) H.size) mw_X4_tidied md_X4_tidied rfl lk_X4_125 ⟨Nat.le_of_ble_eq_true rfl, Nat.le_of_ble_eq_true rfl⟩ hA hK hT B hl.1 rfl (Nat.le_of_ble_eq_true rfl) dX4_ofCards_108 (by dsimp only [rm]; omega)) (by dsimp only [rm]; omega) (by dsimp only [rm]; omega) (fun r38 ad38 f' H locs hw B => ?_)
              generalize o39 : (v_X4_tidied (cr ca.toNatClampNeg)) = v9 at hw B
              cases v9 with
              | none =>
                obtain ⟨rfl, rfl, rfl⟩ := pw_n hw
                refine k_r (k := (C1 + 8)) (n := (S1 + 172)) hA B (u_S (rest := [.long (v_X4_add (v_X4_add (v_X4_add (v_X4_add de (v_X4_total (cr ca.toNatClampNeg))) ((v_X4_one (v_X4_isZeroNow cr ca)).toInt64)) ((v_X4_one (v_X4_isNegativeNow cr ca)).toInt64)) ((nI (tlen (cr ca.toNatClampNeg))).toInt64))]) X (c_W_toldN l g N ad (mg g ad y cr dr th kn rf pl pz mc) H.size) mw_X4_told md_X4_told rfl lk_X4_145 ⟨Nat.le_of_ble_eq_true rfl, Nat.le_of_ble_eq_true rfl⟩ hA hK hT B hl.1 rfl (Nat.le_of_ble_eq_true rfl) dX4_ofCards_111 (by dsimp only [rm]; omega)) (by dsimp only [rm]; omega) (by dsimp only [rm]; omega) (fun r ad' f' H locs hw B => ?_)
                obtain ⟨rfl, rfl, rfl⟩ := hw
                refine k_i (k := (C1 + 8)) (n := (S1 + 172)) hA B (u_K (rest := [.long (v_X4_add (v_X4_add (v_X4_add (v_X4_add de (v_X4_total (cr ca.toNatClampNeg))) ((v_X4_one (v_X4_isZeroNow cr ca)).toInt64)) ((v_X4_one (v_X4_isNegativeNow cr ca)).toInt64)) ((nI (tlen (cr ca.toNatClampNeg))).toInt64))]) (by decide) X (c_K_len l g N ad (mg g ad y cr dr th kn rf pl pz mc) 10 (by decide) H.size) mw_J0_length_8abf5 rfl md_J0_length_8abf5 rfl lk_X4_269 ⟨Nat.le_of_ble_eq_true rfl, Nat.le_of_ble_eq_true rfl⟩ hA hK hT B hl.1 rfl (Nat.le_of_ble_eq_true rfl) dX4_ofCards_114 (by dsimp only [rm]; omega)) (by dsimp only [rm]; omega) (by dsimp only [rm]; omega) (fun r ad' f' H locs hw B => ?_)
                obtain ⟨rfl, rfl, rfl⟩ := hw
                refine lv_i2l (v := (nI (st_len.getD 10 0)).toInt64) hx hb dX4_ofCards_117 rfl ?_
                refine k_l (k := (C1 + 8)) (n := (S1 + 172)) hA B (u_S (rest := []) X (c_X4_add l g N ad (mg g ad y cr dr th kn rf pl pz mc) (v_X4_add (v_X4_add (v_X4_add (v_X4_add de (v_X4_total (cr ca.toNatClampNeg))) ((v_X4_one (v_X4_isZeroNow cr ca)).toInt64)) ((v_X4_one (v_X4_isNegativeNow cr ca)).toInt64)) ((nI (tlen (cr ca.toNatClampNeg))).toInt64)) ((nI (st_len.getD 10 0)).toInt64) H.size) mw_X4_add md_X4_add rfl lk_X4_266 ⟨Nat.le_of_ble_eq_true rfl, Nat.le_of_ble_eq_true rfl⟩ hA hK hT B hl.1 rfl (Nat.le_of_ble_eq_true rfl) dX4_ofCards_118 (by dsimp only [rm]; omega)) (by dsimp only [rm]; omega) (by dsimp only [rm]; omega) (fun r40 ad40 f' H locs hw B => ?_)
                obtain ⟨rfl, rfl, rfl⟩ := hw
                refine lv_aload_n hx hb dX4_ofCards_121 rfl (lv_at hl 3 rfl) ?_
                refine b_get (q := 24) (k := 1) hb0 X hK B rfl in_X4 (by omega) mg_24 (by decide) lk_X4_11 rfl rfl dX4_ofCards_122 ?_
                refine lv_iload hx hb dX4_ofCards_125 (lv_at hl 2 rfl) ?_
                refine b_aald (q := 25) (t0 := 2) (v := ad (28 + ca.toNatClampNeg)) rfl X hK B (by omega) mg_25 rfl rfl (ix_in (n := 4) hzca c2 rfl) rfl dX4_ofCards_127 ?_
                have g41 : ca.toNatClampNeg < 4 := (ix_lt (n := 4) hzca c2 rfl)
                refine k_r (k := (C1 + 10)) (n := (S1 + 178)) hA B (u_S (rest := [.long (v_X4_add (v_X4_add (v_X4_add (v_X4_add (v_X4_add de (v_X4_total (cr ca.toNatClampNeg))) ((v_X4_one (v_X4_isZeroNow cr ca)).toInt64)) ((v_X4_one (v_X4_isNegativeNow cr ca)).toInt64)) ((nI (tlen (cr ca.toNatClampNeg))).toInt64)) ((nI (st_len.getD 10 0)).toInt64))]) X (c_X4_opposed l g N ad (mg g ad y cr dr th kn rf pl pz mc) (28 + ca.toNatClampNeg) (ad (28 + ca.toNatClampNeg)) (cr ca.toNatClampNeg) (pl_cr hN g41) rfl (mg_cr g41) H.size) mw_X4_opposed md_X4_opposed rfl lk_X4_121 ⟨Nat.le_of_ble_eq_true rfl, Nat.le_of_ble_eq_true rfl⟩ hA hK hT B hl.1 rfl (Nat.le_of_ble_eq_true rfl) dX4_ofCards_128 (by dsimp only [rm]; omega)) (by dsimp only [rm]; omega) (by dsimp only [rm]; omega) (fun r42 ad42 f' H locs hw B => ?_)
                generalize o43 : (v_X4_opposed (cr ca.toNatClampNeg)) = v9 at hw B
                cases v9 with
                | none =>
                  obtain ⟨rfl, rfl, rfl⟩ := pw_n hw
                  refine k_r (k := (C1 + 10)) (n := (S1 + 178)) hA B (u_S (rest := [.long (v_X4_add (v_X4_add (v_X4_add (v_X4_add (v_X4_add de (v_X4_total (cr ca.toNatClampNeg))) ((v_X4_one (v_X4_isZeroNow cr ca)).toInt64)) ((v_X4_one (v_X4_isNegativeNow cr ca)).toInt64)) ((nI (tlen (cr ca.toNatClampNeg))).toInt64)) ((nI (st_len.getD 10 0)).toInt64))]) X (c_W_toldN l g N ad (mg g ad y cr dr th kn rf pl pz mc) H.size) mw_X4_told md_X4_told rfl lk_X4_145 ⟨Nat.le_of_ble_eq_true rfl, Nat.le_of_ble_eq_true rfl⟩ hA hK hT B hl.1 rfl (Nat.le_of_ble_eq_true rfl) dX4_ofCards_131 (by dsimp only [rm]; omega)) (by dsimp only [rm]; omega) (by dsimp only [rm]; omega) (fun r ad' f' H locs hw B => ?_)
                  obtain ⟨rfl, rfl, rfl⟩ := hw
                  refine k_i (k := (C1 + 10)) (n := (S1 + 178)) hA B (u_K (rest := [.long (v_X4_add (v_X4_add (v_X4_add (v_X4_add (v_X4_add de (v_X4_total (cr ca.toNatClampNeg))) ((v_X4_one (v_X4_isZeroNow cr ca)).toInt64)) ((v_X4_one (v_X4_isNegativeNow cr ca)).toInt64)) ((nI (tlen (cr ca.toNatClampNeg))).toInt64)) ((nI (st_len.getD 10 0)).toInt64))]) (by decide) X (c_K_len l g N ad (mg g ad y cr dr th kn rf pl pz mc) 10 (by decide) H.size) mw_J0_length_8abf5 rfl md_J0_length_8abf5 rfl lk_X4_269 ⟨Nat.le_of_ble_eq_true rfl, Nat.le_of_ble_eq_true rfl⟩ hA hK hT B hl.1 rfl (Nat.le_of_ble_eq_true rfl) dX4_ofCards_134 (by dsimp only [rm]; omega)) (by dsimp only [rm]; omega) (by dsimp only [rm]; omega) (fun r ad' f' H locs hw B => ?_)
                  obtain ⟨rfl, rfl, rfl⟩ := hw
                  refine lv_i2l (v := (nI (st_len.getD 10 0)).toInt64) hx hb dX4_ofCards_137 rfl ?_
                  refine k_l (k := (C1 + 10)) (n := (S1 + 178)) hA B (u_S (rest := []) X (c_X4_add l g N ad (mg g ad y cr dr th kn rf pl pz mc) (v_X4_add (v_X4_add (v_X4_add (v_X4_add (v_X4_add de (v_X4_total (cr ca.toNatClampNeg))) ((v_X4_one (v_X4_isZeroNow cr ca)).toInt64)) ((v_X4_one (v_X4_isNegativeNow cr ca)).toInt64)) ((nI (tlen (cr ca.toNatClampNeg))).toInt64)) ((nI (st_len.getD 10 0)).toInt64)) ((nI (st_len.getD 10 0)).toInt64) H.size) mw_X4_add md_X4_add rfl lk_X4_266 ⟨Nat.le_of_ble_eq_true rfl, Nat.le_of_ble_eq_true rfl⟩ hA hK hT B hl.1 rfl (Nat.le_of_ble_eq_true rfl) dX4_ofCards_138 (by dsimp only [rm]; omega)) (by dsimp only [rm]; omega) (by dsimp only [rm]; omega) (fun r44 ad44 f' H locs hw B => ?_)
                  obtain ⟨rfl, rfl, rfl⟩ := hw
                  refine lv_lstore_n (lv' := [(3, .long (v_X4_add (v_X4_add (v_X4_add (v_X4_add (v_X4_add (v_X4_add de (v_X4_total (cr ca.toNatClampNeg))) ((v_X4_one (v_X4_isZeroNow cr ca)).toInt64)) ((v_X4_one (v_X4_isNegativeNow cr ca)).toInt64)) ((nI (tlen (cr ca.toNatClampNeg))).toInt64)) ((nI (st_len.getD 10 0)).toInt64)) ((nI (st_len.getD 10 0)).toInt64))), (6, .int wa), (5, .int ca), (0, .ref b0), (1, .long b1)]) hx hb dX4_ofCards_141 rfl hl (by decide) rfl (fun ls hl => ?_)
                  refine lv_iinc (v := ca + 1) (lv' := [(5, .int (ca + 1)), (3, .long (v_X4_add (v_X4_add (v_X4_add (v_X4_add (v_X4_add (v_X4_add de (v_X4_total (cr ca.toNatClampNeg))) ((v_X4_one (v_X4_isZeroNow cr ca)).toInt64)) ((v_X4_one (v_X4_isNegativeNow cr ca)).toInt64)) ((nI (tlen (cr ca.toNatClampNeg))).toInt64)) ((nI (st_len.getD 10 0)).toInt64)) ((nI (st_len.getD 10 0)).toInt64))), (6, .int wa), (0, .ref b0), (1, .long b1)]) hx hb dX4_ofCards_142 hl (k := 2) rfl rfl (by decide) rfl (fun ls hl => ?_)
                  refine lv_goto (tgt := 5) hx hb dX4_ofCards_145 (by decide) ?_
                  exact ih1 (ca + 1) (v_X4_add (v_X4_add (v_X4_add (v_X4_add (v_X4_add (v_X4_add de (v_X4_total (cr ca.toNatClampNeg))) ((v_X4_one (v_X4_isZeroNow cr ca)).toInt64)) ((v_X4_one (v_X4_isNegativeNow cr ca)).toInt64)) ((nI (tlen (cr ca.toNatClampNeg))).toInt64)) ((nI (st_len.getD 10 0)).toInt64)) ((nI (st_len.getD 10 0)).toInt64)) (C1 + 10) (S1 + 178) H locs (by omega) (by omega) (fu_le c2 hn1) (inc_nn hzca c2) B ls (lv_sub hl [0, 1, 3, 4] rfl)
                | some t43 =>
                  obtain ⟨z43, rfl, rfl, rfl⟩ := pw_s hw
                  have B : WB g (aw N ad sz) s.heap (N + 1) (va_up ad N z43) (mg g (va_up ad N z43) (va_up y N (c_row g t43)) cr dr th kn rf pl pz mc) H locs := WM_push (by omega) B
                  refine k_r (k := (C1 + 16)) (n := (S1 + 344)) hA B (u_S (rest := [.long (v_X4_add (v_X4_add (v_X4_add (v_X4_add (v_X4_add de (v_X4_total (cr ca.toNatClampNeg))) ((v_X4_one (v_X4_isZeroNow cr ca)).toInt64)) ((v_X4_one (v_X4_isNegativeNow cr ca)).toInt64)) ((nI (tlen (cr ca.toNatClampNeg))).toInt64)) ((nI (st_len.getD 10 0)).toInt64))]) X (c_W_told l g (N + 1) (va_up ad N z43) (mg g (va_up ad N z43) (va_up y N (c_row g t43)) cr dr th kn rf pl pz mc) N z43 t43 (Nat.lt_succ_self _) up_eq ((mg_hi (by omega)).trans up_eq) H.size) mw_X4_told md_X4_told rfl lk_X4_145 ⟨Nat.le_of_ble_eq_true rfl, Nat.le_of_ble_eq_true rfl⟩ hA hK hT B hl.1 rfl (Nat.le_of_ble_eq_true rfl) dX4_ofCards_131 (by dsimp only [rm]; omega)) (by dsimp only [rm]; omega) (by dsimp only [rm]; omega) (fun r ad' f' H locs hw B => ?_)
                  obtain ⟨a45, a45x, h45, hF45, rfl, rfl, rfl⟩ := hw
                  have B : WB g (aw N ad sz) s.heap (N + 1 + 1 + 1) (va_up (va_up (va_up ad N z43) (N + 1) a45) (N + 1 + 1) a45x) (mg g (va_up (va_up (va_up ad N z43) (N + 1) a45) (N + 1 + 1) a45x) (va_up (va_up (va_up y N (c_row g t43)) (N + 1) (c_st a45x)) (N + 1 + 1) (c_ba g (tlen t43) h45)) cr dr th kn rf pl pz mc) H locs := WM_push2 (by omega) B
                  refine k_i (k := (C1 + 16)) (n := (S1 + 344)) hA B (b_V (q := N + 1) (rest := [.long (v_X4_add (v_X4_add (v_X4_add (v_X4_add (v_X4_add de (v_X4_total (cr ca.toNatClampNeg))) ((v_X4_one (v_X4_isZeroNow cr ca)).toInt64)) ((v_X4_one (v_X4_isNegativeNow cr ca)).toInt64)) ((nI (tlen (cr ca.toNatClampNeg))).toInt64)) ((nI (st_len.getD 10 0)).toInt64))]) ((up_lt (by omega)).trans up_eq) X (c_W_len l g (N + 1 + 1 + 1) (va_up (va_up (va_up ad N z43) (N + 1) a45) (N + 1 + 1) a45x) (mg g (va_up (va_up (va_up ad N z43) (N + 1) a45) (N + 1 + 1) a45x) (va_up (va_up (va_up y N (c_row g t43)) (N + 1) (c_st a45x)) (N + 1 + 1) (c_ba g (tlen t43) h45)) cr dr th kn rf pl pz mc) (N + 1) a45 (N + 1 + 1) a45x (tlen t43) h45 (by omega) (by omega) ((up_lt (by omega)).trans up_eq) up_eq ((mg_hi (by omega)).trans ((up_lt (by omega)).trans up_eq)) ((mg_hi (by omega)).trans up_eq) H.size) mw_J0_length_8abf5 md_J0_length_8abf5 rfl lk_X4_269 ⟨Nat.le_of_ble_eq_true rfl, Nat.le_of_ble_eq_true rfl⟩ hA hK hT B (by omega) ((mg_hi (by omega)).trans ((up_lt (by omega)).trans up_eq)) rfl rfl hl.1 rfl (Nat.le_of_ble_eq_true rfl) dX4_ofCards_134 (by dsimp only [rm]; omega)) (by dsimp only [rm]; omega) (by dsimp only [rm]; omega) (fun r ad' f' H locs hw B => ?_)
                  obtain ⟨rfl, rfl, rfl⟩ := hw
                  have B : WB g (aw N ad sz) s.heap N ad (mg g ad y cr dr th kn rf pl pz mc) H locs := WM_drop B (by omega) (by omega) (fun _ hk => (((up_lt (Nat.lt_succ_of_lt (Nat.lt_succ_of_lt hk))).trans (up_lt (Nat.lt_succ_of_lt hk))).trans (up_lt hk))) (fun _ hk => (((up_lt (Nat.lt_succ_of_lt (Nat.lt_succ_of_lt hk))).trans (up_lt (Nat.lt_succ_of_lt hk))).trans (up_lt hk)))
                  refine lv_i2l (v := (nI (tlen t43)).toInt64) hx hb dX4_ofCards_137 rfl ?_
                  refine k_l (k := (C1 + 16)) (n := (S1 + 344)) hA B (u_S (rest := []) X (c_X4_add l g N ad (mg g ad y cr dr th kn rf pl pz mc) (v_X4_add (v_X4_add (v_X4_add (v_X4_add (v_X4_add de (v_X4_total (cr ca.toNatClampNeg))) ((v_X4_one (v_X4_isZeroNow cr ca)).toInt64)) ((v_X4_one (v_X4_isNegativeNow cr ca)).toInt64)) ((nI (tlen (cr ca.toNatClampNeg))).toInt64)) ((nI (st_len.getD 10 0)).toInt64)) ((nI (tlen t43)).toInt64) H.size) mw_X4_add md_X4_add rfl lk_X4_266 ⟨Nat.le_of_ble_eq_true rfl, Nat.le_of_ble_eq_true rfl⟩ hA hK hT B hl.1 rfl (Nat.le_of_ble_eq_true rfl) dX4_ofCards_138 (by dsimp only [rm]; omega)) (by dsimp only [rm]; omega) (by dsimp only [rm]; omega) (fun r46 ad46 f' H locs hw B => ?_)
                  obtain ⟨rfl, rfl, rfl⟩ := hw
                  refine lv_lstore_n (lv' := [(3, .long (v_X4_add (v_X4_add (v_X4_add (v_X4_add (v_X4_add (v_X4_add de (v_X4_total (cr ca.toNatClampNeg))) ((v_X4_one (v_X4_isZeroNow cr ca)).toInt64)) ((v_X4_one (v_X4_isNegativeNow cr ca)).toInt64)) ((nI (tlen (cr ca.toNatClampNeg))).toInt64)) ((nI (st_len.getD 10 0)).toInt64)) ((nI (tlen t43)).toInt64))), (6, .int wa), (5, .int ca), (0, .ref b0), (1, .long b1)]) hx hb dX4_ofCards_141 rfl hl (by decide) rfl (fun ls hl => ?_)
                  refine lv_iinc (v := ca + 1) (lv' := [(5, .int (ca + 1)), (3, .long (v_X4_add (v_X4_add (v_X4_add (v_X4_add (v_X4_add (v_X4_add de (v_X4_total (cr ca.toNatClampNeg))) ((v_X4_one (v_X4_isZeroNow cr ca)).toInt64)) ((v_X4_one (v_X4_isNegativeNow cr ca)).toInt64)) ((nI (tlen (cr ca.toNatClampNeg))).toInt64)) ((nI (st_len.getD 10 0)).toInt64)) ((nI (tlen t43)).toInt64))), (6, .int wa), (0, .ref b0), (1, .long b1)]) hx hb dX4_ofCards_142 hl (k := 2) rfl rfl (by decide) rfl (fun ls hl => ?_)
                  refine lv_goto (tgt := 5) hx hb dX4_ofCards_145 (by decide) ?_
                  exact ih1 (ca + 1) (v_X4_add (v_X4_add (v_X4_add (v_X4_add (v_X4_add (v_X4_add de (v_X4_total (cr ca.toNatClampNeg))) ((v_X4_one (v_X4_isZeroNow cr ca)).toInt64)) ((v_X4_one (v_X4_isNegativeNow cr ca)).toInt64)) ((nI (tlen (cr ca.toNatClampNeg))).toInt64)) ((nI (st_len.getD 10 0)).toInt64)) ((nI (tlen t43)).toInt64)) (C1 + 16) (S1 + 344) H locs (by omega) (by omega) (fu_le c2 hn1) (inc_nn hzca c2) B ls (lv_sub hl [0, 1, 3, 4] rfl)
              | some t39 =>
                obtain ⟨z39, rfl, rfl, rfl⟩ := pw_s hw
                have B : WB g (aw N ad sz) s.heap (N + 1) (va_up ad N z39) (mg g (va_up ad N z39) (va_up y N (c_row g t39)) cr dr th kn rf pl pz mc) H locs := WM_push (by omega) B
                refine k_r (k := (C1 + 14)) (n := (S1 + 338)) hA B (u_S (rest := [.long (v_X4_add (v_X4_add (v_X4_add (v_X4_add de (v_X4_total (cr ca.toNatClampNeg))) ((v_X4_one (v_X4_isZeroNow cr ca)).toInt64)) ((v_X4_one (v_X4_isNegativeNow cr ca)).toInt64)) ((nI (tlen (cr ca.toNatClampNeg))).toInt64))]) X (c_W_told l g (N + 1) (va_up ad N z39) (mg g (va_up ad N z39) (va_up y N (c_row g t39)) cr dr th kn rf pl pz mc) N z39 t39 (Nat.lt_succ_self _) up_eq ((mg_hi (by omega)).trans up_eq) H.size) mw_X4_told md_X4_told rfl lk_X4_145 ⟨Nat.le_of_ble_eq_true rfl, Nat.le_of_ble_eq_true rfl⟩ hA hK hT B hl.1 rfl (Nat.le_of_ble_eq_true rfl) dX4_ofCards_111 (by dsimp only [rm]; omega)) (by dsimp only [rm]; omega) (by dsimp only [rm]; omega) (fun r ad' f' H locs hw B => ?_)
                obtain ⟨a47, a47x, h47, hF47, rfl, rfl, rfl⟩ := hw
                have B : WB g (aw N ad sz) s.heap (N + 1 + 1 + 1) (va_up (va_up (va_up ad N z39) (N + 1) a47) (N + 1 + 1) a47x) (mg g (va_up (va_up (va_up ad N z39) (N + 1) a47) (N + 1 + 1) a47x) (va_up (va_up (va_up y N (c_row g t39)) (N + 1) (c_st a47x)) (N + 1 + 1) (c_ba g (tlen t39) h47)) cr dr th kn rf pl pz mc) H locs := WM_push2 (by omega) B
                refine k_i (k := (C1 + 14)) (n := (S1 + 338)) hA B (b_V (q := N + 1) (rest := [.long (v_X4_add (v_X4_add (v_X4_add (v_X4_add de (v_X4_total (cr ca.toNatClampNeg))) ((v_X4_one (v_X4_isZeroNow cr ca)).toInt64)) ((v_X4_one (v_X4_isNegativeNow cr ca)).toInt64)) ((nI (tlen (cr ca.toNatClampNeg))).toInt64))]) ((up_lt (by omega)).trans up_eq) X (c_W_len l g (N + 1 + 1 + 1) (va_up (va_up (va_up ad N z39) (N + 1) a47) (N + 1 + 1) a47x) (mg g (va_up (va_up (va_up ad N z39) (N + 1) a47) (N + 1 + 1) a47x) (va_up (va_up (va_up y N (c_row g t39)) (N + 1) (c_st a47x)) (N + 1 + 1) (c_ba g (tlen t39) h47)) cr dr th kn rf pl pz mc) (N + 1) a47 (N + 1 + 1) a47x (tlen t39) h47 (by omega) (by omega) ((up_lt (by omega)).trans up_eq) up_eq ((mg_hi (by omega)).trans ((up_lt (by omega)).trans up_eq)) ((mg_hi (by omega)).trans up_eq) H.size) mw_J0_length_8abf5 md_J0_length_8abf5 rfl lk_X4_269 ⟨Nat.le_of_ble_eq_true rfl, Nat.le_of_ble_eq_true rfl⟩ hA hK hT B (by omega) ((mg_hi (by omega)).trans ((up_lt (by omega)).trans up_eq)) rfl rfl hl.1 rfl (Nat.le_of_ble_eq_true rfl) dX4_ofCards_114 (by dsimp only [rm]; omega)) (by dsimp only [rm]; omega) (by dsimp only [rm]; omega) (fun r ad' f' H locs hw B => ?_)
                obtain ⟨rfl, rfl, rfl⟩ := hw
                have B : WB g (aw N ad sz) s.heap N ad (mg g ad y cr dr th kn rf pl pz mc) H locs := WM_drop B (by omega) (by omega) (fun _ hk => (((up_lt (Nat.lt_succ_of_lt (Nat.lt_succ_of_lt hk))).trans (up_lt (Nat.lt_succ_of_lt hk))).trans (up_lt hk))) (fun _ hk => (((up_lt (Nat.lt_succ_of_lt (Nat.lt_succ_of_lt hk))).trans (up_lt (Nat.lt_succ_of_lt hk))).trans (up_lt hk)))
                refine lv_i2l (v := (nI (tlen t39)).toInt64) hx hb dX4_ofCards_117 rfl ?_
                refine k_l (k := (C1 + 14)) (n := (S1 + 338)) hA B (u_S (rest := []) X (c_X4_add l g N ad (mg g ad y cr dr th kn rf pl pz mc) (v_X4_add (v_X4_add (v_X4_add (v_X4_add de (v_X4_total (cr ca.toNatClampNeg))) ((v_X4_one (v_X4_isZeroNow cr ca)).toInt64)) ((v_X4_one (v_X4_isNegativeNow cr ca)).toInt64)) ((nI (tlen (cr ca.toNatClampNeg))).toInt64)) ((nI (tlen t39)).toInt64) H.size) mw_X4_add md_X4_add rfl lk_X4_266 ⟨Nat.le_of_ble_eq_true rfl, Nat.le_of_ble_eq_true rfl⟩ hA hK hT B hl.1 rfl (Nat.le_of_ble_eq_true rfl) dX4_ofCards_118 (by dsimp only [rm]; omega)) (by dsimp only [rm]; omega) (by dsimp only [rm]; omega) (fun r48 ad48 f' H locs hw B => ?_)
                obtain ⟨rfl, rfl, rfl⟩ := hw
                refine lv_aload_n hx hb dX4_ofCards_121 rfl (lv_at hl 3 rfl) ?_
                refine b_get (q := 24) (k := 1) hb0 X hK B rfl in_X4 (by omega) mg_24 (by decide) lk_X4_11 rfl rfl dX4_ofCards_122 ?_
                refine lv_iload hx hb dX4_ofCards_125 (lv_at hl 2 rfl) ?_
                refine b_aald (q := 25) (t0 := 2) (v := ad (28 + ca.toNatClampNeg)) rfl X hK B (by omega) mg_25 rfl rfl (ix_in (n := 4) hzca c2 rfl) rfl dX4_ofCards_127 ?_
                have g49 : ca.toNatClampNeg < 4 := (ix_lt (n := 4) hzca c2 rfl)
                refine k_r (k := (C1 + 16)) (n := (S1 + 344)) hA B (u_S (rest := [.long (v_X4_add (v_X4_add (v_X4_add (v_X4_add (v_X4_add de (v_X4_total (cr ca.toNatClampNeg))) ((v_X4_one (v_X4_isZeroNow cr ca)).toInt64)) ((v_X4_one (v_X4_isNegativeNow cr ca)).toInt64)) ((nI (tlen (cr ca.toNatClampNeg))).toInt64)) ((nI (tlen t39)).toInt64))]) X (c_X4_opposed l g N ad (mg g ad y cr dr th kn rf pl pz mc) (28 + ca.toNatClampNeg) (ad (28 + ca.toNatClampNeg)) (cr ca.toNatClampNeg) (pl_cr hN g49) rfl (mg_cr g49) H.size) mw_X4_opposed md_X4_opposed rfl lk_X4_121 ⟨Nat.le_of_ble_eq_true rfl, Nat.le_of_ble_eq_true rfl⟩ hA hK hT B hl.1 rfl (Nat.le_of_ble_eq_true rfl) dX4_ofCards_128 (by dsimp only [rm]; omega)) (by dsimp only [rm]; omega) (by dsimp only [rm]; omega) (fun r50 ad50 f' H locs hw B => ?_)
                generalize o51 : (v_X4_opposed (cr ca.toNatClampNeg)) = v9 at hw B
                cases v9 with
                | none =>
                  obtain ⟨rfl, rfl, rfl⟩ := pw_n hw
                  refine k_r (k := (C1 + 16)) (n := (S1 + 344)) hA B (u_S (rest := [.long (v_X4_add (v_X4_add (v_X4_add (v_X4_add (v_X4_add de (v_X4_total (cr ca.toNatClampNeg))) ((v_X4_one (v_X4_isZeroNow cr ca)).toInt64)) ((v_X4_one (v_X4_isNegativeNow cr ca)).toInt64)) ((nI (tlen (cr ca.toNatClampNeg))).toInt64)) ((nI (tlen t39)).toInt64))]) X (c_W_toldN l g N ad (mg g ad y cr dr th kn rf pl pz mc) H.size) mw_X4_told md_X4_told rfl lk_X4_145 ⟨Nat.le_of_ble_eq_true rfl, Nat.le_of_ble_eq_true rfl⟩ hA hK hT B hl.1 rfl (Nat.le_of_ble_eq_true rfl) dX4_ofCards_131 (by dsimp only [rm]; omega)) (by dsimp only [rm]; omega) (by dsimp only [rm]; omega) (fun r ad' f' H locs hw B => ?_)
                  obtain ⟨rfl, rfl, rfl⟩ := hw
                  refine k_i (k := (C1 + 16)) (n := (S1 + 344)) hA B (u_K (rest := [.long (v_X4_add (v_X4_add (v_X4_add (v_X4_add (v_X4_add de (v_X4_total (cr ca.toNatClampNeg))) ((v_X4_one (v_X4_isZeroNow cr ca)).toInt64)) ((v_X4_one (v_X4_isNegativeNow cr ca)).toInt64)) ((nI (tlen (cr ca.toNatClampNeg))).toInt64)) ((nI (tlen t39)).toInt64))]) (by decide) X (c_K_len l g N ad (mg g ad y cr dr th kn rf pl pz mc) 10 (by decide) H.size) mw_J0_length_8abf5 rfl md_J0_length_8abf5 rfl lk_X4_269 ⟨Nat.le_of_ble_eq_true rfl, Nat.le_of_ble_eq_true rfl⟩ hA hK hT B hl.1 rfl (Nat.le_of_ble_eq_true rfl) dX4_ofCards_134 (by dsimp only [rm]; omega)) (by dsimp only [rm]; omega) (by dsimp only [rm]; omega) (fun r ad' f' H locs hw B => ?_)
                  obtain ⟨rfl, rfl, rfl⟩ := hw
                  refine lv_i2l (v := (nI (st_len.getD 10 0)).toInt64) hx hb dX4_ofCards_137 rfl ?_
                  refine k_l (k := (C1 + 16)) (n := (S1 + 344)) hA B (u_S (rest := []) X (c_X4_add l g N ad (mg g ad y cr dr th kn rf pl pz mc) (v_X4_add (v_X4_add (v_X4_add (v_X4_add (v_X4_add de (v_X4_total (cr ca.toNatClampNeg))) ((v_X4_one (v_X4_isZeroNow cr ca)).toInt64)) ((v_X4_one (v_X4_isNegativeNow cr ca)).toInt64)) ((nI (tlen (cr ca.toNatClampNeg))).toInt64)) ((nI (tlen t39)).toInt64)) ((nI (st_len.getD 10 0)).toInt64) H.size) mw_X4_add md_X4_add rfl lk_X4_266 ⟨Nat.le_of_ble_eq_true rfl, Nat.le_of_ble_eq_true rfl⟩ hA hK hT B hl.1 rfl (Nat.le_of_ble_eq_true rfl) dX4_ofCards_138 (by dsimp only [rm]; omega)) (by dsimp only [rm]; omega) (by dsimp only [rm]; omega) (fun r52 ad52 f' H locs hw B => ?_)
                  obtain ⟨rfl, rfl, rfl⟩ := hw
                  refine lv_lstore_n (lv' := [(3, .long (v_X4_add (v_X4_add (v_X4_add (v_X4_add (v_X4_add (v_X4_add de (v_X4_total (cr ca.toNatClampNeg))) ((v_X4_one (v_X4_isZeroNow cr ca)).toInt64)) ((v_X4_one (v_X4_isNegativeNow cr ca)).toInt64)) ((nI (tlen (cr ca.toNatClampNeg))).toInt64)) ((nI (tlen t39)).toInt64)) ((nI (st_len.getD 10 0)).toInt64))), (6, .int wa), (5, .int ca), (0, .ref b0), (1, .long b1)]) hx hb dX4_ofCards_141 rfl hl (by decide) rfl (fun ls hl => ?_)
                  refine lv_iinc (v := ca + 1) (lv' := [(5, .int (ca + 1)), (3, .long (v_X4_add (v_X4_add (v_X4_add (v_X4_add (v_X4_add (v_X4_add de (v_X4_total (cr ca.toNatClampNeg))) ((v_X4_one (v_X4_isZeroNow cr ca)).toInt64)) ((v_X4_one (v_X4_isNegativeNow cr ca)).toInt64)) ((nI (tlen (cr ca.toNatClampNeg))).toInt64)) ((nI (tlen t39)).toInt64)) ((nI (st_len.getD 10 0)).toInt64))), (6, .int wa), (0, .ref b0), (1, .long b1)]) hx hb dX4_ofCards_142 hl (k := 2) rfl rfl (by decide) rfl (fun ls hl => ?_)
                  refine lv_goto (tgt := 5) hx hb dX4_ofCards_145 (by decide) ?_
                  exact ih1 (ca + 1) (v_X4_add (v_X4_add (v_X4_add (v_X4_add (v_X4_add (v_X4_add de (v_X4_total (cr ca.toNatClampNeg))) ((v_X4_one (v_X4_isZeroNow cr ca)).toInt64)) ((v_X4_one (v_X4_isNegativeNow cr ca)).toInt64)) ((nI (tlen (cr ca.toNatClampNeg))).toInt64)) ((nI (tlen t39)).toInt64)) ((nI (st_len.getD 10 0)).toInt64)) (C1 + 16) (S1 + 344) H locs (by omega) (by omega) (fu_le c2 hn1) (inc_nn hzca c2) B ls (lv_sub hl [0, 1, 3, 4] rfl)
                | some t51 =>
                  obtain ⟨z51, rfl, rfl, rfl⟩ := pw_s hw
                  have B : WB g (aw N ad sz) s.heap (N + 1) (va_up ad N z51) (mg g (va_up ad N z51) (va_up y N (c_row g t51)) cr dr th kn rf pl pz mc) H locs := WM_push (by omega) B
                  refine k_r (k := (C1 + 22)) (n := (S1 + 510)) hA B (u_S (rest := [.long (v_X4_add (v_X4_add (v_X4_add (v_X4_add (v_X4_add de (v_X4_total (cr ca.toNatClampNeg))) ((v_X4_one (v_X4_isZeroNow cr ca)).toInt64)) ((v_X4_one (v_X4_isNegativeNow cr ca)).toInt64)) ((nI (tlen (cr ca.toNatClampNeg))).toInt64)) ((nI (tlen t39)).toInt64))]) X (c_W_told l g (N + 1) (va_up ad N z51) (mg g (va_up ad N z51) (va_up y N (c_row g t51)) cr dr th kn rf pl pz mc) N z51 t51 (Nat.lt_succ_self _) up_eq ((mg_hi (by omega)).trans up_eq) H.size) mw_X4_told md_X4_told rfl lk_X4_145 ⟨Nat.le_of_ble_eq_true rfl, Nat.le_of_ble_eq_true rfl⟩ hA hK hT B hl.1 rfl (Nat.le_of_ble_eq_true rfl) dX4_ofCards_131 (by dsimp only [rm]; omega)) (by dsimp only [rm]; omega) (by dsimp only [rm]; omega) (fun r ad' f' H locs hw B => ?_)
                  obtain ⟨a53, a53x, h53, hF53, rfl, rfl, rfl⟩ := hw
                  have B : WB g (aw N ad sz) s.heap (N + 1 + 1 + 1) (va_up (va_up (va_up ad N z51) (N + 1) a53) (N + 1 + 1) a53x) (mg g (va_up (va_up (va_up ad N z51) (N + 1) a53) (N + 1 + 1) a53x) (va_up (va_up (va_up y N (c_row g t51)) (N + 1) (c_st a53x)) (N + 1 + 1) (c_ba g (tlen t51) h53)) cr dr th kn rf pl pz mc) H locs := WM_push2 (by omega) B
                  refine k_i (k := (C1 + 22)) (n := (S1 + 510)) hA B (b_V (q := N + 1) (rest := [.long (v_X4_add (v_X4_add (v_X4_add (v_X4_add (v_X4_add de (v_X4_total (cr ca.toNatClampNeg))) ((v_X4_one (v_X4_isZeroNow cr ca)).toInt64)) ((v_X4_one (v_X4_isNegativeNow cr ca)).toInt64)) ((nI (tlen (cr ca.toNatClampNeg))).toInt64)) ((nI (tlen t39)).toInt64))]) ((up_lt (by omega)).trans up_eq) X (c_W_len l g (N + 1 + 1 + 1) (va_up (va_up (va_up ad N z51) (N + 1) a53) (N + 1 + 1) a53x) (mg g (va_up (va_up (va_up ad N z51) (N + 1) a53) (N + 1 + 1) a53x) (va_up (va_up (va_up y N (c_row g t51)) (N + 1) (c_st a53x)) (N + 1 + 1) (c_ba g (tlen t51) h53)) cr dr th kn rf pl pz mc) (N + 1) a53 (N + 1 + 1) a53x (tlen t51) h53 (by omega) (by omega) ((up_lt (by omega)).trans up_eq) up_eq ((mg_hi (by omega)).trans ((up_lt (by omega)).trans up_eq)) ((mg_hi (by omega)).trans up_eq) H.size) mw_J0_length_8abf5 md_J0_length_8abf5 rfl lk_X4_269 ⟨Nat.le_of_ble_eq_true rfl, Nat.le_of_ble_eq_true rfl⟩ hA hK hT B (by omega) ((mg_hi (by omega)).trans ((up_lt (by omega)).trans up_eq)) rfl rfl hl.1 rfl (Nat.le_of_ble_eq_true rfl) dX4_ofCards_134 (by dsimp only [rm]; omega)) (by dsimp only [rm]; omega) (by dsimp only [rm]; omega) (fun r ad' f' H locs hw B => ?_)
                  obtain ⟨rfl, rfl, rfl⟩ := hw
                  have B : WB g (aw N ad sz) s.heap N ad (mg g ad y cr dr th kn rf pl pz mc) H locs := WM_drop B (by omega) (by omega) (fun _ hk => (((up_lt (Nat.lt_succ_of_lt (Nat.lt_succ_of_lt hk))).trans (up_lt (Nat.lt_succ_of_lt hk))).trans (up_lt hk))) (fun _ hk => (((up_lt (Nat.lt_succ_of_lt (Nat.lt_succ_of_lt hk))).trans (up_lt (Nat.lt_succ_of_lt hk))).trans (up_lt hk)))
                  refine lv_i2l (v := (nI (tlen t51)).toInt64) hx hb dX4_ofCards_137 rfl ?_
                  refine k_l (k := (C1 + 22)) (n := (S1 + 510)) hA B (u_S (rest := []) X (c_X4_add l g N ad (mg g ad y cr dr th kn rf pl pz mc) (v_X4_add (v_X4_add (v_X4_add (v_X4_add (v_X4_add de (v_X4_total (cr ca.toNatClampNeg))) ((v_X4_one (v_X4_isZeroNow cr ca)).toInt64)) ((v_X4_one (v_X4_isNegativeNow cr ca)).toInt64)) ((nI (tlen (cr ca.toNatClampNeg))).toInt64)) ((nI (tlen t39)).toInt64)) ((nI (tlen t51)).toInt64) H.size) mw_X4_add md_X4_add rfl lk_X4_266 ⟨Nat.le_of_ble_eq_true rfl, Nat.le_of_ble_eq_true rfl⟩ hA hK hT B hl.1 rfl (Nat.le_of_ble_eq_true rfl) dX4_ofCards_138 (by dsimp only [rm]; omega)) (by dsimp only [rm]; omega) (by dsimp only [rm]; omega) (fun r54 ad54 f' H locs hw B => ?_)
                  obtain ⟨rfl, rfl, rfl⟩ := hw
                  refine lv_lstore_n (lv' := [(3, .long (v_X4_add (v_X4_add (v_X4_add (v_X4_add (v_X4_add (v_X4_add de (v_X4_total (cr ca.toNatClampNeg))) ((v_X4_one (v_X4_isZeroNow cr ca)).toInt64)) ((v_X4_one (v_X4_isNegativeNow cr ca)).toInt64)) ((nI (tlen (cr ca.toNatClampNeg))).toInt64)) ((nI (tlen t39)).toInt64)) ((nI (tlen t51)).toInt64))), (6, .int wa), (5, .int ca), (0, .ref b0), (1, .long b1)]) hx hb dX4_ofCards_141 rfl hl (by decide) rfl (fun ls hl => ?_)
                  refine lv_iinc (v := ca + 1) (lv' := [(5, .int (ca + 1)), (3, .long (v_X4_add (v_X4_add (v_X4_add (v_X4_add (v_X4_add (v_X4_add de (v_X4_total (cr ca.toNatClampNeg))) ((v_X4_one (v_X4_isZeroNow cr ca)).toInt64)) ((v_X4_one (v_X4_isNegativeNow cr ca)).toInt64)) ((nI (tlen (cr ca.toNatClampNeg))).toInt64)) ((nI (tlen t39)).toInt64)) ((nI (tlen t51)).toInt64))), (6, .int wa), (0, .ref b0), (1, .long b1)]) hx hb dX4_ofCards_142 hl (k := 2) rfl rfl (by decide) rfl (fun ls hl => ?_)
                  refine lv_goto (tgt := 5) hx hb dX4_ofCards_145 (by decide) ?_
                  exact ih1 (ca + 1) (v_X4_add (v_X4_add (v_X4_add (v_X4_add (v_X4_add (v_X4_add de (v_X4_total (cr ca.toNatClampNeg))) ((v_X4_one (v_X4_isZeroNow cr ca)).toInt64)) ((v_X4_one (v_X4_isNegativeNow cr ca)).toInt64)) ((nI (tlen (cr ca.toNatClampNeg))).toInt64)) ((nI (tlen t39)).toInt64)) ((nI (tlen t51)).toInt64)) (C1 + 22) (S1 + 510) H locs (by omega) (by omega) (fu_le c2 hn1) (inc_nn hzca c2) B ls (lv_sub hl [0, 1, 3, 4] rfl)
            · refine lv_lload_n hx hb dX4_ofCards_20 rfl (lv_at hl 2 rfl) ?_
              refine lv_aload_n hx hb dX4_ofCards_21 rfl (lv_at hl 3 rfl) ?_
              refine b_get (q := 24) (k := 1) hb0 X hK B rfl in_X4 (by omega) mg_24 (by decide) lk_X4_11 rfl rfl dX4_ofCards_22 ?_
              refine lv_iload hx hb dX4_ofCards_25 (lv_at hl 1 rfl) ?_
              refine b_aald (q := 25) (t0 := 2) (v := ad (28 + ca.toNatClampNeg)) rfl X hK B (by omega) mg_25 rfl rfl (ix_in (n := 4) hzca c2 rfl) rfl dX4_ofCards_27 ?_
              have g55 : ca.toNatClampNeg < 4 := (ix_lt (n := 4) hzca c2 rfl)
              refine lv_iload hx hb dX4_ofCards_28 (lv_at hl 0 rfl) ?_
              refine h_ld X hK B (pl_cr hN g55) rfl (mg_cr g55) (ix_in (n := 3) hzwa c24 rfl) dX4_ofCards_30 ?_
              refine lv_i2l (v := (rw3 (cr ca.toNatClampNeg) wa.toNatClampNeg).toInt64) hx hb dX4_ofCards_31 rfl ?_
              refine k_l (k := (C23 + 0)) (n := (S23 + 0)) hA B (u_S (rest := []) X (c_X4_add l g N ad (mg g ad y cr dr th kn rf pl pz mc) de ((rw3 (cr ca.toNatClampNeg) wa.toNatClampNeg).toInt64) H.size) mw_X4_add md_X4_add rfl lk_X4_266 ⟨Nat.le_of_ble_eq_true rfl, Nat.le_of_ble_eq_true rfl⟩ hA hK hT B hl.1 rfl (Nat.le_of_ble_eq_true rfl) dX4_ofCards_32 (by dsimp only [rm]; omega)) (by dsimp only [rm]; omega) (by dsimp only [rm]; omega) (fun r56 ad56 f' H locs hw B => ?_)
              obtain ⟨rfl, rfl, rfl⟩ := hw
              refine lv_lstore_n (lv' := [(3, .long (v_X4_add de ((rw3 (cr ca.toNatClampNeg) wa.toNatClampNeg).toInt64))), (6, .int wa), (5, .int ca), (0, .ref b0), (1, .long b1)]) hx hb dX4_ofCards_35 rfl hl (by decide) rfl (fun ls hl => ?_)
              refine lv_iinc (v := wa + 1) (lv' := [(6, .int (wa + 1)), (3, .long (v_X4_add de ((rw3 (cr ca.toNatClampNeg) wa.toNatClampNeg).toInt64))), (5, .int ca), (0, .ref b0), (1, .long b1)]) hx hb dX4_ofCards_36 hl (k := 1) rfl rfl (by decide) rfl (fun ls hl => ?_)
              refine lv_goto (tgt := 14) hx hb dX4_ofCards_39 (by decide) ?_
              exact ih23 (wa + 1) (v_X4_add de ((rw3 (cr ca.toNatClampNeg) wa.toNatClampNeg).toInt64)) (C23 + 0) (S23 + 0) H locs (by omega) (by omega) (fu_le c24 hn23) (inc_nn hzwa c24) B ls (lv_sub hl [0, 2, 1, 3, 4] rfl)
        have hT23 : 3 + 1 ≤ 4 := (by decide)
        exact loop23 (3 + 1) 0 dd (C1 + 0) (S1 + 0) H locs (by first | exact Nat.le_refl _ | exact Nat.le_of_ble_eq_true rfl | omega) (by first | exact Nat.le_refl _ | exact Nat.le_of_ble_eq_true rfl | omega) (by decide) (by decide) B ls hl
  have hT1 : 4 + 1 ≤ 5 := (by decide)
  exact loop1 (4 + 1) 0 b1 0 0 H locs (by first | exact Nat.le_refl _ | exact Nat.le_of_ble_eq_true rfl | omega) (by first | exact Nat.le_refl _ | exact Nat.le_of_ble_eq_true rfl | omega) (by decide) (by decide) B ls hl
set_option maxHeartbeats 16000000 in
set_option maxRecDepth 100000 in
theorem c_X4_ofDates (l : Launch) (g : GG) (N : Nat) (ad : Nat → Nat) (y : Nat → va_E) (cr dr : Nat → TR) (th kn rf : Int32) (pl : Nat → TR) (pz : Nat) (mc : Int32) (hN : 36 + pz ≤ N) (b0 : Nat) (hb0 : ad 24 = b0) (b1 : Int64) (hdr : ∀ i, i < 4 → okd (dr i)) : KL l yX4_ofDates cX4_ofDates 7 (rm 8 500 6300) g [.ref b0, .long b1] N ad (mg g ad y cr dr th kn rf pl pz mc) N (fun r ad' f' => ad = ad' ∧ mg g ad y cr dr th kn rf pl pz mc = f') := by
  intro sz
  refine mt_start (by decide) (Nat.le_of_ble_eq_true rfl) ?_
  intro p e s m args below meth c hsz X hr hnam hA hK hT H locs B ls hl
  obtain ⟨hx, hb, hml, hown, hts, hlocks⟩ := id X
  have hl : lv_has ls 7 [(0, .ref b0), (1, .long b1)] := hl
  refine lv_lload_n hx hb dX4_ofDates_0 rfl (lv_at hl 1 rfl) ?_
  refine lv_lstore_n (lv' := [(3, .long b1), (0, .ref b0), (1, .long b1)]) hx hb dX4_ofDates_1 rfl hl (by decide) rfl (fun ls hl => ?_)
  refine lv_iconst (v := 0) hx hb dX4_ofDates_2 (by decide) ?_
  refine lv_istore (lv' := [(5, .int 0), (3, .long b1), (0, .ref b0), (1, .long b1)]) hx hb dX4_ofDates_3 hl (by decide) rfl (fun ls hl => ?_)
  have loop1 : ∀ (n1 : Nat) (da : Int32) (dd : Int64) (C1 : Nat) (S1 : Nat) (H : Heap) (locs : List Loc), C1 + n1 * 60 ≤ 300 → S1 + n1 * 400 ≤ 2000 → ((4 : Int32).toInt - da.toInt).toNat < n1 → ¬ da < 0 → WB g (aw N ad sz) s.heap N ad (mg g ad y cr dr th kn rf pl pz mc) H locs → ∀ ls : Array Slot, lv_has ls 7 [(5, .int da), (3, .long dd), (0, .ref b0), (1, .long b1)] → W p l e (rm 8 500 6300) s m args below meth c H locs C1 S1 (MQ below (va_Ql (fun r (u : WS) => (fun r ad' f' => ad = ad' ∧ mg g ad y cr dr th kn rf pl pz mc = f') r u.1 u.2) (fun u t => PO g N u.1 u.2 (aw N ad sz) t) (aw N ad sz)) args s (rm 8 500 6300).cells (rm 8 500 6300).slots (aw N ad sz)) (F0 m 5 ls []) := by
    intro n1
    induction n1 with
    | zero => intro da dd C1 S1 H locs _ _ hn; exact absurd hn (Nat.not_lt_zero _)
    | succ n1 ih1 =>
      intro da dd C1 S1 H locs hC1 hS1 hn1 hzda B ls hl
      refine lv_iload hx hb dX4_ofDates_5 (lv_at hl 0 rfl) ?_
      refine lv_iconst (v := 4) hx hb dX4_ofDates_7 (by decide) ?_
      refine lv_icmp_ge (tgt := 95) hx hb dX4_ofDates_8 (by decide) (fun c2 => ?_) (fun c2 => ?_)
      · refine W.widen (show (C1 + 0) ≤ 300 by omega) (show (S1 + 0) ≤ 2000 by omega) ?_
        refine lv_iconst (v := 0) hx hb dX4_ofDates_95 (by decide) ?_
        refine lv_istore (lv' := [(5, .int 0), (3, .long dd), (0, .ref b0), (1, .long b1)]) hx hb dX4_ofDates_96 hl (by decide) rfl (fun ls hl => ?_)
        have loop3 : ∀ (n3 : Nat) (dc : Int32) (dg : Int64) (C3 : Nat) (S3 : Nat) (H : Heap) (locs : List Loc), C3 + n3 * 40 ≤ 500 → S3 + n3 * 860 ≤ 6300 → ((4 : Int32).toInt - dc.toInt).toNat < n3 → ¬ dc < 0 → WB g (aw N ad sz) s.heap N ad (mg g ad y cr dr th kn rf pl pz mc) H locs → ∀ ls : Array Slot, lv_has ls 7 [(5, .int dc), (3, .long dg), (0, .ref b0), (1, .long b1)] → W p l e (rm 8 500 6300) s m args below meth c H locs C3 S3 (MQ below (va_Ql (fun r (u : WS) => (fun r ad' f' => ad = ad' ∧ mg g ad y cr dr th kn rf pl pz mc = f') r u.1 u.2) (fun u t => PO g N u.1 u.2 (aw N ad sz) t) (aw N ad sz)) args s (rm 8 500 6300).cells (rm 8 500 6300).slots (aw N ad sz)) (F0 m 98 ls []) := by
          intro n3
          induction n3 with
          | zero => intro dc dg C3 S3 H locs _ _ hn; exact absurd hn (Nat.not_lt_zero _)
          | succ n3 ih3 =>
            intro dc dg C3 S3 H locs hC3 hS3 hn3 hzdc B ls hl
            refine lv_iload hx hb dX4_ofDates_98 (lv_at hl 0 rfl) ?_
            refine lv_iconst (v := 4) hx hb dX4_ofDates_100 (by decide) ?_
            refine lv_icmp_ge (tgt := 166) hx hb dX4_ofDates_101 (by decide) (fun c4 => ?_) (fun c4 => ?_)
            · refine W.widen (show (C3 + 0) ≤ 500 by omega) (show (S3 + 0) ≤ 6300 by omega) ?_
              refine lv_lload_n hx hb dX4_ofDates_166 rfl (lv_at hl 1 rfl) ?_
              exact rt_l X hr (ad, mg g ad y cr dr th kn rf pl pz mc) B (PO_of B) ⟨rfl, rfl⟩ (Nat.le_of_ble_eq_true rfl) (Nat.le_of_ble_eq_true rfl) dX4_ofDates_167
            · refine lv_iconst (v := 0) hx hb dX4_ofDates_104 (by decide) ?_
              refine lv_istore (lv' := [(6, .int 0), (5, .int dc), (3, .long dg), (0, .ref b0), (1, .long b1)]) hx hb dX4_ofDates_105 hl (by decide) rfl (fun ls hl => ?_)
              have loop5 : ∀ (n5 : Nat) (dk : Int32) (dh : Int64) (C5 : Nat) (S5 : Nat) (H : Heap) (locs : List Loc), C5 + n5 * 8 ≤ (C3 + 40) → S5 + n5 * 172 ≤ (S3 + 860) → ((4 : Int32).toInt - dk.toInt).toNat < n5 → ¬ dk < 0 → WB g (aw N ad sz) s.heap N ad (mg g ad y cr dr th kn rf pl pz mc) H locs → ∀ ls : Array Slot, lv_has ls 7 [(6, .int dk), (5, .int dc), (3, .long dh), (0, .ref b0), (1, .long b1)] → W p l e (rm 8 500 6300) s m args below meth c H locs C5 S5 (MQ below (va_Ql (fun r (u : WS) => (fun r ad' f' => ad = ad' ∧ mg g ad y cr dr th kn rf pl pz mc = f') r u.1 u.2) (fun u t => PO g N u.1 u.2 (aw N ad sz) t) (aw N ad sz)) args s (rm 8 500 6300).cells (rm 8 500 6300).slots (aw N ad sz)) (F0 m 107 ls []) := by
                intro n5
                induction n5 with
                | zero => intro dk dh C5 S5 H locs _ _ hn; exact absurd hn (Nat.not_lt_zero _)
                | succ n5 ih5 =>
                  intro dk dh C5 S5 H locs hC5 hS5 hn5 hzdk B ls hl
                  refine lv_iload hx hb dX4_ofDates_107 (lv_at hl 0 rfl) ?_
                  refine lv_iconst (v := 4) hx hb dX4_ofDates_109 (by decide) ?_
                  refine lv_icmp_ge (tgt := 160) hx hb dX4_ofDates_110 (by decide) (fun c6 => ?_) (fun c6 => ?_)
                  · refine W.widen (show (C5 + 0) ≤ (C3 + 40) by omega) (show (S5 + 0) ≤ (S3 + 860) by omega) ?_
                    refine lv_iinc (v := dc + 1) (lv' := [(5, .int (dc + 1)), (6, .int dk), (3, .long dh), (0, .ref b0), (1, .long b1)]) hx hb dX4_ofDates_160 hl (k := 1) rfl rfl (by decide) rfl (fun ls hl => ?_)
                    refine lv_goto (tgt := 98) hx hb dX4_ofDates_163 (by decide) ?_
                    exact ih3 (dc + 1) dh (C3 + 40) (S3 + 860) H locs (by omega) (by omega) (fu_le c4 hn3) (inc_nn hzdc c4) B ls (lv_sub hl [0, 2, 3, 4] rfl)
                  · refine lv_lload_n hx hb dX4_ofDates_113 rfl (lv_at hl 2 rfl) ?_
                    refine lv_aload_n hx hb dX4_ofDates_114 rfl (lv_at hl 3 rfl) ?_
                    refine lv_iload hx hb dX4_ofDates_115 (lv_at hl 1 rfl) ?_
                    refine lv_iload hx hb dX4_ofDates_117 (lv_at hl 0 rfl) ?_
                    refine k_i (k := (C5 + 0)) (n := (S5 + 0)) hA B (b_V (q := 24) (rest := [.long dh]) hb0 X (c_X4_orderNow l g N ad y cr dr th kn rf pl pz mc (by omega) b0 hb0 dc dk (no_of hzdc c4) (no_of hzdk c6) hdr H.size) mw_X4_orderNow md_X4_orderNow rfl lk_X4_243 ⟨Nat.le_of_ble_eq_true rfl, Nat.le_of_ble_eq_true rfl⟩ hA hK hT B (by omega) mg_24 rfl rfl hl.1 rfl (Nat.le_of_ble_eq_true rfl) dX4_ofDates_119 (by dsimp only [rm]; omega)) (by dsimp only [rm]; omega) (by dsimp only [rm]; omega) (fun r7 ad7 f' H locs hw B => ?_)
                    obtain ⟨rfl, rfl, rfl⟩ := hw
                    refine lv_i2l (v := (v_X4_orderNow dr dc dk).toInt64) hx hb dX4_ofDates_122 rfl ?_
                    refine k_l (k := (C5 + 0)) (n := (S5 + 0)) hA B (u_S (rest := []) X (c_X4_add l g N ad (mg g ad y cr dr th kn rf pl pz mc) dh ((v_X4_orderNow dr dc dk).toInt64) H.size) mw_X4_add md_X4_add rfl lk_X4_266 ⟨Nat.le_of_ble_eq_true rfl, Nat.le_of_ble_eq_true rfl⟩ hA hK hT B hl.1 rfl (Nat.le_of_ble_eq_true rfl) dX4_ofDates_123 (by dsimp only [rm]; omega)) (by dsimp only [rm]; omega) (by dsimp only [rm]; omega) (fun r8 ad8 f' H locs hw B => ?_)
                    obtain ⟨rfl, rfl, rfl⟩ := hw
                    refine lv_aload_n hx hb dX4_ofDates_126 rfl (lv_at hl 3 rfl) ?_
                    refine b_get (q := 24) (k := 3) hb0 X hK B rfl in_X4 (by omega) mg_24 (by decide) lk_X4_23 rfl rfl dX4_ofDates_127 ?_
                    refine lv_iload hx hb dX4_ofDates_130 (lv_at hl 1 rfl) ?_
                    refine b_aald (q := 26) (t0 := 2) (v := ad (32 + dc.toNatClampNeg)) rfl X hK B (by omega) mg_26 rfl rfl (ix_in (n := 4) hzdc c4 rfl) rfl dX4_ofDates_132 ?_
                    have g9 : dc.toNatClampNeg < 4 := (ix_lt (n := 4) hzdc c4 rfl)
                    refine lv_aload_n hx hb dX4_ofDates_133 rfl (lv_at hl 3 rfl) ?_
                    refine b_get (q := 24) (k := 3) hb0 X hK B rfl in_X4 (by omega) mg_24 (by decide) lk_X4_23 rfl rfl dX4_ofDates_134 ?_
                    refine lv_iload hx hb dX4_ofDates_137 (lv_at hl 0 rfl) ?_
                    refine b_aald (q := 26) (t0 := 2) (v := ad (32 + dk.toNatClampNeg)) rfl X hK B (by omega) mg_26 rfl rfl (ix_in (n := 4) hzdk c6 rfl) rfl dX4_ofDates_139 ?_
                    have g10 : dk.toNatClampNeg < 4 := (ix_lt (n := 4) hzdk c6 rfl)
                    refine k_r (k := (C5 + 2)) (n := (S5 + 6)) hA B (u_S (rest := [.long (v_X4_add dh ((v_X4_orderNow dr dc dk).toInt64))]) X (c_X4_apart l g N ad (mg g ad y cr dr th kn rf pl pz mc) (32 + dc.toNatClampNeg) (ad (32 + dc.toNatClampNeg)) (dr dc.toNatClampNeg) (pl_dr hN g9) rfl (mg_dr g9) (32 + dk.toNatClampNeg) (ad (32 + dk.toNatClampNeg)) (dr dk.toNatClampNeg) (pl_dr hN g10) rfl (mg_dr g10) (hdr _ g9) (hdr _ g10) H.size) mw_X4_apart md_X4_apart rfl lk_X4_219 ⟨Nat.le_of_ble_eq_true rfl, Nat.le_of_ble_eq_true rfl⟩ hA hK hT B hl.1 rfl (Nat.le_of_ble_eq_true rfl) dX4_ofDates_140 (by dsimp only [rm]; omega)) (by dsimp only [rm]; omega) (by dsimp only [rm]; omega) (fun r11 ad11 f' H locs hw B => ?_)
                    generalize o12 : (v_X4_apart (dr dc.toNatClampNeg) (dr dk.toNatClampNeg)) = v9 at hw B
                    cases v9 with
                    | none =>
                      obtain ⟨rfl, rfl, rfl⟩ := pw_n hw
                      refine k_r (k := (C5 + 2)) (n := (S5 + 6)) hA B (u_S (rest := [.long (v_X4_add dh ((v_X4_orderNow dr dc dk).toInt64))]) X (c_W_toldN l g N ad (mg g ad y cr dr th kn rf pl pz mc) H.size) mw_X4_told md_X4_told rfl lk_X4_145 ⟨Nat.le_of_ble_eq_true rfl, Nat.le_of_ble_eq_true rfl⟩ hA hK hT B hl.1 rfl (Nat.le_of_ble_eq_true rfl) dX4_ofDates_143 (by dsimp only [rm]; omega)) (by dsimp only [rm]; omega) (by dsimp only [rm]; omega) (fun r ad' f' H locs hw B => ?_)
                      obtain ⟨rfl, rfl, rfl⟩ := hw
                      refine k_i (k := (C5 + 2)) (n := (S5 + 6)) hA B (u_K (rest := [.long (v_X4_add dh ((v_X4_orderNow dr dc dk).toInt64))]) (by decide) X (c_K_len l g N ad (mg g ad y cr dr th kn rf pl pz mc) 10 (by decide) H.size) mw_J0_length_8abf5 rfl md_J0_length_8abf5 rfl lk_X4_269 ⟨Nat.le_of_ble_eq_true rfl, Nat.le_of_ble_eq_true rfl⟩ hA hK hT B hl.1 rfl (Nat.le_of_ble_eq_true rfl) dX4_ofDates_146 (by dsimp only [rm]; omega)) (by dsimp only [rm]; omega) (by dsimp only [rm]; omega) (fun r ad' f' H locs hw B => ?_)
                      obtain ⟨rfl, rfl, rfl⟩ := hw
                      refine lv_i2l (v := (nI (st_len.getD 10 0)).toInt64) hx hb dX4_ofDates_149 rfl ?_
                      refine k_l (k := (C5 + 2)) (n := (S5 + 6)) hA B (u_S (rest := []) X (c_X4_add l g N ad (mg g ad y cr dr th kn rf pl pz mc) (v_X4_add dh ((v_X4_orderNow dr dc dk).toInt64)) ((nI (st_len.getD 10 0)).toInt64) H.size) mw_X4_add md_X4_add rfl lk_X4_266 ⟨Nat.le_of_ble_eq_true rfl, Nat.le_of_ble_eq_true rfl⟩ hA hK hT B hl.1 rfl (Nat.le_of_ble_eq_true rfl) dX4_ofDates_150 (by dsimp only [rm]; omega)) (by dsimp only [rm]; omega) (by dsimp only [rm]; omega) (fun r13 ad13 f' H locs hw B => ?_)
                      obtain ⟨rfl, rfl, rfl⟩ := hw
                      refine lv_lstore_n (lv' := [(3, .long (v_X4_add (v_X4_add dh ((v_X4_orderNow dr dc dk).toInt64)) ((nI (st_len.getD 10 0)).toInt64))), (6, .int dk), (5, .int dc), (0, .ref b0), (1, .long b1)]) hx hb dX4_ofDates_153 rfl hl (by decide) rfl (fun ls hl => ?_)
                      refine lv_iinc (v := dk + 1) (lv' := [(6, .int (dk + 1)), (3, .long (v_X4_add (v_X4_add dh ((v_X4_orderNow dr dc dk).toInt64)) ((nI (st_len.getD 10 0)).toInt64))), (5, .int dc), (0, .ref b0), (1, .long b1)]) hx hb dX4_ofDates_154 hl (k := 1) rfl rfl (by decide) rfl (fun ls hl => ?_)
                      refine lv_goto (tgt := 107) hx hb dX4_ofDates_157 (by decide) ?_
                      exact ih5 (dk + 1) (v_X4_add (v_X4_add dh ((v_X4_orderNow dr dc dk).toInt64)) ((nI (st_len.getD 10 0)).toInt64)) (C5 + 2) (S5 + 6) H locs (by omega) (by omega) (fu_le c6 hn5) (inc_nn hzdk c6) B ls (lv_sub hl [0, 2, 1, 3, 4] rfl)
                    | some t12 =>
                      obtain ⟨z12, rfl, rfl, rfl⟩ := pw_s hw
                      have B : WB g (aw N ad sz) s.heap (N + 1) (va_up ad N z12) (mg g (va_up ad N z12) (va_up y N (c_row g t12)) cr dr th kn rf pl pz mc) H locs := WM_push (by omega) B
                      refine k_r (k := (C5 + 8)) (n := (S5 + 172)) hA B (u_S (rest := [.long (v_X4_add dh ((v_X4_orderNow dr dc dk).toInt64))]) X (c_W_told l g (N + 1) (va_up ad N z12) (mg g (va_up ad N z12) (va_up y N (c_row g t12)) cr dr th kn rf pl pz mc) N z12 t12 (Nat.lt_succ_self _) up_eq ((mg_hi (by omega)).trans up_eq) H.size) mw_X4_told md_X4_told rfl lk_X4_145 ⟨Nat.le_of_ble_eq_true rfl, Nat.le_of_ble_eq_true rfl⟩ hA hK hT B hl.1 rfl (Nat.le_of_ble_eq_true rfl) dX4_ofDates_143 (by dsimp only [rm]; omega)) (by dsimp only [rm]; omega) (by dsimp only [rm]; omega) (fun r ad' f' H locs hw B => ?_)
                      obtain ⟨a14, a14x, h14, hF14, rfl, rfl, rfl⟩ := hw
                      have B : WB g (aw N ad sz) s.heap (N + 1 + 1 + 1) (va_up (va_up (va_up ad N z12) (N + 1) a14) (N + 1 + 1) a14x) (mg g (va_up (va_up (va_up ad N z12) (N + 1) a14) (N + 1 + 1) a14x) (va_up (va_up (va_up y N (c_row g t12)) (N + 1) (c_st a14x)) (N + 1 + 1) (c_ba g (tlen t12) h14)) cr dr th kn rf pl pz mc) H locs := WM_push2 (by omega) B
                      refine k_i (k := (C5 + 8)) (n := (S5 + 172)) hA B (b_V (q := N + 1) (rest := [.long (v_X4_add dh ((v_X4_orderNow dr dc dk).toInt64))]) ((up_lt (by omega)).trans up_eq) X (c_W_len l g (N + 1 + 1 + 1) (va_up (va_up (va_up ad N z12) (N + 1) a14) (N + 1 + 1) a14x) (mg g (va_up (va_up (va_up ad N z12) (N + 1) a14) (N + 1 + 1) a14x) (va_up (va_up (va_up y N (c_row g t12)) (N + 1) (c_st a14x)) (N + 1 + 1) (c_ba g (tlen t12) h14)) cr dr th kn rf pl pz mc) (N + 1) a14 (N + 1 + 1) a14x (tlen t12) h14 (by omega) (by omega) ((up_lt (by omega)).trans up_eq) up_eq ((mg_hi (by omega)).trans ((up_lt (by omega)).trans up_eq)) ((mg_hi (by omega)).trans up_eq) H.size) mw_J0_length_8abf5 md_J0_length_8abf5 rfl lk_X4_269 ⟨Nat.le_of_ble_eq_true rfl, Nat.le_of_ble_eq_true rfl⟩ hA hK hT B (by omega) ((mg_hi (by omega)).trans ((up_lt (by omega)).trans up_eq)) rfl rfl hl.1 rfl (Nat.le_of_ble_eq_true rfl) dX4_ofDates_146 (by dsimp only [rm]; omega)) (by dsimp only [rm]; omega) (by dsimp only [rm]; omega) (fun r ad' f' H locs hw B => ?_)
                      obtain ⟨rfl, rfl, rfl⟩ := hw
                      have B : WB g (aw N ad sz) s.heap N ad (mg g ad y cr dr th kn rf pl pz mc) H locs := WM_drop B (by omega) (by omega) (fun _ hk => (((up_lt (Nat.lt_succ_of_lt (Nat.lt_succ_of_lt hk))).trans (up_lt (Nat.lt_succ_of_lt hk))).trans (up_lt hk))) (fun _ hk => (((up_lt (Nat.lt_succ_of_lt (Nat.lt_succ_of_lt hk))).trans (up_lt (Nat.lt_succ_of_lt hk))).trans (up_lt hk)))
                      refine lv_i2l (v := (nI (tlen t12)).toInt64) hx hb dX4_ofDates_149 rfl ?_
                      refine k_l (k := (C5 + 8)) (n := (S5 + 172)) hA B (u_S (rest := []) X (c_X4_add l g N ad (mg g ad y cr dr th kn rf pl pz mc) (v_X4_add dh ((v_X4_orderNow dr dc dk).toInt64)) ((nI (tlen t12)).toInt64) H.size) mw_X4_add md_X4_add rfl lk_X4_266 ⟨Nat.le_of_ble_eq_true rfl, Nat.le_of_ble_eq_true rfl⟩ hA hK hT B hl.1 rfl (Nat.le_of_ble_eq_true rfl) dX4_ofDates_150 (by dsimp only [rm]; omega)) (by dsimp only [rm]; omega) (by dsimp only [rm]; omega) (fun r15 ad15 f' H locs hw B => ?_)
                      obtain ⟨rfl, rfl, rfl⟩ := hw
                      refine lv_lstore_n (lv' := [(3, .long (v_X4_add (v_X4_add dh ((v_X4_orderNow dr dc dk).toInt64)) ((nI (tlen t12)).toInt64))), (6, .int dk), (5, .int dc), (0, .ref b0), (1, .long b1)]) hx hb dX4_ofDates_153 rfl hl (by decide) rfl (fun ls hl => ?_)
                      refine lv_iinc (v := dk + 1) (lv' := [(6, .int (dk + 1)), (3, .long (v_X4_add (v_X4_add dh ((v_X4_orderNow dr dc dk).toInt64)) ((nI (tlen t12)).toInt64))), (5, .int dc), (0, .ref b0), (1, .long b1)]) hx hb dX4_ofDates_154 hl (k := 1) rfl rfl (by decide) rfl (fun ls hl => ?_)
                      refine lv_goto (tgt := 107) hx hb dX4_ofDates_157 (by decide) ?_
                      exact ih5 (dk + 1) (v_X4_add (v_X4_add dh ((v_X4_orderNow dr dc dk).toInt64)) ((nI (tlen t12)).toInt64)) (C5 + 8) (S5 + 172) H locs (by omega) (by omega) (fu_le c6 hn5) (inc_nn hzdk c6) B ls (lv_sub hl [0, 2, 1, 3, 4] rfl)
              have hT5 : 4 + 1 ≤ 5 := (by decide)
              exact loop5 (4 + 1) 0 dg (C3 + 0) (S3 + 0) H locs (by first | exact Nat.le_refl _ | exact Nat.le_of_ble_eq_true rfl | omega) (by first | exact Nat.le_refl _ | exact Nat.le_of_ble_eq_true rfl | omega) (by decide) (by decide) B ls hl
        have hT3 : 4 + 1 ≤ 5 := (by decide)
        exact loop3 (4 + 1) 0 dd 300 2000 H locs (by first | exact Nat.le_refl _ | exact Nat.le_of_ble_eq_true rfl | omega) (by first | exact Nat.le_refl _ | exact Nat.le_of_ble_eq_true rfl | omega) (by decide) (by decide) B ls hl
      · refine lv_iconst (v := 0) hx hb dX4_ofDates_11 (by decide) ?_
        refine lv_istore (lv' := [(6, .int 0), (5, .int da), (3, .long dd), (0, .ref b0), (1, .long b1)]) hx hb dX4_ofDates_12 hl (by decide) rfl (fun ls hl => ?_)
        have loop16 : ∀ (n16 : Nat) (wa : Int32) (de : Int64) (C16 : Nat) (S16 : Nat) (H : Heap) (locs : List Loc), C16 + n16 * 0 ≤ (C1 + 0) → S16 + n16 * 0 ≤ (S1 + 0) → ((4 : Int32).toInt - wa.toInt).toNat < n16 → ¬ wa < 0 → WB g (aw N ad sz) s.heap N ad (mg g ad y cr dr th kn rf pl pz mc) H locs → ∀ ls : Array Slot, lv_has ls 7 [(6, .int wa), (5, .int da), (3, .long de), (0, .ref b0), (1, .long b1)] → W p l e (rm 8 500 6300) s m args below meth c H locs C16 S16 (MQ below (va_Ql (fun r (u : WS) => (fun r ad' f' => ad = ad' ∧ mg g ad y cr dr th kn rf pl pz mc = f') r u.1 u.2) (fun u t => PO g N u.1 u.2 (aw N ad sz) t) (aw N ad sz)) args s (rm 8 500 6300).cells (rm 8 500 6300).slots (aw N ad sz)) (F0 m 14 ls []) := by
          intro n16
          induction n16 with
          | zero => intro wa de C16 S16 H locs _ _ hn; exact absurd hn (Nat.not_lt_zero _)
          | succ n16 ih16 =>
            intro wa de C16 S16 H locs hC16 hS16 hn16 hzwa B ls hl
            refine lv_iload hx hb dX4_ofDates_14 (lv_at hl 0 rfl) ?_
            refine lv_iconst (v := 4) hx hb dX4_ofDates_16 (by decide) ?_
            refine lv_icmp_ge (tgt := 40) hx hb dX4_ofDates_17 (by decide) (fun c17 => ?_) (fun c17 => ?_)
            · refine W.widen (show (C16 + 0) ≤ (C1 + 0) by omega) (show (S16 + 0) ≤ (S1 + 0) by omega) ?_
              refine lv_iconst (v := 0) hx hb dX4_ofDates_40 (by decide) ?_
              refine lv_istore (lv' := [(6, .int 0), (5, .int da), (3, .long de), (0, .ref b0), (1, .long b1)]) hx hb dX4_ofDates_41 hl (by decide) rfl (fun ls hl => ?_)
              have loop18 : ∀ (n18 : Nat) (cb : Int32) (df : Int64) (C18 : Nat) (S18 : Nat) (H : Heap) (locs : List Loc), C18 + n18 * 12 ≤ (C1 + 60) → S18 + n18 * 80 ≤ (S1 + 400) → ((4 : Int32).toInt - cb.toInt).toNat < n18 → ¬ cb < 0 → WB g (aw N ad sz) s.heap N ad (mg g ad y cr dr th kn rf pl pz mc) H locs → ∀ ls : Array Slot, lv_has ls 7 [(6, .int cb), (5, .int da), (3, .long df), (0, .ref b0), (1, .long b1)] → W p l e (rm 8 500 6300) s m args below meth c H locs C18 S18 (MQ below (va_Ql (fun r (u : WS) => (fun r ad' f' => ad = ad' ∧ mg g ad y cr dr th kn rf pl pz mc = f') r u.1 u.2) (fun u t => PO g N u.1 u.2 (aw N ad sz) t) (aw N ad sz)) args s (rm 8 500 6300).cells (rm 8 500 6300).slots (aw N ad sz)) (F0 m 43 ls []) := by
                intro n18
                induction n18 with
                | zero => intro cb df C18 S18 H locs _ _ hn; exact absurd hn (Nat.not_lt_zero _)
                | succ n18 ih18 =>
                  intro cb df C18 S18 H locs hC18 hS18 hn18 hzcb B ls hl
                  refine lv_iload hx hb dX4_ofDates_43 (lv_at hl 0 rfl) ?_
                  refine lv_iconst (v := 4) hx hb dX4_ofDates_45 (by decide) ?_
                  refine lv_icmp_ge (tgt := 89) hx hb dX4_ofDates_46 (by decide) (fun c19 => ?_) (fun c19 => ?_)
                  · refine W.widen (show (C18 + 0) ≤ (C1 + 60) by omega) (show (S18 + 0) ≤ (S1 + 400) by omega) ?_
                    refine lv_iinc (v := da + 1) (lv' := [(5, .int (da + 1)), (6, .int cb), (3, .long df), (0, .ref b0), (1, .long b1)]) hx hb dX4_ofDates_89 hl (k := 1) rfl rfl (by decide) rfl (fun ls hl => ?_)
                    refine lv_goto (tgt := 5) hx hb dX4_ofDates_92 (by decide) ?_
                    exact ih1 (da + 1) df (C1 + 60) (S1 + 400) H locs (by omega) (by omega) (fu_le c2 hn1) (inc_nn hzda c2) B ls (lv_sub hl [0, 2, 3, 4] rfl)
                  · refine lv_lload_n hx hb dX4_ofDates_49 rfl (lv_at hl 2 rfl) ?_
                    refine lv_aload_n hx hb dX4_ofDates_50 rfl (lv_at hl 3 rfl) ?_
                    refine lv_iload hx hb dX4_ofDates_51 (lv_at hl 1 rfl) ?_
                    refine lv_iload hx hb dX4_ofDates_53 (lv_at hl 0 rfl) ?_
                    refine lv_iconst (v := 0) hx hb dX4_ofDates_55 (by decide) ?_
                    cases o20 : (v_X4_onBy (dr da.toNatClampNeg) (cr cb.toNatClampNeg) 1) with
                    | none =>
                      refine k_r (k := (C18 + 2)) (n := (S18 + 6)) hA B (b_V (q := 24) (rest := [.long df]) hb0 X (c_X4_movedNowN l g N ad y cr dr th kn rf pl pz mc (by omega) b0 hb0 da cb 0 (no_of hzda c2) (no_of hzcb c19) hdr (show v_X4_onBy (dr da.toNatClampNeg) (cr cb.toNatClampNeg) (msg 0) = none by rw [show msg 0 = 1 from rfl]; exact o20) H.size) mw_X4_movedNow md_X4_movedNow rfl lk_X4_235 ⟨Nat.le_of_ble_eq_true rfl, Nat.le_of_ble_eq_true rfl⟩ hA hK hT B (by omega) mg_24 rfl rfl hl.1 rfl (Nat.le_of_ble_eq_true rfl) dX4_ofDates_56 (by dsimp only [rm]; omega)) (by dsimp only [rm]; omega) (by dsimp only [rm]; omega) (fun r ad' f' H locs hw B => ?_)
                      obtain ⟨rfl, rfl, rfl⟩ := hw
                      refine k_i (k := (C18 + 2)) (n := (S18 + 6)) hA B (u_K (rest := [.long df]) (by decide) X (c_K_len l g N ad (mg g ad y cr dr th kn rf pl pz mc) 10 (by decide) H.size) mw_J0_length_8abf5 rfl md_J0_length_8abf5 rfl lk_X4_269 ⟨Nat.le_of_ble_eq_true rfl, Nat.le_of_ble_eq_true rfl⟩ hA hK hT B hl.1 rfl (Nat.le_of_ble_eq_true rfl) dX4_ofDates_59 (by dsimp only [rm]; omega)) (by dsimp only [rm]; omega) (by dsimp only [rm]; omega) (fun r ad' f' H locs hw B => ?_)
                      obtain ⟨rfl, rfl, rfl⟩ := hw
                      refine lv_i2l (v := (nI (st_len.getD 10 0)).toInt64) hx hb dX4_ofDates_62 rfl ?_
                      refine k_l (k := (C18 + 2)) (n := (S18 + 6)) hA B (u_S (rest := []) X (c_X4_add l g N ad (mg g ad y cr dr th kn rf pl pz mc) df ((nI (st_len.getD 10 0)).toInt64) H.size) mw_X4_add md_X4_add rfl lk_X4_266 ⟨Nat.le_of_ble_eq_true rfl, Nat.le_of_ble_eq_true rfl⟩ hA hK hT B hl.1 rfl (Nat.le_of_ble_eq_true rfl) dX4_ofDates_63 (by dsimp only [rm]; omega)) (by dsimp only [rm]; omega) (by dsimp only [rm]; omega) (fun r23 ad23 f' H locs hw B => ?_)
                      obtain ⟨rfl, rfl, rfl⟩ := hw
                      refine lv_aload_n hx hb dX4_ofDates_66 rfl (lv_at hl 3 rfl) ?_
                      refine lv_iload hx hb dX4_ofDates_67 (lv_at hl 1 rfl) ?_
                      refine lv_iload hx hb dX4_ofDates_69 (lv_at hl 0 rfl) ?_
                      refine lv_iconst (v := 1) hx hb dX4_ofDates_71 (by decide) ?_
                      cases o24 : (v_X4_onBy (dr da.toNatClampNeg) (cr cb.toNatClampNeg) (-1)) with
                      | none =>
                        refine k_r (k := (C18 + 4)) (n := (S18 + 12)) hA B (b_V (q := 24) (rest := [.long (v_X4_add df ((nI (st_len.getD 10 0)).toInt64))]) hb0 X (c_X4_movedNowN l g N ad y cr dr th kn rf pl pz mc (by omega) b0 hb0 da cb 1 (no_of hzda c2) (no_of hzcb c19) hdr (show v_X4_onBy (dr da.toNatClampNeg) (cr cb.toNatClampNeg) (msg 1) = none by rw [show msg 1 = (-1) from rfl]; exact o24) H.size) mw_X4_movedNow md_X4_movedNow rfl lk_X4_235 ⟨Nat.le_of_ble_eq_true rfl, Nat.le_of_ble_eq_true rfl⟩ hA hK hT B (by omega) mg_24 rfl rfl hl.1 rfl (Nat.le_of_ble_eq_true rfl) dX4_ofDates_72 (by dsimp only [rm]; omega)) (by dsimp only [rm]; omega) (by dsimp only [rm]; omega) (fun r ad' f' H locs hw B => ?_)
                        obtain ⟨rfl, rfl, rfl⟩ := hw
                        refine k_i (k := (C18 + 4)) (n := (S18 + 12)) hA B (u_K (rest := [.long (v_X4_add df ((nI (st_len.getD 10 0)).toInt64))]) (by decide) X (c_K_len l g N ad (mg g ad y cr dr th kn rf pl pz mc) 10 (by decide) H.size) mw_J0_length_8abf5 rfl md_J0_length_8abf5 rfl lk_X4_269 ⟨Nat.le_of_ble_eq_true rfl, Nat.le_of_ble_eq_true rfl⟩ hA hK hT B hl.1 rfl (Nat.le_of_ble_eq_true rfl) dX4_ofDates_75 (by dsimp only [rm]; omega)) (by dsimp only [rm]; omega) (by dsimp only [rm]; omega) (fun r ad' f' H locs hw B => ?_)
                        obtain ⟨rfl, rfl, rfl⟩ := hw
                        refine lv_i2l (v := (nI (st_len.getD 10 0)).toInt64) hx hb dX4_ofDates_78 rfl ?_
                        refine k_l (k := (C18 + 4)) (n := (S18 + 12)) hA B (u_S (rest := []) X (c_X4_add l g N ad (mg g ad y cr dr th kn rf pl pz mc) (v_X4_add df ((nI (st_len.getD 10 0)).toInt64)) ((nI (st_len.getD 10 0)).toInt64) H.size) mw_X4_add md_X4_add rfl lk_X4_266 ⟨Nat.le_of_ble_eq_true rfl, Nat.le_of_ble_eq_true rfl⟩ hA hK hT B hl.1 rfl (Nat.le_of_ble_eq_true rfl) dX4_ofDates_79 (by dsimp only [rm]; omega)) (by dsimp only [rm]; omega) (by dsimp only [rm]; omega) (fun r27 ad27 f' H locs hw B => ?_)
                        obtain ⟨rfl, rfl, rfl⟩ := hw
                        refine lv_lstore_n (lv' := [(3, .long (v_X4_add (v_X4_add df ((nI (st_len.getD 10 0)).toInt64)) ((nI (st_len.getD 10 0)).toInt64))), (6, .int cb), (5, .int da), (0, .ref b0), (1, .long b1)]) hx hb dX4_ofDates_82 rfl hl (by decide) rfl (fun ls hl => ?_)
                        refine lv_iinc (v := cb + 1) (lv' := [(6, .int (cb + 1)), (3, .long (v_X4_add (v_X4_add df ((nI (st_len.getD 10 0)).toInt64)) ((nI (st_len.getD 10 0)).toInt64))), (5, .int da), (0, .ref b0), (1, .long b1)]) hx hb dX4_ofDates_83 hl (k := 1) rfl rfl (by decide) rfl (fun ls hl => ?_)
                        refine lv_goto (tgt := 43) hx hb dX4_ofDates_86 (by decide) ?_
                        exact ih18 (cb + 1) (v_X4_add (v_X4_add df ((nI (st_len.getD 10 0)).toInt64)) ((nI (st_len.getD 10 0)).toInt64)) (C18 + 4) (S18 + 12) H locs (by omega) (by omega) (fu_le c19 hn18) (inc_nn hzcb c19) B ls (lv_sub hl [0, 2, 1, 3, 4] rfl)
                      | some t25 =>
                        refine k_r (k := (C18 + 8)) (n := (S18 + 46)) hA B (b_V (q := 24) (rest := [.long (v_X4_add df ((nI (st_len.getD 10 0)).toInt64))]) hb0 X (c_X4_movedNowY l g N ad y cr dr th kn rf pl pz mc (by omega) b0 hb0 da cb 1 (no_of hzda c2) (no_of hzcb c19) hdr t25 (show v_X4_onBy (dr da.toNatClampNeg) (cr cb.toNatClampNeg) (msg 1) = some t25 by rw [show msg 1 = (-1) from rfl]; exact o24) H.size) mw_X4_movedNow md_X4_movedNow rfl lk_X4_235 ⟨Nat.le_of_ble_eq_true rfl, Nat.le_of_ble_eq_true rfl⟩ hA hK hT B (by omega) mg_24 rfl rfl hl.1 rfl (Nat.le_of_ble_eq_true rfl) dX4_ofDates_72 (by dsimp only [rm]; omega)) (by dsimp only [rm]; omega) (by dsimp only [rm]; omega) (fun r ad' f' H locs hw B => ?_)
                        dsimp only at hw
                        obtain ⟨a26, a26x, h26, hF26, rfl, rfl, rfl⟩ := hw
                        have B : WB g (aw N ad sz) s.heap (N + 1 + 1) (va_up (va_up ad N a26) (N + 1) a26x) (mg g (va_up (va_up ad N a26) (N + 1) a26x) (va_up (va_up y N (c_st a26x)) (N + 1) (c_ba g (dlen t25) h26)) cr dr th kn rf pl pz mc) H locs := B
                        refine k_i (k := (C18 + 8)) (n := (S18 + 46)) hA B (b_V (q := N) (rest := [.long (v_X4_add df ((nI (st_len.getD 10 0)).toInt64))]) ((up_lt (by omega)).trans up_eq) X (c_W_len l g (N + 1 + 1) (va_up (va_up ad N a26) (N + 1) a26x) (mg g (va_up (va_up ad N a26) (N + 1) a26x) (va_up (va_up y N (c_st a26x)) (N + 1) (c_ba g (dlen t25) h26)) cr dr th kn rf pl pz mc) N a26 (N + 1) a26x (dlen t25) h26 (by omega) (by omega) ((up_lt (by omega)).trans up_eq) up_eq ((mg_hi (by omega)).trans ((up_lt (by omega)).trans up_eq)) ((mg_hi (by omega)).trans up_eq) H.size) mw_J0_length_8abf5 md_J0_length_8abf5 rfl lk_X4_269 ⟨Nat.le_of_ble_eq_true rfl, Nat.le_of_ble_eq_true rfl⟩ hA hK hT B (by omega) ((mg_hi (by omega)).trans ((up_lt (by omega)).trans up_eq)) rfl rfl hl.1 rfl (Nat.le_of_ble_eq_true rfl) dX4_ofDates_75 (by dsimp only [rm]; omega)) (by dsimp only [rm]; omega) (by dsimp only [rm]; omega) (fun r ad' f' H locs hw B => ?_)
                        obtain ⟨rfl, rfl, rfl⟩ := hw
                        have B : WB g (aw N ad sz) s.heap N ad (mg g ad y cr dr th kn rf pl pz mc) H locs := WM_drop B (by omega) (by omega) (fun _ hk => ((up_lt (Nat.lt_succ_of_lt hk)).trans (up_lt hk))) (fun _ hk => ((up_lt (Nat.lt_succ_of_lt hk)).trans (up_lt hk)))
                        refine lv_i2l (v := (nI (dlen t25)).toInt64) hx hb dX4_ofDates_78 rfl ?_
                        refine k_l (k := (C18 + 8)) (n := (S18 + 46)) hA B (u_S (rest := []) X (c_X4_add l g N ad (mg g ad y cr dr th kn rf pl pz mc) (v_X4_add df ((nI (st_len.getD 10 0)).toInt64)) ((nI (dlen t25)).toInt64) H.size) mw_X4_add md_X4_add rfl lk_X4_266 ⟨Nat.le_of_ble_eq_true rfl, Nat.le_of_ble_eq_true rfl⟩ hA hK hT B hl.1 rfl (Nat.le_of_ble_eq_true rfl) dX4_ofDates_79 (by dsimp only [rm]; omega)) (by dsimp only [rm]; omega) (by dsimp only [rm]; omega) (fun r28 ad28 f' H locs hw B => ?_)
                        obtain ⟨rfl, rfl, rfl⟩ := hw
                        refine lv_lstore_n (lv' := [(3, .long (v_X4_add (v_X4_add df ((nI (st_len.getD 10 0)).toInt64)) ((nI (dlen t25)).toInt64))), (6, .int cb), (5, .int da), (0, .ref b0), (1, .long b1)]) hx hb dX4_ofDates_82 rfl hl (by decide) rfl (fun ls hl => ?_)
                        refine lv_iinc (v := cb + 1) (lv' := [(6, .int (cb + 1)), (3, .long (v_X4_add (v_X4_add df ((nI (st_len.getD 10 0)).toInt64)) ((nI (dlen t25)).toInt64))), (5, .int da), (0, .ref b0), (1, .long b1)]) hx hb dX4_ofDates_83 hl (k := 1) rfl rfl (by decide) rfl (fun ls hl => ?_)
                        refine lv_goto (tgt := 43) hx hb dX4_ofDates_86 (by decide) ?_
                        exact ih18 (cb + 1) (v_X4_add (v_X4_add df ((nI (st_len.getD 10 0)).toInt64)) ((nI (dlen t25)).toInt64)) (C18 + 8) (S18 + 46) H locs (by omega) (by omega) (fu_le c19 hn18) (inc_nn hzcb c19) B ls (lv_sub hl [0, 2, 1, 3, 4] rfl)
                    | some t21 =>
                      refine k_r (k := (C18 + 6)) (n := (S18 + 40)) hA B (b_V (q := 24) (rest := [.long df]) hb0 X (c_X4_movedNowY l g N ad y cr dr th kn rf pl pz mc (by omega) b0 hb0 da cb 0 (no_of hzda c2) (no_of hzcb c19) hdr t21 (show v_X4_onBy (dr da.toNatClampNeg) (cr cb.toNatClampNeg) (msg 0) = some t21 by rw [show msg 0 = 1 from rfl]; exact o20) H.size) mw_X4_movedNow md_X4_movedNow rfl lk_X4_235 ⟨Nat.le_of_ble_eq_true rfl, Nat.le_of_ble_eq_true rfl⟩ hA hK hT B (by omega) mg_24 rfl rfl hl.1 rfl (Nat.le_of_ble_eq_true rfl) dX4_ofDates_56 (by dsimp only [rm]; omega)) (by dsimp only [rm]; omega) (by dsimp only [rm]; omega) (fun r ad' f' H locs hw B => ?_)
                      dsimp only at hw
                      obtain ⟨a22, a22x, h22, hF22, rfl, rfl, rfl⟩ := hw
                      have B : WB g (aw N ad sz) s.heap (N + 1 + 1) (va_up (va_up ad N a22) (N + 1) a22x) (mg g (va_up (va_up ad N a22) (N + 1) a22x) (va_up (va_up y N (c_st a22x)) (N + 1) (c_ba g (dlen t21) h22)) cr dr th kn rf pl pz mc) H locs := B
                      refine k_i (k := (C18 + 6)) (n := (S18 + 40)) hA B (b_V (q := N) (rest := [.long df]) ((up_lt (by omega)).trans up_eq) X (c_W_len l g (N + 1 + 1) (va_up (va_up ad N a22) (N + 1) a22x) (mg g (va_up (va_up ad N a22) (N + 1) a22x) (va_up (va_up y N (c_st a22x)) (N + 1) (c_ba g (dlen t21) h22)) cr dr th kn rf pl pz mc) N a22 (N + 1) a22x (dlen t21) h22 (by omega) (by omega) ((up_lt (by omega)).trans up_eq) up_eq ((mg_hi (by omega)).trans ((up_lt (by omega)).trans up_eq)) ((mg_hi (by omega)).trans up_eq) H.size) mw_J0_length_8abf5 md_J0_length_8abf5 rfl lk_X4_269 ⟨Nat.le_of_ble_eq_true rfl, Nat.le_of_ble_eq_true rfl⟩ hA hK hT B (by omega) ((mg_hi (by omega)).trans ((up_lt (by omega)).trans up_eq)) rfl rfl hl.1 rfl (Nat.le_of_ble_eq_true rfl) dX4_ofDates_59 (by dsimp only [rm]; omega)) (by dsimp only [rm]; omega) (by dsimp only [rm]; omega) (fun r ad' f' H locs hw B => ?_)
                      obtain ⟨rfl, rfl, rfl⟩ := hw
                      have B : WB g (aw N ad sz) s.heap N ad (mg g ad y cr dr th kn rf pl pz mc) H locs := WM_drop B (by omega) (by omega) (fun _ hk => ((up_lt (Nat.lt_succ_of_lt hk)).trans (up_lt hk))) (fun _ hk => ((up_lt (Nat.lt_succ_of_lt hk)).trans (up_lt hk)))
                      refine lv_i2l (v := (nI (dlen t21)).toInt64) hx hb dX4_ofDates_62 rfl ?_
                      refine k_l (k := (C18 + 6)) (n := (S18 + 40)) hA B (u_S (rest := []) X (c_X4_add l g N ad (mg g ad y cr dr th kn rf pl pz mc) df ((nI (dlen t21)).toInt64) H.size) mw_X4_add md_X4_add rfl lk_X4_266 ⟨Nat.le_of_ble_eq_true rfl, Nat.le_of_ble_eq_true rfl⟩ hA hK hT B hl.1 rfl (Nat.le_of_ble_eq_true rfl) dX4_ofDates_63 (by dsimp only [rm]; omega)) (by dsimp only [rm]; omega) (by dsimp only [rm]; omega) (fun r29 ad29 f' H locs hw B => ?_)
                      obtain ⟨rfl, rfl, rfl⟩ := hw
                      refine lv_aload_n hx hb dX4_ofDates_66 rfl (lv_at hl 3 rfl) ?_
                      refine lv_iload hx hb dX4_ofDates_67 (lv_at hl 1 rfl) ?_
                      refine lv_iload hx hb dX4_ofDates_69 (lv_at hl 0 rfl) ?_
                      refine lv_iconst (v := 1) hx hb dX4_ofDates_71 (by decide) ?_
                      cases o30 : (v_X4_onBy (dr da.toNatClampNeg) (cr cb.toNatClampNeg) (-1)) with
                      | none =>
                        refine k_r (k := (C18 + 8)) (n := (S18 + 46)) hA B (b_V (q := 24) (rest := [.long (v_X4_add df ((nI (dlen t21)).toInt64))]) hb0 X (c_X4_movedNowN l g N ad y cr dr th kn rf pl pz mc (by omega) b0 hb0 da cb 1 (no_of hzda c2) (no_of hzcb c19) hdr (show v_X4_onBy (dr da.toNatClampNeg) (cr cb.toNatClampNeg) (msg 1) = none by rw [show msg 1 = (-1) from rfl]; exact o30) H.size) mw_X4_movedNow md_X4_movedNow rfl lk_X4_235 ⟨Nat.le_of_ble_eq_true rfl, Nat.le_of_ble_eq_true rfl⟩ hA hK hT B (by omega) mg_24 rfl rfl hl.1 rfl (Nat.le_of_ble_eq_true rfl) dX4_ofDates_72 (by dsimp only [rm]; omega)) (by dsimp only [rm]; omega) (by dsimp only [rm]; omega) (fun r ad' f' H locs hw B => ?_)
                        obtain ⟨rfl, rfl, rfl⟩ := hw
                        refine k_i (k := (C18 + 8)) (n := (S18 + 46)) hA B (u_K (rest := [.long (v_X4_add df ((nI (dlen t21)).toInt64))]) (by decide) X (c_K_len l g N ad (mg g ad y cr dr th kn rf pl pz mc) 10 (by decide) H.size) mw_J0_length_8abf5 rfl md_J0_length_8abf5 rfl lk_X4_269 ⟨Nat.le_of_ble_eq_true rfl, Nat.le_of_ble_eq_true rfl⟩ hA hK hT B hl.1 rfl (Nat.le_of_ble_eq_true rfl) dX4_ofDates_75 (by dsimp only [rm]; omega)) (by dsimp only [rm]; omega) (by dsimp only [rm]; omega) (fun r ad' f' H locs hw B => ?_)
                        obtain ⟨rfl, rfl, rfl⟩ := hw
                        refine lv_i2l (v := (nI (st_len.getD 10 0)).toInt64) hx hb dX4_ofDates_78 rfl ?_
                        refine k_l (k := (C18 + 8)) (n := (S18 + 46)) hA B (u_S (rest := []) X (c_X4_add l g N ad (mg g ad y cr dr th kn rf pl pz mc) (v_X4_add df ((nI (dlen t21)).toInt64)) ((nI (st_len.getD 10 0)).toInt64) H.size) mw_X4_add md_X4_add rfl lk_X4_266 ⟨Nat.le_of_ble_eq_true rfl, Nat.le_of_ble_eq_true rfl⟩ hA hK hT B hl.1 rfl (Nat.le_of_ble_eq_true rfl) dX4_ofDates_79 (by dsimp only [rm]; omega)) (by dsimp only [rm]; omega) (by dsimp only [rm]; omega) (fun r33 ad33 f' H locs hw B => ?_)
                        obtain ⟨rfl, rfl, rfl⟩ := hw
                        refine lv_lstore_n (lv' := [(3, .long (v_X4_add (v_X4_add df ((nI (dlen t21)).toInt64)) ((nI (st_len.getD 10 0)).toInt64))), (6, .int cb), (5, .int da), (0, .ref b0), (1, .long b1)]) hx hb dX4_ofDates_82 rfl hl (by decide) rfl (fun ls hl => ?_)
                        refine lv_iinc (v := cb + 1) (lv' := [(6, .int (cb + 1)), (3, .long (v_X4_add (v_X4_add df ((nI (dlen t21)).toInt64)) ((nI (st_len.getD 10 0)).toInt64))), (5, .int da), (0, .ref b0), (1, .long b1)]) hx hb dX4_ofDates_83 hl (k := 1) rfl rfl (by decide) rfl (fun ls hl => ?_)
                        refine lv_goto (tgt := 43) hx hb dX4_ofDates_86 (by decide) ?_
                        exact ih18 (cb + 1) (v_X4_add (v_X4_add df ((nI (dlen t21)).toInt64)) ((nI (st_len.getD 10 0)).toInt64)) (C18 + 8) (S18 + 46) H locs (by omega) (by omega) (fu_le c19 hn18) (inc_nn hzcb c19) B ls (lv_sub hl [0, 2, 1, 3, 4] rfl)
                      | some t31 =>
                        refine k_r (k := (C18 + 12)) (n := (S18 + 80)) hA B (b_V (q := 24) (rest := [.long (v_X4_add df ((nI (dlen t21)).toInt64))]) hb0 X (c_X4_movedNowY l g N ad y cr dr th kn rf pl pz mc (by omega) b0 hb0 da cb 1 (no_of hzda c2) (no_of hzcb c19) hdr t31 (show v_X4_onBy (dr da.toNatClampNeg) (cr cb.toNatClampNeg) (msg 1) = some t31 by rw [show msg 1 = (-1) from rfl]; exact o30) H.size) mw_X4_movedNow md_X4_movedNow rfl lk_X4_235 ⟨Nat.le_of_ble_eq_true rfl, Nat.le_of_ble_eq_true rfl⟩ hA hK hT B (by omega) mg_24 rfl rfl hl.1 rfl (Nat.le_of_ble_eq_true rfl) dX4_ofDates_72 (by dsimp only [rm]; omega)) (by dsimp only [rm]; omega) (by dsimp only [rm]; omega) (fun r ad' f' H locs hw B => ?_)
                        dsimp only at hw
                        obtain ⟨a32, a32x, h32, hF32, rfl, rfl, rfl⟩ := hw
                        have B : WB g (aw N ad sz) s.heap (N + 1 + 1) (va_up (va_up ad N a32) (N + 1) a32x) (mg g (va_up (va_up ad N a32) (N + 1) a32x) (va_up (va_up y N (c_st a32x)) (N + 1) (c_ba g (dlen t31) h32)) cr dr th kn rf pl pz mc) H locs := B
                        refine k_i (k := (C18 + 12)) (n := (S18 + 80)) hA B (b_V (q := N) (rest := [.long (v_X4_add df ((nI (dlen t21)).toInt64))]) ((up_lt (by omega)).trans up_eq) X (c_W_len l g (N + 1 + 1) (va_up (va_up ad N a32) (N + 1) a32x) (mg g (va_up (va_up ad N a32) (N + 1) a32x) (va_up (va_up y N (c_st a32x)) (N + 1) (c_ba g (dlen t31) h32)) cr dr th kn rf pl pz mc) N a32 (N + 1) a32x (dlen t31) h32 (by omega) (by omega) ((up_lt (by omega)).trans up_eq) up_eq ((mg_hi (by omega)).trans ((up_lt (by omega)).trans up_eq)) ((mg_hi (by omega)).trans up_eq) H.size) mw_J0_length_8abf5 md_J0_length_8abf5 rfl lk_X4_269 ⟨Nat.le_of_ble_eq_true rfl, Nat.le_of_ble_eq_true rfl⟩ hA hK hT B (by omega) ((mg_hi (by omega)).trans ((up_lt (by omega)).trans up_eq)) rfl rfl hl.1 rfl (Nat.le_of_ble_eq_true rfl) dX4_ofDates_75 (by dsimp only [rm]; omega)) (by dsimp only [rm]; omega) (by dsimp only [rm]; omega) (fun r ad' f' H locs hw B => ?_)
                        obtain ⟨rfl, rfl, rfl⟩ := hw
                        have B : WB g (aw N ad sz) s.heap N ad (mg g ad y cr dr th kn rf pl pz mc) H locs := WM_drop B (by omega) (by omega) (fun _ hk => ((up_lt (Nat.lt_succ_of_lt hk)).trans (up_lt hk))) (fun _ hk => ((up_lt (Nat.lt_succ_of_lt hk)).trans (up_lt hk)))
                        refine lv_i2l (v := (nI (dlen t31)).toInt64) hx hb dX4_ofDates_78 rfl ?_
                        refine k_l (k := (C18 + 12)) (n := (S18 + 80)) hA B (u_S (rest := []) X (c_X4_add l g N ad (mg g ad y cr dr th kn rf pl pz mc) (v_X4_add df ((nI (dlen t21)).toInt64)) ((nI (dlen t31)).toInt64) H.size) mw_X4_add md_X4_add rfl lk_X4_266 ⟨Nat.le_of_ble_eq_true rfl, Nat.le_of_ble_eq_true rfl⟩ hA hK hT B hl.1 rfl (Nat.le_of_ble_eq_true rfl) dX4_ofDates_79 (by dsimp only [rm]; omega)) (by dsimp only [rm]; omega) (by dsimp only [rm]; omega) (fun r34 ad34 f' H locs hw B => ?_)
                        obtain ⟨rfl, rfl, rfl⟩ := hw
                        refine lv_lstore_n (lv' := [(3, .long (v_X4_add (v_X4_add df ((nI (dlen t21)).toInt64)) ((nI (dlen t31)).toInt64))), (6, .int cb), (5, .int da), (0, .ref b0), (1, .long b1)]) hx hb dX4_ofDates_82 rfl hl (by decide) rfl (fun ls hl => ?_)
                        refine lv_iinc (v := cb + 1) (lv' := [(6, .int (cb + 1)), (3, .long (v_X4_add (v_X4_add df ((nI (dlen t21)).toInt64)) ((nI (dlen t31)).toInt64))), (5, .int da), (0, .ref b0), (1, .long b1)]) hx hb dX4_ofDates_83 hl (k := 1) rfl rfl (by decide) rfl (fun ls hl => ?_)
                        refine lv_goto (tgt := 43) hx hb dX4_ofDates_86 (by decide) ?_
                        exact ih18 (cb + 1) (v_X4_add (v_X4_add df ((nI (dlen t21)).toInt64)) ((nI (dlen t31)).toInt64)) (C18 + 12) (S18 + 80) H locs (by omega) (by omega) (fu_le c19 hn18) (inc_nn hzcb c19) B ls (lv_sub hl [0, 2, 1, 3, 4] rfl)
              have hT18 : 4 + 1 ≤ 5 := (by decide)
              exact loop18 (4 + 1) 0 de (C1 + 0) (S1 + 0) H locs (by first | exact Nat.le_refl _ | exact Nat.le_of_ble_eq_true rfl | omega) (by first | exact Nat.le_refl _ | exact Nat.le_of_ble_eq_true rfl | omega) (by decide) (by decide) B ls hl
            · refine lv_lload_n hx hb dX4_ofDates_20 rfl (lv_at hl 2 rfl) ?_
              refine lv_aload_n hx hb dX4_ofDates_21 rfl (lv_at hl 3 rfl) ?_
              refine lv_iload hx hb dX4_ofDates_22 (lv_at hl 1 rfl) ?_
              refine lv_iload hx hb dX4_ofDates_24 (lv_at hl 0 rfl) ?_
              refine k_i (k := (C16 + 0)) (n := (S16 + 0)) hA B (b_V (q := 24) (rest := [.long de]) hb0 X (c_X4_ofDateNow l g N ad y cr dr th kn rf pl pz mc (by omega) b0 hb0 da wa (no_of hzda c2) (isin_of hzwa c17) hdr H.size) mw_X4_ofDateNow md_X4_ofDateNow rfl lk_X4_229 ⟨Nat.le_of_ble_eq_true rfl, Nat.le_of_ble_eq_true rfl⟩ hA hK hT B (by omega) mg_24 rfl rfl hl.1 rfl (Nat.le_of_ble_eq_true rfl) dX4_ofDates_26 (by dsimp only [rm]; omega)) (by dsimp only [rm]; omega) (by dsimp only [rm]; omega) (fun r35 ad35 f' H locs hw B => ?_)
              obtain ⟨rfl, rfl, rfl⟩ := hw
              refine lv_i2l (v := (v_X4_ofDateNow dr da wa).toInt64) hx hb dX4_ofDates_29 rfl ?_
              refine k_l (k := (C16 + 0)) (n := (S16 + 0)) hA B (u_S (rest := []) X (c_X4_add l g N ad (mg g ad y cr dr th kn rf pl pz mc) de ((v_X4_ofDateNow dr da wa).toInt64) H.size) mw_X4_add md_X4_add rfl lk_X4_266 ⟨Nat.le_of_ble_eq_true rfl, Nat.le_of_ble_eq_true rfl⟩ hA hK hT B hl.1 rfl (Nat.le_of_ble_eq_true rfl) dX4_ofDates_30 (by dsimp only [rm]; omega)) (by dsimp only [rm]; omega) (by dsimp only [rm]; omega) (fun r36 ad36 f' H locs hw B => ?_)
              obtain ⟨rfl, rfl, rfl⟩ := hw
              refine lv_lstore_n (lv' := [(3, .long (v_X4_add de ((v_X4_ofDateNow dr da wa).toInt64))), (6, .int wa), (5, .int da), (0, .ref b0), (1, .long b1)]) hx hb dX4_ofDates_33 rfl hl (by decide) rfl (fun ls hl => ?_)
              refine lv_iinc (v := wa + 1) (lv' := [(6, .int (wa + 1)), (3, .long (v_X4_add de ((v_X4_ofDateNow dr da wa).toInt64))), (5, .int da), (0, .ref b0), (1, .long b1)]) hx hb dX4_ofDates_34 hl (k := 1) rfl rfl (by decide) rfl (fun ls hl => ?_)
              refine lv_goto (tgt := 14) hx hb dX4_ofDates_37 (by decide) ?_
              exact ih16 (wa + 1) (v_X4_add de ((v_X4_ofDateNow dr da wa).toInt64)) (C16 + 0) (S16 + 0) H locs (by omega) (by omega) (fu_le c17 hn16) (inc_nn hzwa c17) B ls (lv_sub hl [0, 2, 1, 3, 4] rfl)
        have hT16 : 4 + 1 ≤ 5 := (by decide)
        exact loop16 (4 + 1) 0 dd (C1 + 0) (S1 + 0) H locs (by first | exact Nat.le_refl _ | exact Nat.le_of_ble_eq_true rfl | omega) (by first | exact Nat.le_refl _ | exact Nat.le_of_ble_eq_true rfl | omega) (by decide) (by decide) B ls hl
  have hT1 : 4 + 1 ≤ 5 := (by decide)
  exact loop1 (4 + 1) 0 b1 0 0 H locs (by first | exact Nat.le_refl _ | exact Nat.le_of_ble_eq_true rfl | omega) (by first | exact Nat.le_refl _ | exact Nat.le_of_ble_eq_true rfl | omega) (by decide) (by decide) B ls hl
set_option maxHeartbeats 16000000 in
set_option maxRecDepth 100000 in
theorem c_X4_digest (l : Launch) (g : GG) (N : Nat) (ad : Nat → Nat) (y : Nat → va_E) (cr dr : Nat → TR) (th kn rf : Int32) (pl : Nat → TR) (pz : Nat) (mc : Int32) (hN : 36 + pz ≤ N) (b0 : Nat) (hb0 : ad 24 = b0) (hz : pz ≤ 9) (hdr : ∀ i, i < 4 → okd (dr i)) : KL l yX4_digest cX4_digest 4 (rm 9 1165 11859) g [.ref b0] N ad (mg g ad y cr dr th kn rf pl pz mc) N (fun r ad' f' => ad = ad' ∧ mg g ad y cr dr 0 kn rf pl pz mc = f') := by
  intro sz
  refine mt_start (by decide) (Nat.le_of_ble_eq_true rfl) ?_
  intro p e s m args below meth c hsz X hr hnam hA hK hT H locs B ls hl
  obtain ⟨hx, hb, hml, hown, hts, hlocks⟩ := id X
  have hl : lv_has ls 4 [(0, .ref b0)] := hl
  refine lv_aload_n hx hb dX4_digest_0 rfl (lv_at hl 0 rfl) ?_
  refine lv_iconst (v := 0) hx hb dX4_digest_1 (by decide) ?_
  refine b_put (q := 24) (k := 0) hb0 X hK B rfl in_X4 tyX4_ok nmX4 (by omega) mg_24 (by decide) lk_X4_26 rfl rfl rfl rfl rfl (Nat.le_of_ble_eq_true rfl) dX4_digest_2 (fun H locs B => ?_)
  have B : WB g (aw N ad sz) s.heap N ad (mg g ad y cr dr 0 kn rf pl pz mc) H locs := by rw [← mg_up_md]; exact B
  refine lv_aload_n hx hb dX4_digest_5 rfl (lv_at hl 0 rfl) ?_
  refine lv_aload_n hx hb dX4_digest_6 rfl (lv_at hl 0 rfl) ?_
  refine lv_ldc2 hx hb hown (hts _ (List.mem_cons_of_mem _ lk_X4_273)) dX4_digest_7 ?_
  refine k_l (k := 164) (n := 4044) hA B (b_V (q := 24) (rest := [.ref b0]) hb0 X (c_X4_ofCards l g N ad y cr dr 0 kn rf pl pz mc (by omega) b0 hb0 6217 hz H.size) mw_X4_ofCards md_X4_ofCards rfl lk_X4_275 ⟨Nat.le_of_ble_eq_true rfl, Nat.le_of_ble_eq_true rfl⟩ hA hK hT B (by omega) mg_24 rfl rfl hl.1 rfl (Nat.le_of_ble_eq_true rfl) dX4_digest_10 ⟨Nat.le_of_ble_eq_true rfl, Nat.le_of_ble_eq_true rfl⟩) (Nat.le_of_ble_eq_true rfl) (Nat.le_of_ble_eq_true rfl) (fun r1 ad1 f' H locs hw B => ?_)
  obtain ⟨rfl, rfl⟩ := hw
  refine k_l (k := 664) (n := 10344) hA B (b_V (q := 24) (rest := []) hb0 X (c_X4_ofDates l g N ad y cr dr 0 kn rf pl pz mc (by omega) b0 hb0 r1 hdr H.size) mw_X4_ofDates md_X4_ofDates rfl lk_X4_279 ⟨Nat.le_of_ble_eq_true rfl, Nat.le_of_ble_eq_true rfl⟩ hA hK hT B (by omega) mg_24 rfl rfl hl.1 rfl (Nat.le_of_ble_eq_true rfl) dX4_digest_13 ⟨Nat.le_of_ble_eq_true rfl, Nat.le_of_ble_eq_true rfl⟩) (Nat.le_of_ble_eq_true rfl) (Nat.le_of_ble_eq_true rfl) (fun r2 ad2 f' H locs hw B => ?_)
  obtain ⟨rfl, rfl⟩ := hw
  refine lv_lstore_n (lv' := [(1, .long r2), (0, .ref b0)]) hx hb dX4_digest_16 rfl hl (by decide) rfl (fun ls hl => ?_)
  refine lv_iconst (v := 0) hx hb dX4_digest_17 (by decide) ?_
  refine lv_istore_n (lv' := [(3, .int 0), (1, .long r2), (0, .ref b0)]) hx hb dX4_digest_18 rfl hl (by decide) rfl (fun ls hl => ?_)
  have loop3 : ∀ (n3 : Nat) (wh : Int32) (dd : Int64) (C3 : Nat) (S3 : Nat) (H : Heap) (locs : List Loc), C3 + n3 * 6 ≤ 700 → S3 + n3 * 20 ≤ 10464 → ((5 : Int32).toInt - wh.toInt).toNat < n3 → ¬ wh < 0 → WB g (aw N ad sz) s.heap N ad (mg g ad y cr dr 0 kn rf pl pz mc) H locs → ∀ ls : Array Slot, lv_has ls 4 [(3, .int wh), (1, .long dd), (0, .ref b0)] → W p l e (rm 9 1165 11859) s m args below meth c H locs C3 S3 (MQ below (va_Ql (fun r (u : WS) => (fun r ad' f' => ad = ad' ∧ mg g ad y cr dr 0 kn rf pl pz mc = f') r u.1 u.2) (fun u t => PO g N u.1 u.2 (aw N ad sz) t) (aw N ad sz)) args s (rm 9 1165 11859).cells (rm 9 1165 11859).slots (aw N ad sz)) (F0 m 19 ls []) := by
    intro n3
    induction n3 with
    | zero => intro wh dd C3 S3 H locs _ _ hn; exact absurd hn (Nat.not_lt_zero _)
    | succ n3 ih3 =>
      intro wh dd C3 S3 H locs hC3 hS3 hn3 hzwh B ls hl
      refine lv_iload_n hx hb dX4_digest_19 rfl (lv_at hl 0 rfl) ?_
      refine lv_iconst (v := 5) hx hb dX4_digest_20 (by decide) ?_
      refine lv_icmp_ge (tgt := 41) hx hb dX4_digest_21 (by decide) (fun c4 => ?_) (fun c4 => ?_)
      · refine W.widen (show (C3 + 0) ≤ 700 by omega) (show (S3 + 0) ≤ 10464 by omega) ?_
        refine lv_lload_n hx hb dX4_digest_41 rfl (lv_at hl 1 rfl) ?_
        refine lv_aload_n hx hb dX4_digest_42 rfl (lv_at hl 2 rfl) ?_
        refine k_i (k := 1165) (n := 11859) hA B (b_V (q := 24) (rest := [.long dd]) hb0 X (c_X4_isSoundNow l g N ad y cr dr 0 kn rf pl pz mc (by omega) b0 hb0 hdr H.size) mw_X4_isSoundNow md_X4_isSoundNow rfl lk_X4_261 ⟨Nat.le_of_ble_eq_true rfl, Nat.le_of_ble_eq_true rfl⟩ hA hK hT B (by omega) mg_24 rfl rfl hl.1 rfl (Nat.le_of_ble_eq_true rfl) dX4_digest_43 ⟨Nat.le_of_ble_eq_true rfl, Nat.le_of_ble_eq_true rfl⟩) (Nat.le_of_ble_eq_true rfl) (Nat.le_of_ble_eq_true rfl) (fun r5 ad5 f' H locs hw B => ?_)
        obtain ⟨rfl, r5b, rfl⟩ := hw
        refine k_i (k := 1165) (n := 11859) hA B (u_S (rest := [.long dd]) X (c_X4_one l g N ad (mg g ad y cr dr 0 kn rf pl pz mc) r5 H.size) mw_X4_one md_X4_one rfl lk_X4_91 ⟨Nat.le_of_ble_eq_true rfl, Nat.le_of_ble_eq_true rfl⟩ hA hK hT B hl.1 rfl (Nat.le_of_ble_eq_true rfl) dX4_digest_46 ⟨Nat.le_of_ble_eq_true rfl, Nat.le_of_ble_eq_true rfl⟩) (Nat.le_of_ble_eq_true rfl) (Nat.le_of_ble_eq_true rfl) (fun r6 ad6 f' H locs hw B => ?_)
        obtain ⟨rfl, rfl, rfl⟩ := hw
        refine lv_i2l (v := (v_X4_one r5).toInt64) hx hb dX4_digest_49 rfl ?_
        refine k_l (k := 1165) (n := 11859) hA B (u_S (rest := []) X (c_X4_add l g N ad (mg g ad y cr dr 0 kn rf pl pz mc) dd ((v_X4_one r5).toInt64) H.size) mw_X4_add md_X4_add rfl lk_X4_266 ⟨Nat.le_of_ble_eq_true rfl, Nat.le_of_ble_eq_true rfl⟩ hA hK hT B hl.1 rfl (Nat.le_of_ble_eq_true rfl) dX4_digest_50 ⟨Nat.le_of_ble_eq_true rfl, Nat.le_of_ble_eq_true rfl⟩) (Nat.le_of_ble_eq_true rfl) (Nat.le_of_ble_eq_true rfl) (fun r7 ad7 f' H locs hw B => ?_)
        obtain ⟨rfl, rfl, rfl⟩ := hw
        exact rt_l X hr (ad, mg g ad y cr dr 0 kn rf pl pz mc) B (PO_of B) ⟨rfl, rfl⟩ (Nat.le_of_ble_eq_true rfl) (Nat.le_of_ble_eq_true rfl) dX4_digest_53
      · refine lv_lload_n hx hb dX4_digest_24 rfl (lv_at hl 1 rfl) ?_
        refine lv_aload_n hx hb dX4_digest_25 rfl (lv_at hl 2 rfl) ?_
        refine lv_iload_n hx hb dX4_digest_26 rfl (lv_at hl 0 rfl) ?_
        refine k_i (k := (C3 + 6)) (n := (S3 + 20)) hA B (b_V (q := 24) (rest := [.long dd]) hb0 X (c_X4_houseNow l g N ad y cr dr 0 kn rf pl pz mc (by omega) b0 hb0 wh (isin_of5 hzwh c4) H.size) mw_X4_houseNow md_X4_houseNow rfl lk_X4_251 ⟨Nat.le_of_ble_eq_true rfl, Nat.le_of_ble_eq_true rfl⟩ hA hK hT B (by omega) mg_24 rfl rfl hl.1 rfl (Nat.le_of_ble_eq_true rfl) dX4_digest_27 (by dsimp only [rm]; omega)) (by dsimp only [rm]; omega) (by dsimp only [rm]; omega) (fun r8 ad8 f' H locs hw B => ?_)
        obtain ⟨rfl, rfl, rfl⟩ := hw
        refine lv_i2l (v := (v_X4_houseNow cr kn rf pz wh).toInt64) hx hb dX4_digest_30 rfl ?_
        refine k_l (k := (C3 + 6)) (n := (S3 + 20)) hA B (u_S (rest := []) X (c_X4_add l g N ad (mg g ad y cr dr 0 kn rf pl pz mc) dd ((v_X4_houseNow cr kn rf pz wh).toInt64) H.size) mw_X4_add md_X4_add rfl lk_X4_266 ⟨Nat.le_of_ble_eq_true rfl, Nat.le_of_ble_eq_true rfl⟩ hA hK hT B hl.1 rfl (Nat.le_of_ble_eq_true rfl) dX4_digest_31 (by dsimp only [rm]; omega)) (by dsimp only [rm]; omega) (by dsimp only [rm]; omega) (fun r9 ad9 f' H locs hw B => ?_)
        obtain ⟨rfl, rfl, rfl⟩ := hw
        refine lv_lstore_n (lv' := [(1, .long (v_X4_add dd ((v_X4_houseNow cr kn rf pz wh).toInt64))), (3, .int wh), (0, .ref b0)]) hx hb dX4_digest_34 rfl hl (by decide) rfl (fun ls hl => ?_)
        refine lv_iinc (v := wh + 1) (lv' := [(3, .int (wh + 1)), (1, .long (v_X4_add dd ((v_X4_houseNow cr kn rf pz wh).toInt64))), (0, .ref b0)]) hx hb dX4_digest_35 hl (k := 1) rfl rfl (by decide) rfl (fun ls hl => ?_)
        refine lv_goto (tgt := 19) hx hb dX4_digest_38 (by decide) ?_
        exact ih3 (wh + 1) (v_X4_add dd ((v_X4_houseNow cr kn rf pz wh).toInt64)) (C3 + 6) (S3 + 20) H locs (by omega) (by omega) (fu_le c4 hn3) (inc_nn hzwh c4) B ls (lv_sub hl [0, 1, 2] rfl)
  have hT3 : 5 + 1 ≤ 6 := (by decide)
  exact loop3 (5 + 1) 0 r2 664 10344 H locs (by first | exact Nat.le_refl _ | exact Nat.le_of_ble_eq_true rfl | omega) (by first | exact Nat.le_refl _ | exact Nat.le_of_ble_eq_true rfl | omega) (by decide) (by decide) B ls hl
