def wL (l : List Int) : Prop := ∀ k : Nat, k < l.length → 0 ≤ l.getD k 0 ∧ l.getD k 0 ≤ 99
theorem wL_pL {l : List Int} (h : wL l) : pL l := fun k => by
  by_cases hk : k < l.length
  · have := h k hk; omega
  · rw [getD_big (by omega)]; omega
theorem wL_nil : wL [] := fun k hk => by simp at hk
theorem wL_app {a b : List Int} (ha : wL a) (hb : wL b) : wL (a ++ b) := fun k hk => by
  by_cases h : k < a.length
  · rw [getD_app_l h]; exact ha k h
  · rw [getD_app_r (by omega)]; exact hb _ (by rw [List.length_append] at hk; omega)
theorem wL_take {a : List Int} (ha : wL a) (n : Nat) : wL (a.take n) := fun k hk => by
  rw [List.length_take] at hk
  rw [getD_take (by omega)]; exact ha k (by omega)
theorem wL_drop {a : List Int} (ha : wL a) (n : Nat) : wL (a.drop n) := fun k hk => by
  rw [List.length_drop] at hk
  rw [getD_drop]; exact ha _ (by omega)
def OV (V : List VR) : Prop := V.length ≤ 10 ∧ ∀ i : Nat, i < V.length → (vn V i).1.length ≤ 14 ∧ wL (vn V i).1 ∧ (-1 ≤ (vn V i).2.1 ∧ (vn V i).2.1 < i) ∧ (-1 ≤ (vn V i).2.2.1 ∧ (vn V i).2.2.1 < i) ∧ (0 ≤ (vn V i).2.2.2 ∧ (vn V i).2.2.2 ≤ 9)
def OP (b : Int) (W : List HK) : Prop := sW W ∧ W.length ≤ 10 ∧ (fG W).length ≤ 28 ∧ (fC W).length ≤ 28 ∧ ∀ i : Nat, i < W.length → wL (hk W i).2.1 ∧ wL (hk W i).2.2 ∧ (hk W i).1 ≤ b
def OQ (Q : List (List HK)) : Prop := Q.length ≤ 12 ∧ ∀ k : Nat, k < Q.length → OP (14 + 28 * ((k : Int) + 1)) (pt Q k)
def OKS (s : SG) : Prop := (s.1.length ≤ 14 ∧ wL s.1) ∧ OV s.2.1 ∧ OQ s.2.2.1 ∧ s.2.2.2 ≤ 30
/-- both answer alike, and hold the same afterwards -/
def CJ (fK fM : Nat → MO Int) (s : SG) : Prop := ∃ r s', OKS s' ∧ (∀ x h, KI h x s → ∃ h', fK x h = some (r, h') ∧ KI h' x s') ∧ ∀ m h, MI h m s → ∃ h', fM m h = some (r, h') ∧ MI h' m s'
theorem CJ.same {fK fM : Nat → MO Int} {s : SG} (r : Int) (ho : OKS s) (h1 : ∀ x h, KI h x s → fK x h = some (r, h)) (h2 : ∀ m h, MI h m s → fM m h = some (r, h)) : CJ fK fM s :=
  ⟨r, s, ho, fun x h k => ⟨h, h1 x h k, k⟩, fun m h k => ⟨h, h2 m h k, k⟩⟩
theorem lins_wL {D : List Int} {i v : Int} (hD : wL D) (hv : 0 ≤ v ∧ v ≤ 99) : wL (lins D i v) := wL_app (wL_take hD _) (by
  intro k hk
  cases k with
  | zero => exact hv
  | succ k => exact wL_drop hD _ k (by simpa using hk))
theorem ldel_wL {D : List Int} {i : Int} (hD : wL D) : wL (ldel D i) := wL_app (wL_take hD _) (wL_drop hD _)
theorem c_line (a v : Int) (ha : am_r a) (hv : am_r v) (s : SG) (ho : OKS s) : CJ (fun x => X6_line x a v) (fun m => X7_line m a v) s := by
  obtain ⟨D, V, Q, d⟩ := s
  obtain ⟨⟨hD1, hD2⟩, oV, oQ, od⟩ := id ho
  dsimp only at hD1 hD2 oV oQ od
  unfold am_r at ha hv
  by_cases c1 : 0 ≤ a ∧ a ≤ D.length
  · by_cases c2 : 0 ≤ v ∧ v ≤ 99
    · by_cases c3 : D.length < 14
      · refine ⟨(D.length : Int) + 1, (lins D a v, V, Q, d), ⟨⟨?_, lins_wL hD2 c2⟩, oV, oQ, od⟩, ?_, ?_⟩
        · dsimp only; rw [lins_len c1.1 c1.2]; omega
        · intro x h hK
          obtain ⟨hR, nD, hSc, A, B, hB⟩ := id hK
          obtain ⟨⟨o1, ⟨p0, p1, p2, p4, p6, p7, p8, p9, p10, p11, p12⟩, o3, o4, o5, o6, o7, o8, o9⟩, ⟨f3, f5, f13⟩, hA, hQ, hM, hX⟩ := id hB
          have tR := hR.1
          have e1 := q4_size hR
          have hn : (D.length : Int) < ah_N h (x + 1 + 1) := by rw [show x + 1 + 1 = x + 2 by omega, nD]; omega
          obtain ⟨h', e2, r2, g2⟩ := q4_insert hR (v := v) c1.1 c1.2 hn
          have e3 := q4_size r2
          rw [lins_len c1.1 c1.2, Int.natCast_add, Int.natCast_one] at e3
          have tR2 := r2.1
          have tx : ah_T h' x = 16 := by rw [g2.1]; exact o1
          have px : ah_P h' x 0 = some (x + 1) := by rw [g2.2.2.1]; exact p0
          exact ⟨h', by simp (disch := omega) only [X6_line, X6_isLine, rr_p, rr_bp, rr_bb, rr_0, rr_lt, rr_blt, rr_le, rr_ble, rr_eq, rr_beq, rr_nl_n, rr_nl_s, rr_bnl_n, rr_bnl_s, rr_cond_t, rr_cond_f, rr_bcond_t, rr_bcond_f, rr_bon, rr_bcv, rr_cv, rr_g, rr_gr, rr_si, rr_sz, rr_sr, rr_al, rr_ld, rr_st, rr_rl, rr_rs, rr_ni, rr_nr, rr_z, rr_div, rr_rem, rr_lc, rr_mx, rr_mn, rr_ab, rr_no, gd_t, bc_t, bc_f, gd_tt, bc_tt, bc_ff, or_true, true_or, and_true, true_and, Nat.reduceAdd, p0, mo_b_s e1, mo_b_s e2, mo_b_s e3, px], KI_desk hK g2 r2⟩
        · intro m h hM
          have mT := hM.1.1
          obtain ⟨p1, t1, n1⟩ := ms1 hM.1
          have f0 := hM.2.1.1
          dsimp only at f0
          have hc := fun (i : Int) => @mDesk_at h m D hM.2.1 i
          let g : Nat → Int → Int := fun j y => if (D.length : Int) - j < y ∧ y ≤ D.length then ah_I h (m + 1) (y - 1) else ah_I h (m + 1) y
          have hL : mo_lp mo_N (X7_line_L42 m a) (D.length : Int) h = some ((), ah_wI h (m + 1) (g (D.length - a.toNat))) := by
            have hs := lp_seq (F := X7_line_L42 m a) (fun j : Nat => (D.length : Int) - j) (fun j => ah_wI h (m + 1) (g j)) (D.length - a.toNat) (b := ()) (hE := ah_wI h (m + 1) (g (D.length - a.toNat))) ?_ ?_ mo_N (by rw [mo_N_v]; omega)
            · have e0 : g 0 = ah_I h (m + 1) := by funext y; simp only [g]; rw [if_neg (by omega)]
              simp only [e0, hl_wI_id] at hs
              simpa using hs
            · intro j hj
              have e1 : (D.length : Int) - (j : Int) + -1 = (D.length : Int) - ((j + 1 : Nat) : Int) := by omega
              have e2 : fu (g j) ((D.length : Int) - j) (g j ((D.length : Int) - j - 1)) = g (j + 1) := by
                funext y
                simp only [g, fu]
                by_cases hy : y = (D.length : Int) - j
                · rw [if_pos hy, if_neg (by omega), if_pos (by omega)]; congr 1; omega
                · rw [if_neg hy]
                  by_cases hy2 : (D.length : Int) - j < y ∧ y ≤ D.length
                  · rw [if_pos hy2, if_pos (by omega)]
                  · rw [if_neg hy2, if_neg (by omega)]
              simp (disch := omega) only [X7_line_L42, rr_p, rr_bp, rr_bb, rr_0, rr_lt, rr_blt, rr_le, rr_ble, rr_eq, rr_beq, rr_nl_n, rr_nl_s, rr_bnl_n, rr_bnl_s, rr_cond_t, rr_cond_f, rr_bcond_t, rr_bcond_f, rr_bon, rr_bcv, rr_cv, rr_g, rr_gr, rr_si, rr_sz, rr_sr, rr_al, rr_ld, rr_st, rr_rl, rr_rs, rr_ni, rr_nr, rr_z, rr_div, rr_rem, rr_lc, rr_mx, rr_mn, rr_ab, rr_no, gd_t, bc_t, bc_f, gd_tt, bc_tt, bc_ff, or_true, true_or, and_true, true_and, Nat.reduceAdd, hl_T_sF, hl_N_sF, hl_P_sF, hl_I_sF, hl_R_sF, hl_S_sF, hl_T_sP, hl_N_sP, hl_F_sP, hl_I_sP, hl_R_sP, hl_S_sP, hl_T_sI, hl_N_sI, hl_F_sI, hl_P_sI, hl_R_sI, hl_S_sI, hl_T_sR, hl_N_sR, hl_F_sR, hl_P_sR, hl_I_sR, hl_S_sR, hl_T_wI, hl_N_wI, hl_F_wI, hl_P_wI, hl_R_wI, hl_S_wI, hl_F_sF_s, hl_F_sF_n, hl_P_sP_s, hl_P_sP_n, hl_I_sI_s, hl_I_sI_n, hl_R_sR_s, hl_R_sR_n, hl_I_wI_s, hl_I_wI_n, p1, hl_sI_wI, e1, e2]
            · simp (disch := omega) only [X7_line_L42, rr_p, rr_bp, rr_bb, rr_0, rr_lt, rr_blt, rr_le, rr_ble, rr_eq, rr_beq, rr_nl_n, rr_nl_s, rr_bnl_n, rr_bnl_s, rr_cond_t, rr_cond_f, rr_bcond_t, rr_bcond_f, rr_bon, rr_bcv, rr_cv, rr_g, rr_gr, rr_si, rr_sz, rr_sr, rr_al, rr_ld, rr_st, rr_rl, rr_rs, rr_ni, rr_nr, rr_z, rr_div, rr_rem, rr_lc, rr_mx, rr_mn, rr_ab, rr_no, gd_t, bc_t, bc_f, gd_tt, bc_tt, bc_ff, or_true, true_or, and_true, true_and, Nat.reduceAdd, hl_T_sF, hl_N_sF, hl_P_sF, hl_I_sF, hl_R_sF, hl_S_sF, hl_T_sP, hl_N_sP, hl_F_sP, hl_I_sP, hl_R_sP, hl_S_sP, hl_T_sI, hl_N_sI, hl_F_sI, hl_P_sI, hl_R_sI, hl_S_sI, hl_T_sR, hl_N_sR, hl_F_sR, hl_P_sR, hl_I_sR, hl_S_sR, hl_T_wI, hl_N_wI, hl_F_wI, hl_P_wI, hl_R_wI, hl_S_wI, hl_F_sF_s, hl_F_sF_n, hl_P_sP_s, hl_P_sP_n, hl_I_sI_s, hl_I_sI_n, hl_R_sR_s, hl_R_sR_n, hl_I_wI_s, hl_I_wI_n, p1]
          refine ⟨ah_sF (ah_wI h (m + 1) (fu (g (D.length - a.toNat)) a v)) m 0 ((lins D a v).length : Int), ?_, MI_desk hM mDesk_newF (mDesk_new fun j hj => ?_)⟩
          · rw [lins_len c1.1 c1.2, Int.natCast_add, Int.natCast_one]
            simp (disch := omega) only [X7_line, X7_within, rr_p, rr_bp, rr_bb, rr_0, rr_lt, rr_blt, rr_le, rr_ble, rr_eq, rr_beq, rr_nl_n, rr_nl_s, rr_bnl_n, rr_bnl_s, rr_cond_t, rr_cond_f, rr_bcond_t, rr_bcond_f, rr_bon, rr_bcv, rr_cv, rr_g, rr_gr, rr_si, rr_sz, rr_sr, rr_al, rr_ld, rr_st, rr_rl, rr_rs, rr_ni, rr_nr, rr_z, rr_div, rr_rem, rr_lc, rr_mx, rr_mn, rr_ab, rr_no, gd_t, bc_t, bc_f, gd_tt, bc_tt, bc_ff, or_true, true_or, and_true, true_and, Nat.reduceAdd, hl_T_sF, hl_N_sF, hl_P_sF, hl_I_sF, hl_R_sF, hl_S_sF, hl_T_sP, hl_N_sP, hl_F_sP, hl_I_sP, hl_R_sP, hl_S_sP, hl_T_sI, hl_N_sI, hl_F_sI, hl_P_sI, hl_R_sI, hl_S_sI, hl_T_sR, hl_N_sR, hl_F_sR, hl_P_sR, hl_I_sR, hl_S_sR, hl_T_wI, hl_N_wI, hl_F_wI, hl_P_wI, hl_R_wI, hl_S_wI, hl_F_sF_s, hl_F_sF_n, hl_P_sP_s, hl_P_sP_n, hl_I_sI_s, hl_I_sI_n, hl_R_sR_s, hl_R_sR_n, hl_I_wI_s, hl_I_wI_n, f0, p1, mo_b_s hL, hl_sI_wI]
          · rw [lins_len c1.1 c1.2] at hj
            rw [lins_at c1.1 c1.2]
            simp only [fu, g]
            by_cases hj1 : (j : Int) = a
            · rw [if_pos hj1, if_neg (by omega), if_pos hj1]
            · rw [if_neg hj1, if_neg hj1]
              by_cases hj2 : (j : Int) < a
              · rw [if_neg (by omega), if_pos hj2]; exact hM.2.1.2 j (by dsimp only; omega)
              · rw [if_pos (by omega), if_neg hj2]
                have := hM.2.1.2 (j - 1) (by dsimp only; omega)
                rw [← this]; congr 1; omega
      · refine CJ.same (-104) ho ?_ ?_
        · intro x h hK
          obtain ⟨hR, nD, hSc, A, B, hB⟩ := id hK
          obtain ⟨⟨o1, ⟨p0, p1, p2, p4, p6, p7, p8, p9, p10, p11, p12⟩, o3, o4, o5, o6, o7, o8, o9⟩, ⟨f3, f5, f13⟩, hA, hQ, hM, hX⟩ := id hB
          have tR := hR.1
          have e1 := q4_size hR
          dsimp only at e1
          simp (disch := omega) only [X6_line, X6_isLine, rr_p, rr_bp, rr_bb, rr_0, rr_lt, rr_blt, rr_le, rr_ble, rr_eq, rr_beq, rr_nl_n, rr_nl_s, rr_bnl_n, rr_bnl_s, rr_cond_t, rr_cond_f, rr_bcond_t, rr_bcond_f, rr_bon, rr_bcv, rr_cv, rr_g, rr_gr, rr_si, rr_sz, rr_sr, rr_al, rr_ld, rr_st, rr_rl, rr_rs, rr_ni, rr_nr, rr_z, rr_div, rr_rem, rr_lc, rr_mx, rr_mn, rr_ab, rr_no, gd_t, bc_t, bc_f, gd_tt, bc_tt, bc_ff, or_true, true_or, and_true, true_and, Nat.reduceAdd, p0, mo_b_s e1]
        · intro m h hM
          have mT := hM.1.1
          have f0 := hM.2.1.1
          dsimp only at f0
          simp (disch := omega) only [X7_line, X7_within, rr_p, rr_bp, rr_bb, rr_0, rr_lt, rr_blt, rr_le, rr_ble, rr_eq, rr_beq, rr_nl_n, rr_nl_s, rr_bnl_n, rr_bnl_s, rr_cond_t, rr_cond_f, rr_bcond_t, rr_bcond_f, rr_bon, rr_bcv, rr_cv, rr_g, rr_gr, rr_si, rr_sz, rr_sr, rr_al, rr_ld, rr_st, rr_rl, rr_rs, rr_ni, rr_nr, rr_z, rr_div, rr_rem, rr_lc, rr_mx, rr_mn, rr_ab, rr_no, gd_t, bc_t, bc_f, gd_tt, bc_tt, bc_ff, or_true, true_or, and_true, true_and, Nat.reduceAdd, f0]
    · refine CJ.same (-102) ho ?_ ?_
      · intro x h hK
        obtain ⟨hR, nD, hSc, A, B, hB⟩ := id hK
        obtain ⟨⟨o1, ⟨p0, p1, p2, p4, p6, p7, p8, p9, p10, p11, p12⟩, o3, o4, o5, o6, o7, o8, o9⟩, ⟨f3, f5, f13⟩, hA, hQ, hM, hX⟩ := id hB
        have tR := hR.1
        have e1 := q4_size hR
        dsimp only at e1
        by_cases c3 : v < 0
        · simp (disch := omega) only [X6_line, X6_isLine, rr_p, rr_bp, rr_bb, rr_0, rr_lt, rr_blt, rr_le, rr_ble, rr_eq, rr_beq, rr_nl_n, rr_nl_s, rr_bnl_n, rr_bnl_s, rr_cond_t, rr_cond_f, rr_bcond_t, rr_bcond_f, rr_bon, rr_bcv, rr_cv, rr_g, rr_gr, rr_si, rr_sz, rr_sr, rr_al, rr_ld, rr_st, rr_rl, rr_rs, rr_ni, rr_nr, rr_z, rr_div, rr_rem, rr_lc, rr_mx, rr_mn, rr_ab, rr_no, gd_t, bc_t, bc_f, gd_tt, bc_tt, bc_ff, or_true, true_or, and_true, true_and, Nat.reduceAdd, p0, mo_b_s e1]
        · simp (disch := omega) only [X6_line, X6_isLine, rr_p, rr_bp, rr_bb, rr_0, rr_lt, rr_blt, rr_le, rr_ble, rr_eq, rr_beq, rr_nl_n, rr_nl_s, rr_bnl_n, rr_bnl_s, rr_cond_t, rr_cond_f, rr_bcond_t, rr_bcond_f, rr_bon, rr_bcv, rr_cv, rr_g, rr_gr, rr_si, rr_sz, rr_sr, rr_al, rr_ld, rr_st, rr_rl, rr_rs, rr_ni, rr_nr, rr_z, rr_div, rr_rem, rr_lc, rr_mx, rr_mn, rr_ab, rr_no, gd_t, bc_t, bc_f, gd_tt, bc_tt, bc_ff, or_true, true_or, and_true, true_and, Nat.reduceAdd, p0, mo_b_s e1]
      · intro m h hM
        have mT := hM.1.1
        have f0 := hM.2.1.1
        dsimp only at f0
        by_cases c3 : v < 0
        · simp (disch := omega) only [X7_line, X7_within, rr_p, rr_bp, rr_bb, rr_0, rr_lt, rr_blt, rr_le, rr_ble, rr_eq, rr_beq, rr_nl_n, rr_nl_s, rr_bnl_n, rr_bnl_s, rr_cond_t, rr_cond_f, rr_bcond_t, rr_bcond_f, rr_bon, rr_bcv, rr_cv, rr_g, rr_gr, rr_si, rr_sz, rr_sr, rr_al, rr_ld, rr_st, rr_rl, rr_rs, rr_ni, rr_nr, rr_z, rr_div, rr_rem, rr_lc, rr_mx, rr_mn, rr_ab, rr_no, gd_t, bc_t, bc_f, gd_tt, bc_tt, bc_ff, or_true, true_or, and_true, true_and, Nat.reduceAdd, f0]
        · simp (disch := omega) only [X7_line, X7_within, rr_p, rr_bp, rr_bb, rr_0, rr_lt, rr_blt, rr_le, rr_ble, rr_eq, rr_beq, rr_nl_n, rr_nl_s, rr_bnl_n, rr_bnl_s, rr_cond_t, rr_cond_f, rr_bcond_t, rr_bcond_f, rr_bon, rr_bcv, rr_cv, rr_g, rr_gr, rr_si, rr_sz, rr_sr, rr_al, rr_ld, rr_st, rr_rl, rr_rs, rr_ni, rr_nr, rr_z, rr_div, rr_rem, rr_lc, rr_mx, rr_mn, rr_ab, rr_no, gd_t, bc_t, bc_f, gd_tt, bc_tt, bc_ff, or_true, true_or, and_true, true_and, Nat.reduceAdd, f0]
  · refine CJ.same (-102) ho ?_ ?_
    · intro x h hK
      obtain ⟨hR, nD, hSc, A, B, hB⟩ := id hK
      obtain ⟨⟨o1, ⟨p0, p1, p2, p4, p6, p7, p8, p9, p10, p11, p12⟩, o3, o4, o5, o6, o7, o8, o9⟩, ⟨f3, f5, f13⟩, hA, hQ, hM, hX⟩ := id hB
      have tR := hR.1
      have e1 := q4_size hR
      dsimp only at e1
      by_cases c3 : a < 0
      · simp (disch := omega) only [X6_line, rr_p, rr_bp, rr_bb, rr_0, rr_lt, rr_blt, rr_le, rr_ble, rr_eq, rr_beq, rr_nl_n, rr_nl_s, rr_bnl_n, rr_bnl_s, rr_cond_t, rr_cond_f, rr_bcond_t, rr_bcond_f, rr_bon, rr_bcv, rr_cv, rr_g, rr_gr, rr_si, rr_sz, rr_sr, rr_al, rr_ld, rr_st, rr_rl, rr_rs, rr_ni, rr_nr, rr_z, rr_div, rr_rem, rr_lc, rr_mx, rr_mn, rr_ab, rr_no, gd_t, bc_t, bc_f, gd_tt, bc_tt, bc_ff, or_true, true_or, and_true, true_and, Nat.reduceAdd, p0, mo_b_s e1]
      · simp (disch := omega) only [X6_line, rr_p, rr_bp, rr_bb, rr_0, rr_lt, rr_blt, rr_le, rr_ble, rr_eq, rr_beq, rr_nl_n, rr_nl_s, rr_bnl_n, rr_bnl_s, rr_cond_t, rr_cond_f, rr_bcond_t, rr_bcond_f, rr_bon, rr_bcv, rr_cv, rr_g, rr_gr, rr_si, rr_sz, rr_sr, rr_al, rr_ld, rr_st, rr_rl, rr_rs, rr_ni, rr_nr, rr_z, rr_div, rr_rem, rr_lc, rr_mx, rr_mn, rr_ab, rr_no, gd_t, bc_t, bc_f, gd_tt, bc_tt, bc_ff, or_true, true_or, and_true, true_and, Nat.reduceAdd, p0, mo_b_s e1]
    · intro m h hM
      have mT := hM.1.1
      have f0 := hM.2.1.1
      dsimp only at f0
      by_cases c3 : a < 0
      · simp (disch := omega) only [X7_line, X7_within, rr_p, rr_bp, rr_bb, rr_0, rr_lt, rr_blt, rr_le, rr_ble, rr_eq, rr_beq, rr_nl_n, rr_nl_s, rr_bnl_n, rr_bnl_s, rr_cond_t, rr_cond_f, rr_bcond_t, rr_bcond_f, rr_bon, rr_bcv, rr_cv, rr_g, rr_gr, rr_si, rr_sz, rr_sr, rr_al, rr_ld, rr_st, rr_rl, rr_rs, rr_ni, rr_nr, rr_z, rr_div, rr_rem, rr_lc, rr_mx, rr_mn, rr_ab, rr_no, gd_t, bc_t, bc_f, gd_tt, bc_tt, bc_ff, or_true, true_or, and_true, true_and, Nat.reduceAdd, f0]
      · simp (disch := omega) only [X7_line, X7_within, rr_p, rr_bp, rr_bb, rr_0, rr_lt, rr_blt, rr_le, rr_ble, rr_eq, rr_beq, rr_nl_n, rr_nl_s, rr_bnl_n, rr_bnl_s, rr_cond_t, rr_cond_f, rr_bcond_t, rr_bcond_f, rr_bon, rr_bcv, rr_cv, rr_g, rr_gr, rr_si, rr_sz, rr_sr, rr_al, rr_ld, rr_st, rr_rl, rr_rs, rr_ni, rr_nr, rr_z, rr_div, rr_rem, rr_lc, rr_mx, rr_mn, rr_ab, rr_no, gd_t, bc_t, bc_f, gd_tt, bc_tt, bc_ff, or_true, true_or, and_true, true_and, Nat.reduceAdd, f0]
