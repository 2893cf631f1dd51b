theorem rpl_at {xs c : List Int} {p : Int} {n : Nat} (h0 : 0 ≤ p) (h : p.toNat + n ≤ xs.length) (j : Nat) : (rpl xs p n c).getD j 0 = if (j : Int) < p then xs.getD j 0 else if (j : Int) < p + c.length then c.getD (j - p.toNat) 0 else xs.getD (j + n - c.length) 0 := by
  have hl : (xs.take p.toNat).length = p.toNat := by rw [List.length_take]; omega
  unfold rpl
  by_cases h1 : (j : Int) < p
  · rw [if_pos h1, getD_app_l (by rw [List.length_append]; omega), getD_app_l (by omega), getD_take (by omega)]
  · rw [if_neg h1]
    by_cases h2 : (j : Int) < p + c.length
    · rw [if_pos h2, getD_app_l (by rw [List.length_append]; omega), getD_app_r (by omega), hl]
    · rw [if_neg h2, getD_app_r (by rw [List.length_append]; omega), getD_drop, List.length_append, hl]
      congr 1; omega
theorem q7_layHunk {h : AH} {m p : Nat} {W : List HK} {xs : List Int} (hQ : mQ h m p W) (hR : mRow h m xs) {i : Nat} (hi : i < W.length) {a : Int} (h0 : 0 ≤ a) (h1 : a + (hk W i).2.1.length ≤ xs.length) (h2 : xs.length ≤ 80) (h3 : (xs.length : Int) + (hk W i).2.2.length ≤ 80 + (hk W i).2.1.length) : ∃ h', X7_layHunk m (p : Int) (i : Int) a h = some ((), h') ∧ mRow h' m (rpl xs a (hk W i).2.1.length (hk W i).2.2) ∧ MF m 20 21 27 28 h h' := by
  obtain ⟨hS, hPt, hp, l1, l2, l3⟩ := id hQ
  have mT := hS.1
  have f27 := hR.1
  obtain ⟨p9, t9, n9⟩ := ms9 hS
  obtain ⟨p10, t10, n10⟩ := ms10 hS
  obtain ⟨p12, t12, n12⟩ := ms12 hS
  obtain ⟨p20, t20, n20⟩ := ms20 hS
  obtain ⟨b1, b2, b3⟩ := mQ_a hQ (i := (i : Int)) (by omega) (by omega)
  rw [Int.toNat_natCast] at b1 b2 b3
  have s1 := @hcs_s W i hi
  have s2 := @hcs_le W (i + 1)
  have hmv : ∃ f1 : Int → Int, mo_b (mo_le ((hk W i).2.2.length : Int) ((hk W i).2.1.length : Int) (mo_b (mo_lp mo_N (X7_layHunk_L85 ((hk W i).2.1.length : Int) ((hk W i).2.2.length : Int) m) (a + ((hk W i).2.1.length : Int))) fun _ => mo_p ()) (mo_b (op_g 7 (some m) 27) fun t10 => mo_b (mo_lp mo_N (X7_layHunk_L41 ((hk W i).2.1.length : Int) ((hk W i).2.2.length : Int) m a) (t10 - 1)) fun _ => mo_p ())) mo_p h = some ((), ah_wI h (m + 20) f1) ∧ (∀ y, y < a → f1 y = ah_I h (m + 20) y) ∧ ∀ y, a + ((hk W i).2.2.length : Int) ≤ y → y < (xs.length : Int) + (hk W i).2.2.length - (hk W i).2.1.length → f1 y = ah_I h (m + 20) (y - (hk W i).2.2.length + (hk W i).2.1.length) := by
    by_cases hc : ((hk W i).2.2.length : Int) ≤ ((hk W i).2.1.length : Int)
    · let g : Nat → Int → Int := fun j y => if a + (hk W i).2.2.length ≤ y ∧ y < a + (hk W i).2.2.length + j then ah_I h (m + 20) (y - (hk W i).2.2.length + (hk W i).2.1.length) else ah_I h (m + 20) y
      have hL : mo_lp mo_N (X7_layHunk_L85 ((hk W i).2.1.length : Int) ((hk W i).2.2.length : Int) m) (a + ((hk W i).2.1.length : Int)) h = some ((), ah_wI h (m + 20) (g (xs.length - a.toNat - (hk W i).2.1.length))) := by
        have hs := lp_seq (F := X7_layHunk_L85 ((hk W i).2.1.length : Int) ((hk W i).2.2.length : Int) m) (fun j : Nat => a + ((hk W i).2.1.length : Int) + j) (fun j => ah_wI h (m + 20) (g j)) (xs.length - a.toNat - (hk W i).2.1.length) (b := ()) (hE := ah_wI h (m + 20) (g (xs.length - a.toNat - (hk W i).2.1.length))) ?_ ?_ mo_N (by rw [mo_N_v]; omega)
        · have e0 : g 0 = ah_I h (m + 20) := by funext y; simp only [g]; rw [if_neg (by omega)]
          simp only [e0, hl_wI_id] at hs
          simpa using hs
        · intro j hj
          have e1 : a + ((hk W i).2.1.length : Int) + (j : Int) + 1 = a + ((hk W i).2.1.length : Int) + ((j + 1 : Nat) : Int) := by omega
          have e2 : fu (g j) (a + ((hk W i).2.1.length : Int) + (j : Int) + ((hk W i).2.2.length : Int) - ((hk W i).2.1.length : Int)) (g j (a + ((hk W i).2.1.length : Int) + (j : Int))) = g (j + 1) := by
            funext y
            simp only [g, fu]
            by_cases hy : y = a + ((hk W i).2.1.length : Int) + (j : Int) + ((hk W i).2.2.length : Int) - ((hk W i).2.1.length : Int)
            · rw [if_pos hy, if_neg (by omega), if_pos (by omega)]; congr 1; omega
            · rw [if_neg hy]
              by_cases hy2 : a + ((hk W i).2.2.length : Int) ≤ y ∧ y < a + ((hk W i).2.2.length : Int) + j
              · rw [if_pos hy2, if_pos (by omega)]
              · rw [if_neg hy2, if_neg (by omega)]
          simp (disch := omega) only [X7_layHunk_L85, rr_p, rr_bp, rr_bb, rr_0, rr_lt, rr_blt, rr_le, rr_ble, rr_eq, rr_beq, rr_nl_n, rr_nl_s, rr_bnl_n, rr_bnl_s, rr_cond_t, rr_cond_f, rr_bcond_t, rr_bcond_f, rr_bon, rr_bcv, rr_cv, rr_g, rr_gr, rr_si, rr_sz, rr_sr, rr_al, rr_ld, rr_st, rr_rl, rr_rs, rr_ni, rr_nr, rr_z, rr_div, rr_rem, rr_lc, rr_mx, rr_mn, rr_ab, rr_no, gd_t, bc_t, bc_f, gd_tt, bc_tt, bc_ff, or_true, true_or, and_true, true_and, Nat.reduceAdd, hl_T_sF, hl_N_sF, hl_P_sF, hl_I_sF, hl_R_sF, hl_S_sF, hl_T_sP, hl_N_sP, hl_F_sP, hl_I_sP, hl_R_sP, hl_S_sP, hl_T_sI, hl_N_sI, hl_F_sI, hl_P_sI, hl_R_sI, hl_S_sI, hl_T_sR, hl_N_sR, hl_F_sR, hl_P_sR, hl_I_sR, hl_S_sR, hl_T_wI, hl_N_wI, hl_F_wI, hl_P_wI, hl_R_wI, hl_S_wI, hl_F_sF_s, hl_F_sF_n, hl_P_sP_s, hl_P_sP_n, hl_I_sI_s, hl_I_sI_n, hl_R_sR_s, hl_R_sR_n, hl_I_wI_s, hl_I_wI_n, f27, p20, hl_sI_wI, e1, e2]
        · simp (disch := omega) only [X7_layHunk_L85, rr_p, rr_bp, rr_bb, rr_0, rr_lt, rr_blt, rr_le, rr_ble, rr_eq, rr_beq, rr_nl_n, rr_nl_s, rr_bnl_n, rr_bnl_s, rr_cond_t, rr_cond_f, rr_bcond_t, rr_bcond_f, rr_bon, rr_bcv, rr_cv, rr_g, rr_gr, rr_si, rr_sz, rr_sr, rr_al, rr_ld, rr_st, rr_rl, rr_rs, rr_ni, rr_nr, rr_z, rr_div, rr_rem, rr_lc, rr_mx, rr_mn, rr_ab, rr_no, gd_t, bc_t, bc_f, gd_tt, bc_tt, bc_ff, or_true, true_or, and_true, true_and, Nat.reduceAdd, hl_T_sF, hl_N_sF, hl_P_sF, hl_I_sF, hl_R_sF, hl_S_sF, hl_T_sP, hl_N_sP, hl_F_sP, hl_I_sP, hl_R_sP, hl_S_sP, hl_T_sI, hl_N_sI, hl_F_sI, hl_P_sI, hl_R_sI, hl_S_sI, hl_T_sR, hl_N_sR, hl_F_sR, hl_P_sR, hl_I_sR, hl_S_sR, hl_T_wI, hl_N_wI, hl_F_wI, hl_P_wI, hl_R_wI, hl_S_wI, hl_F_sF_s, hl_F_sF_n, hl_P_sP_s, hl_P_sP_n, hl_I_sI_s, hl_I_sI_n, hl_R_sR_s, hl_R_sR_n, hl_I_wI_s, hl_I_wI_n, f27, p20]
      refine ⟨g (xs.length - a.toNat - (hk W i).2.1.length), by simp (disch := omega) only [rr_p, rr_bp, rr_bb, rr_0, rr_lt, rr_blt, rr_le, rr_ble, rr_eq, rr_beq, rr_nl_n, rr_nl_s, rr_bnl_n, rr_bnl_s, rr_cond_t, rr_cond_f, rr_bcond_t, rr_bcond_f, rr_bon, rr_bcv, rr_cv, rr_g, rr_gr, rr_si, rr_sz, rr_sr, rr_al, rr_ld, rr_st, rr_rl, rr_rs, rr_ni, rr_nr, rr_z, rr_div, rr_rem, rr_lc, rr_mx, rr_mn, rr_ab, rr_no, gd_t, bc_t, bc_f, gd_tt, bc_tt, bc_ff, or_true, true_or, and_true, true_and, Nat.reduceAdd, mo_b_s hL], fun y hy => ?_, fun y hy1 hy2 => ?_⟩
      · simp only [g]; rw [if_neg (by omega)]
      · simp only [g]; rw [if_pos (by omega)]
    · let g : Nat → Int → Int := fun j y => if (xs.length : Int) - 1 - j + (hk W i).2.2.length - (hk W i).2.1.length < y ∧ y ≤ (xs.length : Int) - 1 + (hk W i).2.2.length - (hk W i).2.1.length then ah_I h (m + 20) (y - (hk W i).2.2.length + (hk W i).2.1.length) else ah_I h (m + 20) y
      have hL : mo_lp mo_N (X7_layHunk_L41 ((hk W i).2.1.length : Int) ((hk W i).2.2.length : Int) m a) ((xs.length : Int) - 1) h = some ((), ah_wI h (m + 20) (g (xs.length - a.toNat - (hk W i).2.1.length))) := by
        have hs := lp_seq (F := X7_layHunk_L41 ((hk W i).2.1.length : Int) ((hk W i).2.2.length : Int) m a) (fun j : Nat => (xs.length : Int) - 1 - j) (fun j => ah_wI h (m + 20) (g j)) (xs.length - a.toNat - (hk W i).2.1.length) (b := ()) (hE := ah_wI h (m + 20) (g (xs.length - a.toNat - (hk W i).2.1.length))) ?_ ?_ mo_N (by rw [mo_N_v]; omega)
        · have e0 : g 0 = ah_I h (m + 20) := by funext y; simp only [g]; rw [if_neg (by omega)]
          simp only [e0, hl_wI_id] at hs
          simpa using hs
        · intro j hj
          have e1 : (xs.length : Int) - 1 - (j : Int) + -1 = (xs.length : Int) - 1 - ((j + 1 : Nat) : Int) := by omega
          have e2 : fu (g j) ((xs.length : Int) - 1 - (j : Int) + ((hk W i).2.2.length : Int) - ((hk W i).2.1.length : Int)) (g j ((xs.length : Int) - 1 - (j : Int))) = g (j + 1) := by
            funext y
            simp only [g, fu]
            by_cases hy : y = (xs.length : Int) - 1 - (j : Int) + ((hk W i).2.2.length : Int) - ((hk W i).2.1.length : Int)
            · rw [if_pos hy, if_neg (by omega), if_pos (by omega)]; congr 1; omega
            · rw [if_neg hy]
              by_cases hy2 : (xs.length : Int) - 1 - j + (hk W i).2.2.length - (hk W i).2.1.length < y ∧ y ≤ (xs.length : Int) - 1 + (hk W i).2.2.length - (hk W i).2.1.length
              · rw [if_pos hy2, if_pos (by omega)]
              · rw [if_neg hy2, if_neg (by omega)]
          simp (disch := omega) only [X7_layHunk_L41, rr_p, rr_bp, rr_bb, rr_0, rr_lt, rr_blt, rr_le, rr_ble, rr_eq, rr_beq, rr_nl_n, rr_nl_s, rr_bnl_n, rr_bnl_s, rr_cond_t, rr_cond_f, rr_bcond_t, rr_bcond_f, rr_bon, rr_bcv, rr_cv, rr_g, rr_gr, rr_si, rr_sz, rr_sr, rr_al, rr_ld, rr_st, rr_rl, rr_rs, rr_ni, rr_nr, rr_z, rr_div, rr_rem, rr_lc, rr_mx, rr_mn, rr_ab, rr_no, gd_t, bc_t, bc_f, gd_tt, bc_tt, bc_ff, or_true, true_or, and_true, true_and, Nat.reduceAdd, hl_T_sF, hl_N_sF, hl_P_sF, hl_I_sF, hl_R_sF, hl_S_sF, hl_T_sP, hl_N_sP, hl_F_sP, hl_I_sP, hl_R_sP, hl_S_sP, hl_T_sI, hl_N_sI, hl_F_sI, hl_P_sI, hl_R_sI, hl_S_sI, hl_T_sR, hl_N_sR, hl_F_sR, hl_P_sR, hl_I_sR, hl_S_sR, hl_T_wI, hl_N_wI, hl_F_wI, hl_P_wI, hl_R_wI, hl_S_wI, hl_F_sF_s, hl_F_sF_n, hl_P_sP_s, hl_P_sP_n, hl_I_sI_s, hl_I_sI_n, hl_R_sR_s, hl_R_sR_n, hl_I_wI_s, hl_I_wI_n, p20, hl_sI_wI, e1, e2]
        · simp (disch := omega) only [X7_layHunk_L41, rr_p, rr_bp, rr_bb, rr_0, rr_lt, rr_blt, rr_le, rr_ble, rr_eq, rr_beq, rr_nl_n, rr_nl_s, rr_bnl_n, rr_bnl_s, rr_cond_t, rr_cond_f, rr_bcond_t, rr_bcond_f, rr_bon, rr_bcv, rr_cv, rr_g, rr_gr, rr_si, rr_sz, rr_sr, rr_al, rr_ld, rr_st, rr_rl, rr_rs, rr_ni, rr_nr, rr_z, rr_div, rr_rem, rr_lc, rr_mx, rr_mn, rr_ab, rr_no, gd_t, bc_t, bc_f, gd_tt, bc_tt, bc_ff, or_true, true_or, and_true, true_and, Nat.reduceAdd, hl_T_sF, hl_N_sF, hl_P_sF, hl_I_sF, hl_R_sF, hl_S_sF, hl_T_sP, hl_N_sP, hl_F_sP, hl_I_sP, hl_R_sP, hl_S_sP, hl_T_sI, hl_N_sI, hl_F_sI, hl_P_sI, hl_R_sI, hl_S_sI, hl_T_sR, hl_N_sR, hl_F_sR, hl_P_sR, hl_I_sR, hl_S_sR, hl_T_wI, hl_N_wI, hl_F_wI, hl_P_wI, hl_R_wI, hl_S_wI, hl_F_sF_s, hl_F_sF_n, hl_P_sP_s, hl_P_sP_n, hl_I_sI_s, hl_I_sI_n, hl_R_sR_s, hl_R_sR_n, hl_I_wI_s, hl_I_wI_n, p20]
      refine ⟨g (xs.length - a.toNat - (hk W i).2.1.length), by simp (disch := omega) only [rr_p, rr_bp, rr_bb, rr_0, rr_lt, rr_blt, rr_le, rr_ble, rr_eq, rr_beq, rr_nl_n, rr_nl_s, rr_bnl_n, rr_bnl_s, rr_cond_t, rr_cond_f, rr_bcond_t, rr_bcond_f, rr_bon, rr_bcv, rr_cv, rr_g, rr_gr, rr_si, rr_sz, rr_sr, rr_al, rr_ld, rr_st, rr_rl, rr_rs, rr_ni, rr_nr, rr_z, rr_div, rr_rem, rr_lc, rr_mx, rr_mn, rr_ab, rr_no, gd_t, bc_t, bc_f, gd_tt, bc_tt, bc_ff, or_true, true_or, and_true, true_and, Nat.reduceAdd, f27, mo_b_s hL], fun y hy => ?_, fun y hy1 hy2 => ?_⟩
      · simp only [g]; rw [if_neg (by omega)]
      · simp only [g]; rw [if_pos (by omega)]
  obtain ⟨f1, e1, v1, v2⟩ := hmv
  rw [mo_bp] at e1
  have hcl : ∀ k : Nat, k < (hk W i).2.2.length → ah_I h (m + 12) (28 * (p : Int) + (hcs W i : Int) + (k : Int)) = (hk W i).2.2.getD k 0 := fun k hk1 => mQ_cl hQ hi hk1
  have hL3 := lp_cp (F := X7_layHunk_L123 ((hk W i).2.2.length : Int) m (p : Int) (i : Int) a) (h := ah_wI h (m + 20) f1) (a := m + 20) (n := (hk W i).2.2.length) a (fun k => ah_I h (m + 12) (28 * (p : Int) + (hcs W i : Int) + k)) (by omega) ?_ ?_
  · have F1 : MF m 20 21 27 28 h (ah_sF (ah_wI (ah_wI h (m + 20) f1) (m + 20) (fun y => if a ≤ y ∧ y < a + ((hk W i).2.2.length : Int) then ah_I h (m + 12) (28 * (p : Int) + (hcs W i : Int) + (y - a)) else ah_I (ah_wI h (m + 20) f1) (m + 20) y)) m 27 ((xs.length : Int) + (((hk W i).2.2.length : Int) - ((hk W i).2.1.length : Int)))) :=
      MF.tr (MF.tr (MF.wI (al := 20) (ah_ := 21) (fl := 27) (fh := 28) (by omega) (by omega)) (MF.wI (al := 20) (ah_ := 21) (fl := 27) (fh := 28) (by omega) (by omega)) (a3 := 20) (b3 := 21) (c3 := 27) (d3 := 28) (by omega)) (MF.sF (al := 20) (ah_ := 21) (fl := 27) (fh := 28) (by omega) (by omega)) (by omega)
    have hlen := rpl_len (xs := xs) (c := (hk W i).2.2) (p := a) (n := (hk W i).2.1.length) (by omega)
    refine ⟨_, ?_, ⟨?_, fun j hj => ?_⟩, F1⟩
    · simp (disch := omega) only [X7_layHunk, rr_p, rr_bp, rr_bb, rr_0, rr_lt, rr_blt, rr_le, rr_ble, rr_eq, rr_beq, rr_nl_n, rr_nl_s, rr_bnl_n, rr_bnl_s, rr_cond_t, rr_cond_f, rr_bcond_t, rr_bcond_f, rr_bon, rr_bcv, rr_cv, rr_g, rr_gr, rr_si, rr_sz, rr_sr, rr_al, rr_ld, rr_st, rr_rl, rr_rs, rr_ni, rr_nr, rr_z, rr_div, rr_rem, rr_lc, rr_mx, rr_mn, rr_ab, rr_no, gd_t, bc_t, bc_f, gd_tt, bc_tt, bc_ff, or_true, true_or, and_true, true_and, Nat.reduceAdd, hl_T_sF, hl_N_sF, hl_P_sF, hl_I_sF, hl_R_sF, hl_S_sF, hl_T_sP, hl_N_sP, hl_F_sP, hl_I_sP, hl_R_sP, hl_S_sP, hl_T_sI, hl_N_sI, hl_F_sI, hl_P_sI, hl_R_sI, hl_S_sI, hl_T_sR, hl_N_sR, hl_F_sR, hl_P_sR, hl_I_sR, hl_S_sR, hl_T_wI, hl_N_wI, hl_F_wI, hl_P_wI, hl_R_wI, hl_S_wI, hl_F_sF_s, hl_F_sF_n, hl_P_sP_s, hl_P_sP_n, hl_I_sI_s, hl_I_sI_n, hl_R_sR_s, hl_R_sR_n, hl_I_wI_s, hl_I_wI_n, p9, p10, b2, b3, f27, mo_b_s e1, mo_b_s hL3]
    · rw [hl_F_sF_s]; omega
    · rw [hl_I_sF, hl_I_wI_s, hl_I_wI_s, rpl_at h0 (by omega)]
      by_cases q1 : (j : Int) < a
      · rw [if_neg (by omega), if_pos q1, v1 _ q1]; exact hR.2 j (by omega)
      · rw [if_neg q1]
        by_cases q2 : (j : Int) < a + (hk W i).2.2.length
        · rw [if_pos ⟨by omega, q2⟩, if_pos q2]
          have := hcl (j - a.toNat) (by omega)
          rw [← this]; congr 1; omega
        · rw [if_neg (by omega), if_neg q2, v2 _ (by omega) (by omega)]
          have := hR.2 (j + (hk W i).2.1.length - (hk W i).2.2.length) (by omega)
          rw [← this]; congr 1; omega
  · intro k g hk1
    have hQ2 : mQ (ah_wI (ah_wI h (m + 20) f1) (m + 20) g) m p W := mQ_fr (mQ_fr hQ (MF.wI (al := 20) (ah_ := 21) (fl := 27) (fh := 28) (f := f1) (by omega) (by omega)) (by omega)) (MF.wI (al := 20) (ah_ := 21) (fl := 27) (fh := 28) (by omega) (by omega)) (by omega)
    have e2 := q7_comeFrom hQ2 (i := i) (by omega)
    simp (disch := omega) only [X7_layHunk_L123, rr_p, rr_bp, rr_bb, rr_0, rr_lt, rr_blt, rr_le, rr_ble, rr_eq, rr_beq, rr_nl_n, rr_nl_s, rr_bnl_n, rr_bnl_s, rr_cond_t, rr_cond_f, rr_bcond_t, rr_bcond_f, rr_bon, rr_bcv, rr_cv, rr_g, rr_gr, rr_si, rr_sz, rr_sr, rr_al, rr_ld, rr_st, rr_rl, rr_rs, rr_ni, rr_nr, rr_z, rr_div, rr_rem, rr_lc, rr_mx, rr_mn, rr_ab, rr_no, gd_t, bc_t, bc_f, gd_tt, bc_tt, bc_ff, or_true, true_or, and_true, true_and, Nat.reduceAdd, hl_T_sF, hl_N_sF, hl_P_sF, hl_I_sF, hl_R_sF, hl_S_sF, hl_T_sP, hl_N_sP, hl_F_sP, hl_I_sP, hl_R_sP, hl_S_sP, hl_T_sI, hl_N_sI, hl_F_sI, hl_P_sI, hl_R_sI, hl_S_sI, hl_T_sR, hl_N_sR, hl_F_sR, hl_P_sR, hl_I_sR, hl_S_sR, hl_T_wI, hl_N_wI, hl_F_wI, hl_P_wI, hl_R_wI, hl_S_wI, hl_F_sF_s, hl_F_sF_n, hl_P_sP_s, hl_P_sP_n, hl_I_sI_s, hl_I_sI_n, hl_R_sR_s, hl_R_sR_n, hl_I_wI_s, hl_I_wI_n, p20, p12, mo_b_s e2, hl_sI_wI]
  · intro g
    simp (disch := omega) only [X7_layHunk_L123, rr_p, rr_bp, rr_bb, rr_0, rr_lt, rr_blt, rr_le, rr_ble, rr_eq, rr_beq, rr_nl_n, rr_nl_s, rr_bnl_n, rr_bnl_s, rr_cond_t, rr_cond_f, rr_bcond_t, rr_bcond_f, rr_bon, rr_bcv, rr_cv, rr_g, rr_gr, rr_si, rr_sz, rr_sr, rr_al, rr_ld, rr_st, rr_rl, rr_rs, rr_ni, rr_nr, rr_z, rr_div, rr_rem, rr_lc, rr_mx, rr_mn, rr_ab, rr_no, gd_t, bc_t, bc_f, gd_tt, bc_tt, bc_ff, or_true, true_or, and_true, true_and, Nat.reduceAdd]
/-- laid from the last hunk to the first -/
def layR (xs : List Int) : List HK → List Int
  | [] => xs
  | q :: W => rpl (layR xs W) q.1 q.2.1.length q.2.2
theorem sW_sep : ∀ {W : List HK} {p : Int}, (W = [] ∨ p ≤ (hk W 0).1) → (∀ i : Nat, i + 1 < W.length → (hk W i).1 + (hk W i).2.1.length + 1 ≤ (hk W (i + 1)).1) → sep p W := by
  intro W
  induction W with
  | nil => intro p _ _; trivial
  | cons q W ih =>
    intro p h1 h2
    refine ⟨(h1.resolve_left (fun z => by cases z)), ih ?_ ?_⟩
    · cases W with
      | nil => exact Or.inl rfl
      | cons r W => exact Or.inr (h2 0 (by simp))
    · intro i hi; exact h2 (i + 1) (by simpa using hi)
theorem lay_eq {xs : List Int} : ∀ {W : List HK} {p : Int}, 0 ≤ p → p ≤ xs.length → sep p W → (∀ q ∈ W, q.1 + (q.2.1.length : Int) ≤ xs.length) → (layR xs W).drop p.toNat = layW xs p W ∧ (layR xs W).take p.toNat = xs.take p.toNat := by
  intro W
  induction W with
  | nil => intro p _ _ _ _; exact ⟨rfl, rfl⟩
  | cons q W ih =>
    intro p hp hpl hs hf
    obtain ⟨h1, h2⟩ := hs
    have hq := hf q (by simp)
    obtain ⟨i1, i2⟩ := ih (p := q.1 + (q.2.1.length : Int)) (by omega) hq (sep_mono h2 (by omega)) (fun r hr => hf r (by simp [hr]))
    have hlR : q.1.toNat + q.2.1.length ≤ (layR xs W).length := by
      have := congrArg List.length i2
      rw [List.length_take, List.length_take] at this
      omega
    have ht : ∀ n : Nat, n ≤ q.1.toNat + q.2.1.length → (layR xs W).take n = xs.take n := by
      intro n hn
      have := congrArg (fun l => l.take n) i2
      simp only [List.take_take] at this
      rw [Nat.min_eq_left (by omega)] at this
      exact this
    have hl : ((layR xs W).take q.1.toNat).length = q.1.toNat := by rw [List.length_take]; omega
    rw [show (q.1 + (q.2.1.length : Int)).toNat = q.1.toNat + q.2.1.length by omega] at i1
    refine ⟨?_, ?_⟩
    · show (rpl (layR xs W) q.1 q.2.1.length q.2.2).drop p.toNat = (xs.take q.1.toNat).drop p.toNat ++ q.2.2 ++ layW xs (q.1 + q.2.1.length) W
      unfold rpl
      rw [List.append_assoc, List.drop_append_of_le_length (by omega), i1, ht _ (by omega), List.append_assoc]
    · show (rpl (layR xs W) q.1 q.2.1.length q.2.2).take p.toNat = _
      unfold rpl
      rw [List.append_assoc, List.take_append_of_le_length (by omega), List.take_take, Nat.min_eq_left (by omega), ht _ (by omega)]
theorem layR_len {xs : List Int} : ∀ {W : List HK} {p : Int}, 0 ≤ p → p ≤ xs.length → sep p W → (∀ q ∈ W, q.1 + (q.2.1.length : Int) ≤ xs.length) → (layR xs W).length + (fG W).length = xs.length + (fC W).length := by
  intro W
  induction W with
  | nil => intro p _ _ _ _; simp [layR, fG, fC]
  | cons q W ih =>
    intro p hp hpl hs hf
    obtain ⟨h1, h2⟩ := hs
    have hq := hf q (by simp)
    have i1 := (lay_eq (xs := xs) (p := q.1 + (q.2.1.length : Int)) (by omega) hq (sep_mono h2 (by omega)) (fun r hr => hf r (by simp [hr]))).2
    have hlR : q.1.toNat + q.2.1.length ≤ (layR xs W).length := by
      have := congrArg List.length i1
      rw [List.length_take, List.length_take] at this
      omega
    have i2 := ih (p := q.1 + (q.2.1.length : Int)) (by omega) hq (sep_mono h2 (by omega)) (fun r hr => hf r (by simp [hr]))
    have i3 := rpl_len (xs := layR xs W) (c := q.2.2) (p := q.1) (n := q.2.1.length) (by omega)
    have e1 : (fG (q :: W)).length = q.2.1.length + (fG W).length := by simp [fG]
    have e2 : (fC (q :: W)).length = q.2.2.length + (fC W).length := by simp [fC]
    show (rpl (layR xs W) q.1 q.2.1.length q.2.2).length + _ = _
    omega
