theorem tI_pV {b : Int} {P Q : List HK} {i j : Nat} {acc : List HK} (h : tI b P Q i j acc) (hb : b ≤ 1000) : pV acc := by
  obtain ⟨ep, -, -, -, -, ⟨hs, -⟩, hw⟩ := h
  intro k
  by_cases hk1 : k < acc.length
  · obtain ⟨g1, g2, g3⟩ := hw _ (hk_mem hk1)
    have := (sep_sW hs).1 k hk1
    exact ⟨by omega, wL_pL g1, wL_pL g2⟩
  · have e : hk acc k = (0, [], []) := by unfold hk; rw [List.getD_eq_getElem?_getD, List.getElem?_eq_none (by omega)]; rfl
    rw [e]; exact ⟨by dsimp only; omega, pL_nil, pL_nil⟩
theorem tI_OP {b : Int} {P Q : List HK} {i j : Nat} {acc : List HK} (h : tI b P Q i j acc) (h1 : acc.length ≤ 10) (h2 : (fG acc).length ≤ 28) (h3 : (fC acc).length ≤ 28) : OP b acc := by
  obtain ⟨ep, -, -, -, -, ⟨hs, -⟩, hw⟩ := h
  exact ⟨sep_sW hs, h1, h2, h3, fun i hi => hw _ (hk_mem hi)⟩
theorem q0_putTogether {h : AH} {a b w mh ml mh2 ml2 : Nat} {b0 : Int} {P Q W0 : List HK} (hP : kP h a mh ml P) (oP : OP b0 P) (hQ : kP h b mh2 ml2 Q) (oQ : OP b0 Q) (hb0 : b0 ≤ 900) (hW : kP h w 20 56 W0) (tc : ah_T h (w + 6) = 10) (da : w + 7 ≤ a ∨ a + 6 ≤ w) (db : w + 7 ≤ b ∨ b + 6 ≤ w) : ∃ (i j : Nat) (h' : AH), X0_putTogether (w + 6) (some a) (some b) (some w) h = some ((), h') ∧ kP h' w 20 56 (tg P Q (P.length + Q.length) 0 0 []) ∧ FRM h h' w (w + 7) ∧ tI (b0 + 28) P Q i j (tg P Q (P.length + Q.length) 0 0 []) := by
  have vP := OP_pV oP (by omega)
  have vQ := OP_pV oQ (by omega)
  have lP := oP.2.1
  have lQ := oQ.2.1
  have tW := hW.1.1.1
  obtain ⟨h1, e1, r1, g1⟩ := q3_clear hW
  have tc1 : ah_T h1 (w + 6) = 10 := by rw [g1.1]; exact tc
  have G0 : FRM h (ah_sF (ah_sF h1 (w + 6) 1 0) (w + 6) 3 0) w (w + 7) := (g1.tr (FRM.sF (lo := w) (hi := w + 7) (by omega) (by omega)) (lo3 := w) (hi3 := w + 7) (by omega) (by omega) (by omega) (by omega)).tr (FRM.sF (lo := w) (hi := w + 7) (by omega) (by omega)) (by omega) (by omega) (by omega) (by omega)
  have r1' : kP (ah_sF (ah_sF h1 (w + 6) 1 0) (w + 6) 3 0) w 20 56 [] := kP_fr (kP_fr r1 (FRM.sF (lo := w + 6) (hi := w + 7) (by omega) (by omega)) (by omega)) (FRM.sF (lo := w + 6) (hi := w + 7) (by omega) (by omega)) (by omega)
  have hL := lp_inv (F := X0_putTogether_L17 (w + 6) (some a) (some b) (some w)) (fun s h' => ∃ (n i j : Nat) (acc : List HK), s = (n : Int) ∧ n ≤ P.length + Q.length ∧ (ah_T h' (w + 6) = 10 ∧ ah_F h' (w + 6) 1 = (i : Int) ∧ ah_F h' (w + 6) 3 = (j : Int)) ∧ kP h' w 20 56 acc ∧ FRM h h' w (w + 7) ∧ tI (b0 + 28) P Q i j acc ∧ tg P Q (P.length + Q.length - n) i j acc = tg P Q (P.length + Q.length) 0 0 []) (fun s => (((P.length + Q.length : Nat) : Int) - s).toNat) (fun _ h' => ∃ (i j : Nat), kP h' w 20 56 (tg P Q (P.length + Q.length) 0 0 []) ∧ FRM h h' w (w + 7) ∧ tI (b0 + 28) P Q i j (tg P Q (P.length + Q.length) 0 0 [])) ?_ mo_N 0 (ah_sF (ah_sF h1 (w + 6) 1 0) (w + 6) 3 0) ⟨0, 0, 0, [], rfl, by omega, ⟨by simp (disch := omega) only [hl_T_sF, hl_N_sF, hl_P_sF, hl_I_sF, hl_R_sF, hl_S_sF, hl_T_sP, hl_N_sP, hl_F_sP, hl_I_sP, hl_R_sP, hl_S_sP, hl_T_sI, hl_N_sI, hl_F_sI, hl_P_sI, hl_R_sI, hl_S_sI, hl_T_sR, hl_N_sR, hl_F_sR, hl_P_sR, hl_I_sR, hl_S_sR, hl_T_wI, hl_N_wI, hl_F_wI, hl_P_wI, hl_R_wI, hl_S_wI, hl_F_sF_s, hl_F_sF_n, hl_P_sP_s, hl_P_sP_n, hl_I_sI_s, hl_I_sI_n, hl_R_sR_s, hl_R_sR_n, hl_I_wI_s, hl_I_wI_n]; exact tc1, by simp (disch := omega) only [hl_T_sF, hl_N_sF, hl_P_sF, hl_I_sF, hl_R_sF, hl_S_sF, hl_T_sP, hl_N_sP, hl_F_sP, hl_I_sP, hl_R_sP, hl_S_sP, hl_T_sI, hl_N_sI, hl_F_sI, hl_P_sI, hl_R_sI, hl_S_sI, hl_T_sR, hl_N_sR, hl_F_sR, hl_P_sR, hl_I_sR, hl_S_sR, hl_T_wI, hl_N_wI, hl_F_wI, hl_P_wI, hl_R_wI, hl_S_wI, hl_F_sF_s, hl_F_sF_n, hl_P_sP_s, hl_P_sP_n, hl_I_sI_s, hl_I_sI_n, hl_R_sR_s, hl_R_sR_n, hl_I_wI_s, hl_I_wI_n]; rfl, by simp (disch := omega) only [hl_T_sF, hl_N_sF, hl_P_sF, hl_I_sF, hl_R_sF, hl_S_sF, hl_T_sP, hl_N_sP, hl_F_sP, hl_I_sP, hl_R_sP, hl_S_sP, hl_T_sI, hl_N_sI, hl_F_sI, hl_P_sI, hl_R_sI, hl_S_sI, hl_T_sR, hl_N_sR, hl_F_sR, hl_P_sR, hl_I_sR, hl_S_sR, hl_T_wI, hl_N_wI, hl_F_wI, hl_P_wI, hl_R_wI, hl_S_wI, hl_F_sF_s, hl_F_sF_n, hl_P_sP_s, hl_P_sP_n, hl_I_sI_s, hl_I_sI_n, hl_R_sR_s, hl_R_sR_n, hl_I_wI_s, hl_I_wI_n]; rfl⟩, r1', G0, tI_0 oP.1 oQ.1, rfl⟩ (by rw [mo_N_v]; omega)
  · obtain ⟨_, h', e2, i, j, q⟩ := hL
    exact ⟨i, j, h', by simp (disch := omega) only [X0_putTogether, rr_p, rr_bp, rr_bb, rr_0, rr_lt, rr_blt, rr_le, rr_ble, rr_eq, rr_beq, rr_nl_n, rr_nl_s, rr_bnl_n, rr_bnl_s, rr_cond_t, rr_cond_f, rr_bcond_t, rr_bcond_f, rr_bon, rr_bcv, rr_cv, rr_g, rr_gr, rr_si, rr_sz, rr_sr, rr_al, rr_ld, rr_st, rr_rl, rr_rs, rr_ni, rr_nr, rr_z, rr_div, rr_rem, rr_lc, rr_mx, rr_mn, rr_ab, rr_no, gd_t, bc_t, bc_f, gd_tt, bc_tt, bc_ff, or_true, true_or, and_true, true_and, Nat.reduceAdd, hl_T_sF, hl_N_sF, hl_P_sF, hl_I_sF, hl_R_sF, hl_S_sF, hl_T_sP, hl_N_sP, hl_F_sP, hl_I_sP, hl_R_sP, hl_S_sP, hl_T_sI, hl_N_sI, hl_F_sI, hl_P_sI, hl_R_sI, hl_S_sI, hl_T_sR, hl_N_sR, hl_F_sR, hl_P_sR, hl_I_sR, hl_S_sR, hl_T_wI, hl_N_wI, hl_F_wI, hl_P_wI, hl_R_wI, hl_S_wI, hl_F_sF_s, hl_F_sF_n, hl_P_sP_s, hl_P_sP_n, hl_I_sI_s, hl_I_sI_n, hl_R_sR_s, hl_R_sR_n, hl_I_wI_s, hl_I_wI_n, mo_b_s e1, mo_b_s e2], q⟩
  · rintro s h' ⟨n, i, j, acc, rfl, hn, ⟨c1, c2, c3⟩, hA, hf, hT, hE⟩
    have hP' := kP_fr hP hf (by omega)
    have hQ' := kP_fr hQ hf (by omega)
    have s0 := hP'.1.1.1
    have s1 := hQ'.1.1.1
    have s2 := hA.1.1.1
    have E0 := q3_hunks hP'
    have E1 := q3_hunks hQ'
    by_cases cn : n < P.length + Q.length
    · left
      by_cases cl : i < P.length ∨ j < Q.length
      · have hT2 := hT
        obtain ⟨ep, ⟨t1, t2, t3⟩, -, -, ⟨t8, t9, t10⟩, -⟩ := hT2
        obtain ⟨i1, j1, e, h2, e2, k2, g2, hS, hX⟩ := q0_gather hP' vP oP.1 hQ' vQ oQ.1 (by omega) (by omega) c1 c2 c3 t1 t2 cl
        obtain ⟨u1, ⟨u2, u3, u4, u5⟩, u6, u7, u8, u9⟩ := tI_step oP oQ hT cl hS hX
        obtain ⟨G1, G2, G3⟩ := gL_f (X := ivP P) (Y := ivQ Q) cl
        have hes := tg_s (n := P.length + Q.length - n - 1) (acc := acc) cl hS hX
        rw [show P.length + Q.length - n - 1 + 1 = P.length + Q.length - n by omega, hE] at hes
        obtain ⟨⟨⟨-, -, cle⟩, D1, D2⟩, -, -, hcnt⟩ := id hS
        have hcnt : e - gL (ivP P) (ivQ Q) i j ≤ ((hcs P i1 : Int) - (hcs P i : Int)) + ((hgs Q j1 : Int) - (hgs Q j : Int)) := hcnt
        have z1 := @hcs_le P i1
        have z2 := @hgs_le Q j1
        have z3 := @hgs_le P i1
        have z4 := @hcs_le Q j1
        have z5 := oP.2.2.1
        have z6 := oP.2.2.2.1
        have z7 := oQ.2.2.1
        have z8 := oQ.2.2.2.1
        have rlo : 0 ≤ gL (ivP P) (ivQ Q) i j ∧ gL (ivP P) (ivQ Q) i j ≤ 100056 := by
          rcases G3 with ⟨y1, y2⟩ | ⟨y1, y2⟩
          · rw [y2]; exact ⟨hB_0 oP.1 y1, (hB_r hP vP i).2⟩
          · rw [y2]; have q1 := (vQ j).1; have q2 := oQ.1.1 j y1; show 0 ≤ (hk Q j).1 ∧ (hk Q j).1 ≤ 100056; omega
        have hP2 := kP_fr hP' g2 (by omega)
        have hQ2 := kP_fr hQ' g2 (by omega)
        have hA2 := kP_fr hA g2 (by omega)
        have w0 := hP2.1.1.1
        have w2 := hA2.1.1.1
        have k21 := k2.1
        have k20 := k2.2.1
        have k24 := k2.2.2.2.2.2.1
        have e3 := q3_shift hP2 (i := (i : Int)) (by omega) (by omega)
        rw [Int.toNat_natCast] at e3
        obtain ⟨h3, e4, r4, g4⟩ := q3_begin hA2 (p := gL (ivP P) (ivQ Q) i j - ((hcs P i : Int) - (hgs P i : Int))) (by omega)
        have hP3 := kP_fr hP2 g4 (by omega)
        have hQ3 := kP_fr hQ2 g4 (by omega)
        have k3 := kC_fr k2 g4 (by omega)
        have k31 := k3.1
        obtain ⟨h4, e5, r5, g5⟩ := q0_writeGoing hP3 vP oP.1 hQ3 vQ oQ.1 r4 (by omega) (by omega) (by omega) k3 ⟨u2, u3⟩ rlo.1 cle (by omega) (fun hr => G1 hr) D1 (by
          have : (fG acc).length + (gH P Q i j i1 j1 (gL (ivP P) (ivQ Q) i j) e).2.1.length ≤ 56 := by omega
          exact this)
        have hP4 := kP_fr hP3 g5 (by omega)
        have hQ4 := kP_fr hQ3 g5 (by omega)
        have k4 := kC_fr k3 g5 (by omega)
        have k41 := k4.1
        obtain ⟨h5, e6, r6, g6⟩ := q0_writeComing hP4 vP oP.1 hQ4 vQ oQ.1 r5 (by omega) (by omega) (by omega) k4 ⟨u4, u5⟩ rlo.1 cle (by omega) (fun hr => G2 hr) D2 (by
          have : (fC acc).length + (gH P Q i j i1 j1 (gL (ivP P) (ivQ Q) i j) e).2.2.length ≤ 56 := by omega
          exact this)
        have r6 : kP h5 w 20 56 (acc ++ [gH P Q i j i1 j1 (gL (ivP P) (ivQ Q) i j) e]) := r6
        have k5 := kC_fr k4 g6 (by omega)
        have w5 := r6.1.1.1
        have e7 := q3_lastIsIdle r6 (tI_pV u7 (by omega))
        have F1 : FRM h' h5 w (w + 7) := (((g2.tr g4 (lo3 := w) (hi3 := w + 7) (by omega) (by omega) (by omega) (by omega)).tr g5 (lo3 := w) (hi3 := w + 7) (by omega) (by omega) (by omega) (by omega)).tr g6 (lo3 := w) (hi3 := w + 7) (by omega) (by omega) (by omega) (by omega))
        have F2 : FRM h h5 w (w + 7) := hf.tr F1 (by omega) (by omega) (by omega) (by omega)
        by_cases ci : (gH P Q i j i1 j1 (gL (ivP P) (ivQ Q) i j) e).2.1 = (gH P Q i j i1 j1 (gL (ivP P) (ivQ Q) i j) e).2.2
        · rw [bc_t ci] at e7 hes
          obtain ⟨h6, e8, r8, g8⟩ := q3_leaveOutLast r6
          have k6 := kC_fr k5 g8 (by omega)
          refine ⟨(n : Int) + 1, h6, ?_, ⟨n + 1, i1, j1, acc, by simp, by omega, ⟨k6.1, k6.2.2.1, k6.2.2.2.2.1⟩, r8, F2.tr g8 (by omega) (by omega) (by omega) (by omega), u6, ?_⟩, by omega⟩
          · by_cases cp : i < P.length
            · simp (disch := omega) only [X0_putTogether_L17, rr_p, rr_bp, rr_bb, rr_0, rr_lt, rr_blt, rr_le, rr_ble, rr_eq, rr_beq, rr_nl_n, rr_nl_s, rr_bnl_n, rr_bnl_s, rr_cond_t, rr_cond_f, rr_bcond_t, rr_bcond_f, rr_bon, rr_bcv, rr_cv, rr_g, rr_gr, rr_si, rr_sz, rr_sr, rr_al, rr_ld, rr_st, rr_rl, rr_rs, rr_ni, rr_nr, rr_z, rr_div, rr_rem, rr_lc, rr_mx, rr_mn, rr_ab, rr_no, gd_t, bc_t, bc_f, gd_tt, bc_tt, bc_ff, or_true, true_or, and_true, true_and, Nat.reduceAdd, mo_b_s E0, mo_b_s E1, c2, mo_b_s e2, k20, k24, mo_b_s e3, mo_b_s e4, mo_b_s e5, mo_b_s e6, mo_b_s e7, mo_b_s e8]
            · simp (disch := omega) only [X0_putTogether_L17, rr_p, rr_bp, rr_bb, rr_0, rr_lt, rr_blt, rr_le, rr_ble, rr_eq, rr_beq, rr_nl_n, rr_nl_s, rr_bnl_n, rr_bnl_s, rr_cond_t, rr_cond_f, rr_bcond_t, rr_bcond_f, rr_bon, rr_bcv, rr_cv, rr_g, rr_gr, rr_si, rr_sz, rr_sr, rr_al, rr_ld, rr_st, rr_rl, rr_rs, rr_ni, rr_nr, rr_z, rr_div, rr_rem, rr_lc, rr_mx, rr_mn, rr_ab, rr_no, gd_t, bc_t, bc_f, gd_tt, bc_tt, bc_ff, or_true, true_or, and_true, true_and, Nat.reduceAdd, mo_b_s E0, mo_b_s E1, c2, c3, mo_b_s e2, k20, k24, mo_b_s e3, mo_b_s e4, mo_b_s e5, mo_b_s e6, mo_b_s e7, mo_b_s e8]
          · rw [show P.length + Q.length - (n + 1) = P.length + Q.length - n - 1 by omega]; exact hes.symm
        · rw [bc_f ci] at e7 hes
          refine ⟨(n : Int) + 1, h5, ?_, ⟨n + 1, i1, j1, _, by simp, by omega, ⟨k5.1, k5.2.2.1, k5.2.2.2.2.1⟩, r6, F2, u7, ?_⟩, by omega⟩
          · by_cases cp : i < P.length
            · simp (disch := omega) only [X0_putTogether_L17, rr_p, rr_bp, rr_bb, rr_0, rr_lt, rr_blt, rr_le, rr_ble, rr_eq, rr_beq, rr_nl_n, rr_nl_s, rr_bnl_n, rr_bnl_s, rr_cond_t, rr_cond_f, rr_bcond_t, rr_bcond_f, rr_bon, rr_bcv, rr_cv, rr_g, rr_gr, rr_si, rr_sz, rr_sr, rr_al, rr_ld, rr_st, rr_rl, rr_rs, rr_ni, rr_nr, rr_z, rr_div, rr_rem, rr_lc, rr_mx, rr_mn, rr_ab, rr_no, gd_t, bc_t, bc_f, gd_tt, bc_tt, bc_ff, or_true, true_or, and_true, true_and, Nat.reduceAdd, mo_b_s E0, mo_b_s E1, c2, mo_b_s e2, k20, k24, mo_b_s e3, mo_b_s e4, mo_b_s e5, mo_b_s e6, mo_b_s e7]
            · simp (disch := omega) only [X0_putTogether_L17, rr_p, rr_bp, rr_bb, rr_0, rr_lt, rr_blt, rr_le, rr_ble, rr_eq, rr_beq, rr_nl_n, rr_nl_s, rr_bnl_n, rr_bnl_s, rr_cond_t, rr_cond_f, rr_bcond_t, rr_bcond_f, rr_bon, rr_bcv, rr_cv, rr_g, rr_gr, rr_si, rr_sz, rr_sr, rr_al, rr_ld, rr_st, rr_rl, rr_rs, rr_ni, rr_nr, rr_z, rr_div, rr_rem, rr_lc, rr_mx, rr_mn, rr_ab, rr_no, gd_t, bc_t, bc_f, gd_tt, bc_tt, bc_ff, or_true, true_or, and_true, true_and, Nat.reduceAdd, mo_b_s E0, mo_b_s E1, c2, c3, mo_b_s e2, k20, k24, mo_b_s e3, mo_b_s e4, mo_b_s e5, mo_b_s e6, mo_b_s e7]
          · rw [show P.length + Q.length - (n + 1) = P.length + Q.length - n - 1 by omega]; exact hes.symm
      · refine ⟨(n : Int) + 1, h', ?_, ⟨n + 1, i, j, acc, by simp, by omega, ⟨c1, c2, c3⟩, hA, hf, hT, ?_⟩, by omega⟩
        · have hT2 := hT
          obtain ⟨ep, ⟨t1, t2, t3⟩, -⟩ := hT2
          simp (disch := omega) only [X0_putTogether_L17, rr_p, rr_bp, rr_bb, rr_0, rr_lt, rr_blt, rr_le, rr_ble, rr_eq, rr_beq, rr_nl_n, rr_nl_s, rr_bnl_n, rr_bnl_s, rr_cond_t, rr_cond_f, rr_bcond_t, rr_bcond_f, rr_bon, rr_bcv, rr_cv, rr_g, rr_gr, rr_si, rr_sz, rr_sr, rr_al, rr_ld, rr_st, rr_rl, rr_rs, rr_ni, rr_nr, rr_z, rr_div, rr_rem, rr_lc, rr_mx, rr_mn, rr_ab, rr_no, gd_t, bc_t, bc_f, gd_tt, bc_tt, bc_ff, or_true, true_or, and_true, true_and, Nat.reduceAdd, mo_b_s E0, mo_b_s E1, c2, c3]
        · rw [tg_e cl] at hE ⊢; exact hE
    · right
      have en : P.length + Q.length - n = 0 := by omega
      rw [en] at hE
      have hE : acc = tg P Q (P.length + Q.length) 0 0 [] := hE
      refine ⟨(), h', by simp (disch := omega) only [X0_putTogether_L17, rr_p, rr_bp, rr_bb, rr_0, rr_lt, rr_blt, rr_le, rr_ble, rr_eq, rr_beq, rr_nl_n, rr_nl_s, rr_bnl_n, rr_bnl_s, rr_cond_t, rr_cond_f, rr_bcond_t, rr_bcond_f, rr_bon, rr_bcv, rr_cv, rr_g, rr_gr, rr_si, rr_sz, rr_sr, rr_al, rr_ld, rr_st, rr_rl, rr_rs, rr_ni, rr_nr, rr_z, rr_div, rr_rem, rr_lc, rr_mx, rr_mn, rr_ab, rr_no, gd_t, bc_t, bc_f, gd_tt, bc_tt, bc_ff, or_true, true_or, and_true, true_and, Nat.reduceAdd, mo_b_s E0, mo_b_s E1], i, j, ?_, hf, ?_⟩
      · rw [← hE]; exact hA
      · rw [← hE]; exact hT
