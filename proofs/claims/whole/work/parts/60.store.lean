/-- the patch at work is kept as the next one -/
theorem q7_storeWork {h : AH} {m : Nat} {D : List Int} {V : List VR} {Q : List (List HK)} {d : Nat} {W : List HK} (hM : MI h m (D, V, Q, d)) (hW : mW h m W) (hl : Q.length < 12) (l1 : W.length ≤ 10) (l2 : (fG W).length ≤ 28) (l3 : (fC W).length ≤ 28) (hpb : ∀ p, p < Q.length → (pt Q p).length ≤ 10 ∧ (fG (pt Q p)).length ≤ 28 ∧ (fC (pt Q p)).length ≤ 28) : ∃ h', X7_storeWork m h = some ((Q.length : Int), h') ∧ MI h' m (D, V, Q ++ [W], d) ∧ MF m 7 13 8 9 h h' := by
  have hS := hM.1
  have mT := hS.1
  obtain ⟨⟨w1, w2, w3⟩, c1, c2, c3⟩ := id hW
  have f8 := hM.2.2.2.1.1
  dsimp only at f8
  -- how many hunks
  have F1 : MF m 7 8 9 9 h (ah_sI h (m + 7) (Q.length : Int) (W.length : Int)) := MF.sI (by omega) (by omega)
  have hW1 := mW_fr hW F1 (by omega)
  have hS1 := mS_fr hS F1
  -- the hunks
  have hL1 := lp_inv (F := X7_storeWork_L15 m) (fun k h' => 0 ≤ k ∧ k ≤ W.length ∧ MF m 8 11 9 9 (ah_sI h (m + 7) (Q.length : Int) (W.length : Int)) h' ∧ (∀ i : Nat, (i : Int) < k → ah_I h' (m + 8) (10 * (Q.length : Int) + (i : Int)) = (hk W i).1 ∧ ah_I h' (m + 9) (10 * (Q.length : Int) + (i : Int)) = ((hk W i).2.1.length : Int) ∧ ah_I h' (m + 10) (10 * (Q.length : Int) + (i : Int)) = ((hk W i).2.2.length : Int)) ∧ ∀ y : Int, y < 10 * (Q.length : Int) → ah_I h' (m + 8) y = ah_I h (m + 8) y ∧ ah_I h' (m + 9) y = ah_I h (m + 9) y ∧ ah_I h' (m + 10) y = ah_I h (m + 10) y) (fun k => ((W.length : Int) - k).toNat) (fun _ h' => MF m 8 11 9 9 (ah_sI h (m + 7) (Q.length : Int) (W.length : Int)) h' ∧ (∀ i : Nat, i < W.length → ah_I h' (m + 8) (10 * (Q.length : Int) + (i : Int)) = (hk W i).1 ∧ ah_I h' (m + 9) (10 * (Q.length : Int) + (i : Int)) = ((hk W i).2.1.length : Int) ∧ ah_I h' (m + 10) (10 * (Q.length : Int) + (i : Int)) = ((hk W i).2.2.length : Int)) ∧ ∀ y : Int, y < 10 * (Q.length : Int) → ah_I h' (m + 8) y = ah_I h (m + 8) y ∧ ah_I h' (m + 9) y = ah_I h (m + 9) y ∧ ah_I h' (m + 10) y = ah_I h (m + 10) y) ?_ mo_N 0 (ah_sI h (m + 7) (Q.length : Int) (W.length : Int)) ⟨by omega, by omega, MF.rf, fun i hi => by omega, fun y hy => ?_⟩ (by rw [mo_N_v]; omega)
  · obtain ⟨_, h2, e2, F2, v2, k2⟩ := hL1
    have hW2 := mW_fr hW1 F2 (by omega)
    have hS2 := mS_fr hS1 F2
    obtain ⟨⟨z1, z2, z3⟩, d1, d2, d3⟩ := id hW2
    have f82 : ah_F h2 m 8 = (Q.length : Int) := by rw [F2.2.2.2.2.2 8 (by omega)]; exact f8
    have mT2 := hS2.1
    obtain ⟨p11, t11, n11⟩ := ms11 hS2
    obtain ⟨p12, t12, n12⟩ := ms12 hS2
    obtain ⟨p16, t16, n16⟩ := ms16 hS2
    obtain ⟨p17, t17, n17⟩ := ms17 hS2
    have hL2 := lp_cp (F := X7_storeWork_L91 m) (h := h2) (a := m + 11) (n := (fG W).length) (28 * (Q.length : Int)) (fun k => ah_I h2 (m + 16) k) (by omega) (fun k g hk => by simp (disch := omega) only [X7_storeWork_L91, rr_p, rr_bp, rr_bb, rr_0, rr_lt, rr_blt, rr_le, rr_ble, rr_eq, rr_beq, rr_nl_n, rr_nl_s, rr_bnl_n, rr_bnl_s, rr_cond_t, rr_cond_f, rr_bcond_t, rr_bcond_f, rr_bon, rr_bcv, rr_cv, rr_g, rr_gr, rr_si, rr_sz, rr_sr, rr_al, rr_ld, rr_st, rr_rl, rr_rs, rr_ni, rr_nr, rr_z, rr_div, rr_rem, rr_lc, rr_mx, rr_mn, rr_ab, rr_no, gd_t, bc_t, bc_f, gd_tt, bc_tt, bc_ff, or_true, true_or, and_true, true_and, Nat.reduceAdd, hl_T_sF, hl_N_sF, hl_P_sF, hl_I_sF, hl_R_sF, hl_S_sF, hl_T_sP, hl_N_sP, hl_F_sP, hl_I_sP, hl_R_sP, hl_S_sP, hl_T_sI, hl_N_sI, hl_F_sI, hl_P_sI, hl_R_sI, hl_S_sI, hl_T_sR, hl_N_sR, hl_F_sR, hl_P_sR, hl_I_sR, hl_S_sR, hl_T_wI, hl_N_wI, hl_F_wI, hl_P_wI, hl_R_wI, hl_S_wI, hl_F_sF_s, hl_F_sF_n, hl_P_sP_s, hl_P_sP_n, hl_I_sI_s, hl_I_sI_n, hl_R_sR_s, hl_R_sR_n, hl_I_wI_s, hl_I_wI_n, z2, f82, p11, p16, hl_sI_wI]) (fun g => by simp (disch := omega) only [X7_storeWork_L91, rr_p, rr_bp, rr_bb, rr_0, rr_lt, rr_blt, rr_le, rr_ble, rr_eq, rr_beq, rr_nl_n, rr_nl_s, rr_bnl_n, rr_bnl_s, rr_cond_t, rr_cond_f, rr_bcond_t, rr_bcond_f, rr_bon, rr_bcv, rr_cv, rr_g, rr_gr, rr_si, rr_sz, rr_sr, rr_al, rr_ld, rr_st, rr_rl, rr_rs, rr_ni, rr_nr, rr_z, rr_div, rr_rem, rr_lc, rr_mx, rr_mn, rr_ab, rr_no, gd_t, bc_t, bc_f, gd_tt, bc_tt, bc_ff, or_true, true_or, and_true, true_and, Nat.reduceAdd, hl_T_sF, hl_N_sF, hl_P_sF, hl_I_sF, hl_R_sF, hl_S_sF, hl_T_sP, hl_N_sP, hl_F_sP, hl_I_sP, hl_R_sP, hl_S_sP, hl_T_sI, hl_N_sI, hl_F_sI, hl_P_sI, hl_R_sI, hl_S_sI, hl_T_sR, hl_N_sR, hl_F_sR, hl_P_sR, hl_I_sR, hl_S_sR, hl_T_wI, hl_N_wI, hl_F_wI, hl_P_wI, hl_R_wI, hl_S_wI, hl_F_sF_s, hl_F_sF_n, hl_P_sP_s, hl_P_sP_n, hl_I_sI_s, hl_I_sI_n, hl_R_sR_s, hl_R_sR_n, hl_I_wI_s, hl_I_wI_n, z2, f82, p11, p16])
    have hL3 := lp_cp (F := X7_storeWork_L127 m) (h := ah_wI h2 (m + 11) (fun y => if 28 * (Q.length : Int) ≤ y ∧ y < 28 * (Q.length : Int) + (fG W).length then ah_I h2 (m + 16) (y - 28 * (Q.length : Int)) else ah_I h2 (m + 11) y)) (a := m + 12) (n := (fC W).length) (28 * (Q.length : Int)) (fun k => ah_I h2 (m + 17) k) (by omega) (fun k g hk => by simp (disch := omega) only [X7_storeWork_L127, rr_p, rr_bp, rr_bb, rr_0, rr_lt, rr_blt, rr_le, rr_ble, rr_eq, rr_beq, rr_nl_n, rr_nl_s, rr_bnl_n, rr_bnl_s, rr_cond_t, rr_cond_f, rr_bcond_t, rr_bcond_f, rr_bon, rr_bcv, rr_cv, rr_g, rr_gr, rr_si, rr_sz, rr_sr, rr_al, rr_ld, rr_st, rr_rl, rr_rs, rr_ni, rr_nr, rr_z, rr_div, rr_rem, rr_lc, rr_mx, rr_mn, rr_ab, rr_no, gd_t, bc_t, bc_f, gd_tt, bc_tt, bc_ff, or_true, true_or, and_true, true_and, Nat.reduceAdd, hl_T_sF, hl_N_sF, hl_P_sF, hl_I_sF, hl_R_sF, hl_S_sF, hl_T_sP, hl_N_sP, hl_F_sP, hl_I_sP, hl_R_sP, hl_S_sP, hl_T_sI, hl_N_sI, hl_F_sI, hl_P_sI, hl_R_sI, hl_S_sI, hl_T_sR, hl_N_sR, hl_F_sR, hl_P_sR, hl_I_sR, hl_S_sR, hl_T_wI, hl_N_wI, hl_F_wI, hl_P_wI, hl_R_wI, hl_S_wI, hl_F_sF_s, hl_F_sF_n, hl_P_sP_s, hl_P_sP_n, hl_I_sI_s, hl_I_sI_n, hl_R_sR_s, hl_R_sR_n, hl_I_wI_s, hl_I_wI_n, z3, f82, p12, p17, hl_sI_wI]) (fun g => by simp (disch := omega) only [X7_storeWork_L127, rr_p, rr_bp, rr_bb, rr_0, rr_lt, rr_blt, rr_le, rr_ble, rr_eq, rr_beq, rr_nl_n, rr_nl_s, rr_bnl_n, rr_bnl_s, rr_cond_t, rr_cond_f, rr_bcond_t, rr_bcond_f, rr_bon, rr_bcv, rr_cv, rr_g, rr_gr, rr_si, rr_sz, rr_sr, rr_al, rr_ld, rr_st, rr_rl, rr_rs, rr_ni, rr_nr, rr_z, rr_div, rr_rem, rr_lc, rr_mx, rr_mn, rr_ab, rr_no, gd_t, bc_t, bc_f, gd_tt, bc_tt, bc_ff, or_true, true_or, and_true, true_and, Nat.reduceAdd, hl_T_sF, hl_N_sF, hl_P_sF, hl_I_sF, hl_R_sF, hl_S_sF, hl_T_sP, hl_N_sP, hl_F_sP, hl_I_sP, hl_R_sP, hl_S_sP, hl_T_sI, hl_N_sI, hl_F_sI, hl_P_sI, hl_R_sI, hl_S_sI, hl_T_sR, hl_N_sR, hl_F_sR, hl_P_sR, hl_I_sR, hl_S_sR, hl_T_wI, hl_N_wI, hl_F_wI, hl_P_wI, hl_R_wI, hl_S_wI, hl_F_sF_s, hl_F_sF_n, hl_P_sP_s, hl_P_sP_n, hl_I_sI_s, hl_I_sI_n, hl_R_sR_s, hl_R_sR_n, hl_I_wI_s, hl_I_wI_n, z3, f82, p12, p17])
    have e10 : (Q.length : Int) + 1 - 1 = (Q.length : Int) := by omega
    obtain ⟨q7, t7, n7⟩ := ms7 hS
    have F3 : MF m 7 13 8 9 h2 (ah_sF (ah_wI (ah_wI h2 (m + 11) (fun y => if 28 * (Q.length : Int) ≤ y ∧ y < 28 * (Q.length : Int) + (fG W).length then ah_I h2 (m + 16) (y - 28 * (Q.length : Int)) else ah_I h2 (m + 11) y)) (m + 12) (fun y => if 28 * (Q.length : Int) ≤ y ∧ y < 28 * (Q.length : Int) + (fC W).length then ah_I h2 (m + 17) (y - 28 * (Q.length : Int)) else ah_I h2 (m + 12) y)) m 8 ((Q.length : Int) + 1)) :=
      MF.tr (MF.tr (MF.wI (al := 7) (ah_ := 13) (fl := 8) (fh := 9) (by omega) (by omega)) (MF.wI (al := 7) (ah_ := 13) (fl := 8) (fh := 9) (by omega) (by omega)) (a3 := 7) (b3 := 13) (c3 := 8) (d3 := 9) (by omega)) (MF.sF (al := 7) (ah_ := 13) (fl := 8) (fh := 9) (by omega) (by omega)) (by omega)
    have FF := (F1.tr F2 (a3 := 7) (b3 := 13) (c3 := 8) (d3 := 9) (by omega)).tr F3 (a3 := 7) (b3 := 13) (c3 := 8) (d3 := 9) (by omega)
    refine ⟨_, ?_, ⟨mS_fr hS FF, mDesk_fr hM.2.1 FF (by omega), mVer_fr hM.2.2.1 FF (by omega), ⟨?_, ?_⟩, ?_⟩, FF⟩
    · have hI12 : ∀ (f : Int → Int), ah_I (ah_wI h2 (m + 11) f) (m + 12) = ah_I h2 (m + 12) := fun f => hl_I_wI_n (by omega)
      rw [hI12] at hL3
      simp (disch := omega) only [X7_storeWork, rr_p, rr_bp, rr_bb, rr_0, rr_lt, rr_blt, rr_le, rr_ble, rr_eq, rr_beq, rr_nl_n, rr_nl_s, rr_bnl_n, rr_bnl_s, rr_cond_t, rr_cond_f, rr_bcond_t, rr_bcond_f, rr_bon, rr_bcv, rr_cv, rr_g, rr_gr, rr_si, rr_sz, rr_sr, rr_al, rr_ld, rr_st, rr_rl, rr_rs, rr_ni, rr_nr, rr_z, rr_div, rr_rem, rr_lc, rr_mx, rr_mn, rr_ab, rr_no, gd_t, bc_t, bc_f, gd_tt, bc_tt, bc_ff, or_true, true_or, and_true, true_and, Nat.reduceAdd, hl_T_sF, hl_N_sF, hl_P_sF, hl_I_sF, hl_R_sF, hl_S_sF, hl_T_sP, hl_N_sP, hl_F_sP, hl_I_sP, hl_R_sP, hl_S_sP, hl_T_sI, hl_N_sI, hl_F_sI, hl_P_sI, hl_R_sI, hl_S_sI, hl_T_sR, hl_N_sR, hl_F_sR, hl_P_sR, hl_I_sR, hl_S_sR, hl_T_wI, hl_N_wI, hl_F_wI, hl_P_wI, hl_R_wI, hl_S_wI, hl_F_sF_s, hl_F_sF_n, hl_P_sP_s, hl_P_sP_n, hl_I_sI_s, hl_I_sI_n, hl_R_sR_s, hl_R_sR_n, hl_I_wI_s, hl_I_wI_n, q7, f8, w1, mo_b_s e2, mo_b_s hL2, mo_b_s hL3, f82, e10]
    · rw [hl_F_sF_s]; simp
    · intro p hp
      dsimp only at hp ⊢
      have hp : p < Q.length + 1 := by simpa using hp
      by_cases hpe : p = Q.length
      · subst hpe
        rw [pt_last]
        refine ⟨?_, fun i hi => ?_, fun j hj => ?_, fun j hj => ?_⟩
        · simp (disch := omega) only [hl_T_sF, hl_N_sF, hl_P_sF, hl_I_sF, hl_R_sF, hl_S_sF, hl_T_sP, hl_N_sP, hl_F_sP, hl_I_sP, hl_R_sP, hl_S_sP, hl_T_sI, hl_N_sI, hl_F_sI, hl_P_sI, hl_R_sI, hl_S_sI, hl_T_sR, hl_N_sR, hl_F_sR, hl_P_sR, hl_I_sR, hl_S_sR, hl_T_wI, hl_N_wI, hl_F_wI, hl_P_wI, hl_R_wI, hl_S_wI, hl_F_sF_s, hl_F_sF_n, hl_P_sP_s, hl_P_sP_n, hl_I_sI_s, hl_I_sI_n, hl_R_sR_s, hl_R_sR_n, hl_I_wI_s, hl_I_wI_n]
          rw [F2.2.2.2.2.1 7 (by omega), hl_I_sI_s]
        · simp (disch := omega) only [hl_T_sF, hl_N_sF, hl_P_sF, hl_I_sF, hl_R_sF, hl_S_sF, hl_T_sP, hl_N_sP, hl_F_sP, hl_I_sP, hl_R_sP, hl_S_sP, hl_T_sI, hl_N_sI, hl_F_sI, hl_P_sI, hl_R_sI, hl_S_sI, hl_T_sR, hl_N_sR, hl_F_sR, hl_P_sR, hl_I_sR, hl_S_sR, hl_T_wI, hl_N_wI, hl_F_wI, hl_P_wI, hl_R_wI, hl_S_wI, hl_F_sF_s, hl_F_sF_n, hl_P_sP_s, hl_P_sP_n, hl_I_sI_s, hl_I_sI_n, hl_R_sR_s, hl_R_sR_n, hl_I_wI_s, hl_I_wI_n]
          exact v2 i hi
        · simp (disch := omega) only [hl_T_sF, hl_N_sF, hl_P_sF, hl_I_sF, hl_R_sF, hl_S_sF, hl_T_sP, hl_N_sP, hl_F_sP, hl_I_sP, hl_R_sP, hl_S_sP, hl_T_sI, hl_N_sI, hl_F_sI, hl_P_sI, hl_R_sI, hl_S_sI, hl_T_sR, hl_N_sR, hl_F_sR, hl_P_sR, hl_I_sR, hl_S_sR, hl_T_wI, hl_N_wI, hl_F_wI, hl_P_wI, hl_R_wI, hl_S_wI, hl_F_sF_s, hl_F_sF_n, hl_P_sP_s, hl_P_sP_n, hl_I_sI_s, hl_I_sI_n, hl_R_sR_s, hl_R_sR_n, hl_I_wI_s, hl_I_wI_n]
          rw [if_pos (by omega), show 28 * (Q.length : Int) + (j : Int) - 28 * (Q.length : Int) = (j : Int) by omega]
          exact d2 j hj
        · simp (disch := omega) only [hl_T_sF, hl_N_sF, hl_P_sF, hl_I_sF, hl_R_sF, hl_S_sF, hl_T_sP, hl_N_sP, hl_F_sP, hl_I_sP, hl_R_sP, hl_S_sP, hl_T_sI, hl_N_sI, hl_F_sI, hl_P_sI, hl_R_sI, hl_S_sI, hl_T_sR, hl_N_sR, hl_F_sR, hl_P_sR, hl_I_sR, hl_S_sR, hl_T_wI, hl_N_wI, hl_F_wI, hl_P_wI, hl_R_wI, hl_S_wI, hl_F_sF_s, hl_F_sF_n, hl_P_sP_s, hl_P_sP_n, hl_I_sI_s, hl_I_sI_n, hl_R_sR_s, hl_R_sR_n, hl_I_wI_s, hl_I_wI_n]
          rw [if_pos (by omega), show 28 * (Q.length : Int) + (j : Int) - 28 * (Q.length : Int) = (j : Int) by omega]
          exact d3 j hj
      · rw [pt_app_l (by omega)]
        have hpl : p < Q.length := by omega
        obtain ⟨y1, y2, y3, y4⟩ := hM.2.2.2.1.2 p hpl
        dsimp only at y1 y2 y3 y4
        have hlp : (pt Q p).length ≤ 10 ∧ (fG (pt Q p)).length ≤ 28 ∧ (fC (pt Q p)).length ≤ 28 := hpb p hpl
        refine ⟨?_, fun i hi => ?_, fun j hj => ?_, fun j hj => ?_⟩
        · simp (disch := omega) only [hl_T_sF, hl_N_sF, hl_P_sF, hl_I_sF, hl_R_sF, hl_S_sF, hl_T_sP, hl_N_sP, hl_F_sP, hl_I_sP, hl_R_sP, hl_S_sP, hl_T_sI, hl_N_sI, hl_F_sI, hl_P_sI, hl_R_sI, hl_S_sI, hl_T_sR, hl_N_sR, hl_F_sR, hl_P_sR, hl_I_sR, hl_S_sR, hl_T_wI, hl_N_wI, hl_F_wI, hl_P_wI, hl_R_wI, hl_S_wI, hl_F_sF_s, hl_F_sF_n, hl_P_sP_s, hl_P_sP_n, hl_I_sI_s, hl_I_sI_n, hl_R_sR_s, hl_R_sR_n, hl_I_wI_s, hl_I_wI_n]
          rw [F2.2.2.2.2.1 7 (by omega), hl_I_sI_n (Or.inr (by omega))]; exact y1
        · simp (disch := omega) only [hl_T_sF, hl_N_sF, hl_P_sF, hl_I_sF, hl_R_sF, hl_S_sF, hl_T_sP, hl_N_sP, hl_F_sP, hl_I_sP, hl_R_sP, hl_S_sP, hl_T_sI, hl_N_sI, hl_F_sI, hl_P_sI, hl_R_sI, hl_S_sI, hl_T_sR, hl_N_sR, hl_F_sR, hl_P_sR, hl_I_sR, hl_S_sR, hl_T_wI, hl_N_wI, hl_F_wI, hl_P_wI, hl_R_wI, hl_S_wI, hl_F_sF_s, hl_F_sF_n, hl_P_sP_s, hl_P_sP_n, hl_I_sI_s, hl_I_sI_n, hl_R_sR_s, hl_R_sR_n, hl_I_wI_s, hl_I_wI_n]
          obtain ⟨a1, a2, a3⟩ := k2 (10 * (p : Int) + (i : Int)) (by omega)
          rw [a1, a2, a3]; exact y2 i hi
        · simp (disch := omega) only [hl_T_sF, hl_N_sF, hl_P_sF, hl_I_sF, hl_R_sF, hl_S_sF, hl_T_sP, hl_N_sP, hl_F_sP, hl_I_sP, hl_R_sP, hl_S_sP, hl_T_sI, hl_N_sI, hl_F_sI, hl_P_sI, hl_R_sI, hl_S_sI, hl_T_sR, hl_N_sR, hl_F_sR, hl_P_sR, hl_I_sR, hl_S_sR, hl_T_wI, hl_N_wI, hl_F_wI, hl_P_wI, hl_R_wI, hl_S_wI, hl_F_sF_s, hl_F_sF_n, hl_P_sP_s, hl_P_sP_n, hl_I_sI_s, hl_I_sI_n, hl_R_sR_s, hl_R_sR_n, hl_I_wI_s, hl_I_wI_n]
          rw [if_neg (by omega), F2.2.2.2.2.1 11 (by omega), hl_I_sI_n (Or.inl (by omega))]
          exact y3 j hj
        · simp (disch := omega) only [hl_T_sF, hl_N_sF, hl_P_sF, hl_I_sF, hl_R_sF, hl_S_sF, hl_T_sP, hl_N_sP, hl_F_sP, hl_I_sP, hl_R_sP, hl_S_sP, hl_T_sI, hl_N_sI, hl_F_sI, hl_P_sI, hl_R_sI, hl_S_sI, hl_T_sR, hl_N_sR, hl_F_sR, hl_P_sR, hl_I_sR, hl_S_sR, hl_T_wI, hl_N_wI, hl_F_wI, hl_P_wI, hl_R_wI, hl_S_wI, hl_F_sF_s, hl_F_sF_n, hl_P_sP_s, hl_P_sP_n, hl_I_sI_s, hl_I_sI_n, hl_R_sR_s, hl_R_sR_n, hl_I_wI_s, hl_I_wI_n]
          rw [if_neg (by omega), F2.2.2.2.2.1 12 (by omega), hl_I_sI_n (Or.inl (by omega))]
          exact y4 j hj
    · rw [FF.2.2.2.2.2 15 (by omega)]; exact hM.2.2.2.2
  · intro k h' ⟨k1, k2, kF, kv, ks⟩
    have hW' := mW_fr hW1 kF (by omega)
    have hS' := mS_fr hS1 kF
    obtain ⟨⟨z1, z2, z3⟩, d1, d2, d3⟩ := id hW'
    have f8' : ah_F h' m 8 = (Q.length : Int) := by rw [kF.2.2.2.2.2 8 (by omega)]; exact f8
    have mT' := hS'.1
    obtain ⟨p8, t8, n8⟩ := ms8 hS'
    obtain ⟨p9, t9, n9⟩ := ms9 hS'
    obtain ⟨p10, t10, n10⟩ := ms10 hS'
    obtain ⟨p13, t13, n13⟩ := ms13 hS'
    obtain ⟨p14, t14, n14⟩ := ms14 hS'
    obtain ⟨p15, t15, n15⟩ := ms15 hS'
    by_cases hkk : k < W.length
    · left
      obtain ⟨i0, ei⟩ : ∃ i0 : Nat, k = (i0 : Int) := ⟨k.toNat, by omega⟩
      subst ei
      obtain ⟨a1, a2, a3⟩ := d1 i0 (by omega)
      refine ⟨(i0 : Int) + 1, ah_sI (ah_sI (ah_sI h' (m + 8) (10 * (Q.length : Int) + (i0 : Int)) (hk W i0).1) (m + 9) (10 * (Q.length : Int) + (i0 : Int)) ((hk W i0).2.1.length : Int)) (m + 10) (10 * (Q.length : Int) + (i0 : Int)) ((hk W i0).2.2.length : Int), by simp (disch := omega) only [X7_storeWork_L15, rr_p, rr_bp, rr_bb, rr_0, rr_lt, rr_blt, rr_le, rr_ble, rr_eq, rr_beq, rr_nl_n, rr_nl_s, rr_bnl_n, rr_bnl_s, rr_cond_t, rr_cond_f, rr_bcond_t, rr_bcond_f, rr_bon, rr_bcv, rr_cv, rr_g, rr_gr, rr_si, rr_sz, rr_sr, rr_al, rr_ld, rr_st, rr_rl, rr_rs, rr_ni, rr_nr, rr_z, rr_div, rr_rem, rr_lc, rr_mx, rr_mn, rr_ab, rr_no, gd_t, bc_t, bc_f, gd_tt, bc_tt, bc_ff, or_true, true_or, and_true, true_and, Nat.reduceAdd, hl_T_sF, hl_N_sF, hl_P_sF, hl_I_sF, hl_R_sF, hl_S_sF, hl_T_sP, hl_N_sP, hl_F_sP, hl_I_sP, hl_R_sP, hl_S_sP, hl_T_sI, hl_N_sI, hl_F_sI, hl_P_sI, hl_R_sI, hl_S_sI, hl_T_sR, hl_N_sR, hl_F_sR, hl_P_sR, hl_I_sR, hl_S_sR, hl_T_wI, hl_N_wI, hl_F_wI, hl_P_wI, hl_R_wI, hl_S_wI, hl_F_sF_s, hl_F_sF_n, hl_P_sP_s, hl_P_sP_n, hl_I_sI_s, hl_I_sI_n, hl_R_sR_s, hl_R_sR_n, hl_I_wI_s, hl_I_wI_n, z1, f8', p8, p9, p10, p13, p14, p15, a1, a2, a3], ⟨by omega, by omega, ?_, ?_, ?_⟩, by omega⟩
      · exact MF.tr (MF.tr (MF.tr kF (MF.sI (al := 8) (ah_ := 11) (fl := 9) (fh := 9) (by omega) (by omega)) (a3 := 8) (b3 := 11) (c3 := 9) (d3 := 9) (by omega)) (MF.sI (al := 8) (ah_ := 11) (fl := 9) (fh := 9) (by omega) (by omega)) (a3 := 8) (b3 := 11) (c3 := 9) (d3 := 9) (by omega)) (MF.sI (al := 8) (ah_ := 11) (fl := 9) (fh := 9) (by omega) (by omega)) (by omega)
      · intro i hi
        by_cases hii : i = i0
        · subst hii
          refine ⟨?_, ?_, ?_⟩
          · simp (disch := omega) only [hl_T_sF, hl_N_sF, hl_P_sF, hl_I_sF, hl_R_sF, hl_S_sF, hl_T_sP, hl_N_sP, hl_F_sP, hl_I_sP, hl_R_sP, hl_S_sP, hl_T_sI, hl_N_sI, hl_F_sI, hl_P_sI, hl_R_sI, hl_S_sI, hl_T_sR, hl_N_sR, hl_F_sR, hl_P_sR, hl_I_sR, hl_S_sR, hl_T_wI, hl_N_wI, hl_F_wI, hl_P_wI, hl_R_wI, hl_S_wI, hl_F_sF_s, hl_F_sF_n, hl_P_sP_s, hl_P_sP_n, hl_I_sI_s, hl_I_sI_n, hl_R_sR_s, hl_R_sR_n, hl_I_wI_s, hl_I_wI_n]
          · simp (disch := omega) only [hl_T_sF, hl_N_sF, hl_P_sF, hl_I_sF, hl_R_sF, hl_S_sF, hl_T_sP, hl_N_sP, hl_F_sP, hl_I_sP, hl_R_sP, hl_S_sP, hl_T_sI, hl_N_sI, hl_F_sI, hl_P_sI, hl_R_sI, hl_S_sI, hl_T_sR, hl_N_sR, hl_F_sR, hl_P_sR, hl_I_sR, hl_S_sR, hl_T_wI, hl_N_wI, hl_F_wI, hl_P_wI, hl_R_wI, hl_S_wI, hl_F_sF_s, hl_F_sF_n, hl_P_sP_s, hl_P_sP_n, hl_I_sI_s, hl_I_sI_n, hl_R_sR_s, hl_R_sR_n, hl_I_wI_s, hl_I_wI_n]
          · simp (disch := omega) only [hl_T_sF, hl_N_sF, hl_P_sF, hl_I_sF, hl_R_sF, hl_S_sF, hl_T_sP, hl_N_sP, hl_F_sP, hl_I_sP, hl_R_sP, hl_S_sP, hl_T_sI, hl_N_sI, hl_F_sI, hl_P_sI, hl_R_sI, hl_S_sI, hl_T_sR, hl_N_sR, hl_F_sR, hl_P_sR, hl_I_sR, hl_S_sR, hl_T_wI, hl_N_wI, hl_F_wI, hl_P_wI, hl_R_wI, hl_S_wI, hl_F_sF_s, hl_F_sF_n, hl_P_sP_s, hl_P_sP_n, hl_I_sI_s, hl_I_sI_n, hl_R_sR_s, hl_R_sR_n, hl_I_wI_s, hl_I_wI_n]
        · obtain ⟨b1, b2, b3⟩ := kv i (by omega)
          refine ⟨?_, ?_, ?_⟩
          · simp (disch := omega) only [hl_T_sF, hl_N_sF, hl_P_sF, hl_I_sF, hl_R_sF, hl_S_sF, hl_T_sP, hl_N_sP, hl_F_sP, hl_I_sP, hl_R_sP, hl_S_sP, hl_T_sI, hl_N_sI, hl_F_sI, hl_P_sI, hl_R_sI, hl_S_sI, hl_T_sR, hl_N_sR, hl_F_sR, hl_P_sR, hl_I_sR, hl_S_sR, hl_T_wI, hl_N_wI, hl_F_wI, hl_P_wI, hl_R_wI, hl_S_wI, hl_F_sF_s, hl_F_sF_n, hl_P_sP_s, hl_P_sP_n, hl_I_sI_s, hl_I_sI_n, hl_R_sR_s, hl_R_sR_n, hl_I_wI_s, hl_I_wI_n]; exact b1
          · simp (disch := omega) only [hl_T_sF, hl_N_sF, hl_P_sF, hl_I_sF, hl_R_sF, hl_S_sF, hl_T_sP, hl_N_sP, hl_F_sP, hl_I_sP, hl_R_sP, hl_S_sP, hl_T_sI, hl_N_sI, hl_F_sI, hl_P_sI, hl_R_sI, hl_S_sI, hl_T_sR, hl_N_sR, hl_F_sR, hl_P_sR, hl_I_sR, hl_S_sR, hl_T_wI, hl_N_wI, hl_F_wI, hl_P_wI, hl_R_wI, hl_S_wI, hl_F_sF_s, hl_F_sF_n, hl_P_sP_s, hl_P_sP_n, hl_I_sI_s, hl_I_sI_n, hl_R_sR_s, hl_R_sR_n, hl_I_wI_s, hl_I_wI_n]; exact b2
          · simp (disch := omega) only [hl_T_sF, hl_N_sF, hl_P_sF, hl_I_sF, hl_R_sF, hl_S_sF, hl_T_sP, hl_N_sP, hl_F_sP, hl_I_sP, hl_R_sP, hl_S_sP, hl_T_sI, hl_N_sI, hl_F_sI, hl_P_sI, hl_R_sI, hl_S_sI, hl_T_sR, hl_N_sR, hl_F_sR, hl_P_sR, hl_I_sR, hl_S_sR, hl_T_wI, hl_N_wI, hl_F_wI, hl_P_wI, hl_R_wI, hl_S_wI, hl_F_sF_s, hl_F_sF_n, hl_P_sP_s, hl_P_sP_n, hl_I_sI_s, hl_I_sI_n, hl_R_sR_s, hl_R_sR_n, hl_I_wI_s, hl_I_wI_n]; exact b3
      · intro y hy
        obtain ⟨b1, b2, b3⟩ := ks y hy
        refine ⟨?_, ?_, ?_⟩
        · simp (disch := omega) only [hl_T_sF, hl_N_sF, hl_P_sF, hl_I_sF, hl_R_sF, hl_S_sF, hl_T_sP, hl_N_sP, hl_F_sP, hl_I_sP, hl_R_sP, hl_S_sP, hl_T_sI, hl_N_sI, hl_F_sI, hl_P_sI, hl_R_sI, hl_S_sI, hl_T_sR, hl_N_sR, hl_F_sR, hl_P_sR, hl_I_sR, hl_S_sR, hl_T_wI, hl_N_wI, hl_F_wI, hl_P_wI, hl_R_wI, hl_S_wI, hl_F_sF_s, hl_F_sF_n, hl_P_sP_s, hl_P_sP_n, hl_I_sI_s, hl_I_sI_n, hl_R_sR_s, hl_R_sR_n, hl_I_wI_s, hl_I_wI_n]; exact b1
        · simp (disch := omega) only [hl_T_sF, hl_N_sF, hl_P_sF, hl_I_sF, hl_R_sF, hl_S_sF, hl_T_sP, hl_N_sP, hl_F_sP, hl_I_sP, hl_R_sP, hl_S_sP, hl_T_sI, hl_N_sI, hl_F_sI, hl_P_sI, hl_R_sI, hl_S_sI, hl_T_sR, hl_N_sR, hl_F_sR, hl_P_sR, hl_I_sR, hl_S_sR, hl_T_wI, hl_N_wI, hl_F_wI, hl_P_wI, hl_R_wI, hl_S_wI, hl_F_sF_s, hl_F_sF_n, hl_P_sP_s, hl_P_sP_n, hl_I_sI_s, hl_I_sI_n, hl_R_sR_s, hl_R_sR_n, hl_I_wI_s, hl_I_wI_n]; exact b2
        · simp (disch := omega) only [hl_T_sF, hl_N_sF, hl_P_sF, hl_I_sF, hl_R_sF, hl_S_sF, hl_T_sP, hl_N_sP, hl_F_sP, hl_I_sP, hl_R_sP, hl_S_sP, hl_T_sI, hl_N_sI, hl_F_sI, hl_P_sI, hl_R_sI, hl_S_sI, hl_T_sR, hl_N_sR, hl_F_sR, hl_P_sR, hl_I_sR, hl_S_sR, hl_T_wI, hl_N_wI, hl_F_wI, hl_P_wI, hl_R_wI, hl_S_wI, hl_F_sF_s, hl_F_sF_n, hl_P_sP_s, hl_P_sP_n, hl_I_sI_s, hl_I_sI_n, hl_R_sR_s, hl_R_sR_n, hl_I_wI_s, hl_I_wI_n]; exact b3
    · right
      have hke : k = (W.length : Int) := by omega
      subst hke
      exact ⟨(), h', by simp (disch := omega) only [X7_storeWork_L15, rr_p, rr_bp, rr_bb, rr_0, rr_lt, rr_blt, rr_le, rr_ble, rr_eq, rr_beq, rr_nl_n, rr_nl_s, rr_bnl_n, rr_bnl_s, rr_cond_t, rr_cond_f, rr_bcond_t, rr_bcond_f, rr_bon, rr_bcv, rr_cv, rr_g, rr_gr, rr_si, rr_sz, rr_sr, rr_al, rr_ld, rr_st, rr_rl, rr_rs, rr_ni, rr_nr, rr_z, rr_div, rr_rem, rr_lc, rr_mx, rr_mn, rr_ab, rr_no, gd_t, bc_t, bc_f, gd_tt, bc_tt, bc_ff, or_true, true_or, and_true, true_and, Nat.reduceAdd, z1], kF, fun i hi => kv i (by omega), ks⟩
  · refine ⟨?_, ?_, ?_⟩
    · simp (disch := omega) only [hl_T_sF, hl_N_sF, hl_P_sF, hl_I_sF, hl_R_sF, hl_S_sF, hl_T_sP, hl_N_sP, hl_F_sP, hl_I_sP, hl_R_sP, hl_S_sP, hl_T_sI, hl_N_sI, hl_F_sI, hl_P_sI, hl_R_sI, hl_S_sI, hl_T_sR, hl_N_sR, hl_F_sR, hl_P_sR, hl_I_sR, hl_S_sR, hl_T_wI, hl_N_wI, hl_F_wI, hl_P_wI, hl_R_wI, hl_S_wI, hl_F_sF_s, hl_F_sF_n, hl_P_sP_s, hl_P_sP_n, hl_I_sI_s, hl_I_sI_n, hl_R_sR_s, hl_R_sR_n, hl_I_wI_s, hl_I_wI_n]
    · simp (disch := omega) only [hl_T_sF, hl_N_sF, hl_P_sF, hl_I_sF, hl_R_sF, hl_S_sF, hl_T_sP, hl_N_sP, hl_F_sP, hl_I_sP, hl_R_sP, hl_S_sP, hl_T_sI, hl_N_sI, hl_F_sI, hl_P_sI, hl_R_sI, hl_S_sI, hl_T_sR, hl_N_sR, hl_F_sR, hl_P_sR, hl_I_sR, hl_S_sR, hl_T_wI, hl_N_wI, hl_F_wI, hl_P_wI, hl_R_wI, hl_S_wI, hl_F_sF_s, hl_F_sF_n, hl_P_sP_s, hl_P_sP_n, hl_I_sI_s, hl_I_sI_n, hl_R_sR_s, hl_R_sR_n, hl_I_wI_s, hl_I_wI_n]
    · simp (disch := omega) only [hl_T_sF, hl_N_sF, hl_P_sF, hl_I_sF, hl_R_sF, hl_S_sF, hl_T_sP, hl_N_sP, hl_F_sP, hl_I_sP, hl_R_sP, hl_S_sP, hl_T_sI, hl_N_sI, hl_F_sI, hl_P_sI, hl_R_sI, hl_S_sI, hl_T_sR, hl_N_sR, hl_F_sR, hl_P_sR, hl_I_sR, hl_S_sR, hl_T_wI, hl_N_wI, hl_F_wI, hl_P_wI, hl_R_wI, hl_S_wI, hl_F_sF_s, hl_F_sF_n, hl_P_sP_s, hl_P_sP_n, hl_I_sI_s, hl_I_sI_n, hl_R_sR_s, hl_R_sR_n, hl_I_wI_s, hl_I_wI_n]
