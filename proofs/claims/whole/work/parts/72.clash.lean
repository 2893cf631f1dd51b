theorem k_both {h : AH} {x : Nat} {s : SG} (ho : OKS s) (hK : KI h x s) {b u v : Int} (hb : am_r b) (hu : am_r u) (hv : am_r v) (cb : 0 ≤ b ∧ b < s.2.1.length) (cu : 0 ≤ u ∧ u < s.2.1.length) (cv : 0 ≤ v ∧ v < s.2.1.length) : ∃ h', X6_writeBothDifferences x b u v h = some (1, h') ∧ KI h' x s ∧ kP h' (x + 11) 10 14 (dW (vn s.2.1 b.toNat).1 (vn s.2.1 u.toNat).1) ∧ kP h' (x + 17) 10 14 (dW (vn s.2.1 b.toNat).1 (vn s.2.1 v.toNat).1) ∧ FRM h h' (x + 8) (x + 23) := by
  have oV1 := ho.2.1.1
  obtain ⟨hR, nD, hSc, A, B, hB⟩ := id hK
  obtain ⟨⟨o1, ⟨p0, p1, p2, p4, p6, p7, p8, p9, p10, p11, p12⟩, o3, o4, o5, o6, o7, o8, o9⟩, ⟨f3, f5, f13⟩, hA, hQ, hM, hX⟩ := id hB
  have e0 := q6_versionOrNull hB oV1 hb
  rw [if_pos cb] at e0
  have e1 := q6_versionOrNull hB oV1 hu
  rw [if_pos cu] at e1
  have e2 := q6_versionOrNull hB oV1 hv
  rw [if_pos cv] at e2
  obtain ⟨W1, hW1⟩ := hSc.2.2.2.1
  obtain ⟨h1, h2, e3, r3, g1, g2⟩ := k_diff ho hB hSc (u := b.toNat) (v := u.toNat) (by omega) (by omega) hW1 (by omega)
  have hSc1 := KSc_di hSc g1
  have hK1 := KI_scr hK g1 (by omega) hSc1
  have hSc2 := KSc_p1 hSc1 g2 r3
  have hK2 := KI_scr hK1 g2 (by omega) hSc2
  have hB2 := KB_fr (KB_fr hB g1 (by omega)) g2 (by omega)
  obtain ⟨W2, hW2⟩ := hSc2.2.2.2.2.1
  obtain ⟨h3, h4, e4, r4, g3, g4⟩ := k_diff ho hB2 hSc2 (u := b.toNat) (v := v.toNat) (by omega) (by omega) hW2 (by omega)
  have hSc3 := KSc_di hSc2 g3
  have hK3 := KI_scr hK2 g3 (by omega) hSc3
  have hSc4 := KSc_p2 hSc3 g4 r4
  have hK4 := KI_scr hK3 g4 (by omega) hSc4
  have r34 := kP_fr (kP_fr r3 g3 (by omega)) g4 (by omega)
  have tx2 := hB2.1.1
  have px2 := hB2.1.2.1.2.2.2.2.2.2.2.1
  have tx4 : ah_T h4 x = 16 := by rw [g4.1, g3.1]; exact tx2
  refine ⟨h4, by simp (disch := omega) only [X6_writeBothDifferences, rr_p, rr_bp, rr_bb, rr_0, rr_lt, rr_blt, rr_le, rr_ble, rr_eq, rr_beq, rr_nl_n, rr_nl_s, rr_bnl_n, rr_bnl_s, rr_cond_t, rr_cond_f, rr_bcond_t, rr_bcond_f, rr_bon, rr_bcv, rr_cv, rr_g, rr_gr, rr_si, rr_sz, rr_sr, rr_al, rr_ld, rr_st, rr_rl, rr_rs, rr_ni, rr_nr, rr_z, rr_div, rr_rem, rr_lc, rr_mx, rr_mn, rr_ab, rr_no, gd_t, bc_t, bc_f, gd_tt, bc_tt, bc_ff, or_true, true_or, and_true, true_and, Nat.reduceAdd, mo_b_s e0, mo_b_s e1, mo_b_s e2, p8, mo_b_s e3, px2, mo_b_s e4], hK4, r34, r4, ?_⟩
  exact (g1.tr g2 (lo3 := x + 8) (hi3 := x + 23) (by omega) (by omega) (by omega) (by omega)).tr (g3.tr g4 (lo3 := x + 8) (hi3 := x + 23) (by omega) (by omega) (by omega) (by omega)) (by omega) (by omega) (by omega) (by omega)
theorem k_both_n {h : AH} {x : Nat} {s : SG} (ho : OKS s) (hK : KI h x s) {b u v : Int} (hb : am_r b) (hu : am_r u) (hv : am_r v) (hn : ¬ ((0 ≤ b ∧ b < s.2.1.length) ∧ (0 ≤ u ∧ u < s.2.1.length) ∧ (0 ≤ v ∧ v < s.2.1.length))) : X6_writeBothDifferences x b u v h = some (0, h) := by
  have oV1 := ho.2.1.1
  obtain ⟨hR, nD, hSc, A, B, hB⟩ := id hK
  obtain ⟨⟨o1, ⟨p0, p1, p2, p4, p6, p7, p8, p9, p10, p11, p12⟩, o3, o4, o5, o6, o7, o8, o9⟩, ⟨f3, f5, f13⟩, hA, hQ, hM, hX⟩ := id hB
  have e0 := q6_versionOrNull hB oV1 hb
  have e1 := q6_versionOrNull hB oV1 hu
  have e2 := q6_versionOrNull hB oV1 hv
  by_cases cb : 0 ≤ b ∧ b < s.2.1.length
  · rw [if_pos cb] at e0
    by_cases cu : 0 ≤ u ∧ u < s.2.1.length
    · rw [if_pos cu] at e1
      rw [if_neg (fun cv => hn ⟨cb, cu, cv⟩)] at e2
      simp (disch := omega) only [X6_writeBothDifferences, rr_p, rr_bp, rr_bb, rr_0, rr_lt, rr_blt, rr_le, rr_ble, rr_eq, rr_beq, rr_nl_n, rr_nl_s, rr_bnl_n, rr_bnl_s, rr_cond_t, rr_cond_f, rr_bcond_t, rr_bcond_f, rr_bon, rr_bcv, rr_cv, rr_g, rr_gr, rr_si, rr_sz, rr_sr, rr_al, rr_ld, rr_st, rr_rl, rr_rs, rr_ni, rr_nr, rr_z, rr_div, rr_rem, rr_lc, rr_mx, rr_mn, rr_ab, rr_no, gd_t, bc_t, bc_f, gd_tt, bc_tt, bc_ff, or_true, true_or, and_true, true_and, Nat.reduceAdd, mo_b_s e0, mo_b_s e1, mo_b_s e2]
    · rw [if_neg cu] at e1
      simp (disch := omega) only [X6_writeBothDifferences, rr_p, rr_bp, rr_bb, rr_0, rr_lt, rr_blt, rr_le, rr_ble, rr_eq, rr_beq, rr_nl_n, rr_nl_s, rr_bnl_n, rr_bnl_s, rr_cond_t, rr_cond_f, rr_bcond_t, rr_bcond_f, rr_bon, rr_bcv, rr_cv, rr_g, rr_gr, rr_si, rr_sz, rr_sr, rr_al, rr_ld, rr_st, rr_rl, rr_rs, rr_ni, rr_nr, rr_z, rr_div, rr_rem, rr_lc, rr_mx, rr_mn, rr_ab, rr_no, gd_t, bc_t, bc_f, gd_tt, bc_tt, bc_ff, or_true, true_or, and_true, true_and, Nat.reduceAdd, mo_b_s e0, mo_b_s e1, mo_b_s e2]
  · rw [if_neg cb] at e0
    simp (disch := omega) only [X6_writeBothDifferences, rr_p, rr_bp, rr_bb, rr_0, rr_lt, rr_blt, rr_le, rr_ble, rr_eq, rr_beq, rr_nl_n, rr_nl_s, rr_bnl_n, rr_bnl_s, rr_cond_t, rr_cond_f, rr_bcond_t, rr_bcond_f, rr_bon, rr_bcv, rr_cv, rr_g, rr_gr, rr_si, rr_sz, rr_sr, rr_al, rr_ld, rr_st, rr_rl, rr_rs, rr_ni, rr_nr, rr_z, rr_div, rr_rem, rr_lc, rr_mx, rr_mn, rr_ab, rr_no, gd_t, bc_t, bc_f, gd_tt, bc_tt, bc_ff, or_true, true_or, and_true, true_and, Nat.reduceAdd, mo_b_s e0, mo_b_s e1, mo_b_s e2]
theorem q6_clashes {h : AH} {x : Nat} {P Q : List HK} (tx : ah_T h x = 16) (p8 : ah_P h x 8 = some (x + 11)) (p9 : ah_P h x 9 = some (x + 17)) (hP : kP h (x + 11) 10 14 P) (hQ : kP h (x + 17) 10 14 Q) (vP : pV P) (vQ : pV Q) (sQ : sW Q) : X6_clashes x h = some ((clN P Q P.length : Int), h) := by
  have t0 := hP.1.1.1
  have t1 := hQ.1.1.1
  have hl := hP.2.2.1
  have hg := hP.2.2.2.1
  have e0 := q3_hunks hP
  have hs := lp_seq (F := X6_clashes_L4 x) (fun j : Nat => ((clN P Q j : Int), (j : Int))) (fun _ => h) P.length (b := (clN P Q P.length : Int)) (hE := h) ?_ ?_ mo_N (by rw [mo_N_v]; omega)
  · have hs : mo_lp mo_N (X6_clashes_L4 x) (0, 0) h = _ := hs
    simp (disch := omega) only [X6_clashes, rr_p, rr_bp, rr_bb, rr_0, rr_lt, rr_blt, rr_le, rr_ble, rr_eq, rr_beq, rr_nl_n, rr_nl_s, rr_bnl_n, rr_bnl_s, rr_cond_t, rr_cond_f, rr_bcond_t, rr_bcond_f, rr_bon, rr_bcv, rr_cv, rr_g, rr_gr, rr_si, rr_sz, rr_sr, rr_al, rr_ld, rr_st, rr_rl, rr_rs, rr_ni, rr_nr, rr_z, rr_div, rr_rem, rr_lc, rr_mx, rr_mn, rr_ab, rr_no, gd_t, bc_t, bc_f, gd_tt, bc_tt, bc_ff, or_true, true_or, and_true, true_and, Nat.reduceAdd, mo_b_s hs]
  · intro j hj
    have e1 := q3_begins hP (i := (j : Int)) (by omega) (by omega)
    have e2 := q3_ends hP (i := (j : Int)) (by omega) (by omega)
    rw [Int.toNat_natCast] at e1 e2
    have r1 := (vP j).1
    have g1 := @hgs_s P j hj
    have g2 := @hgs_le P (j + 1)
    have e3 := q3_touches hQ vQ (f := (hk P j).1) (t := (hk P j).1 + (hk P j).2.1.length) (by omega) (by omega)
    have e4 := q3_hasAlike hQ vQ hP vP (j := (j : Int)) (by omega) (by omega)
    rw [Int.toNat_natCast] at e4
    have hc := @clk_K P Q j sQ
    rw [clN_c]
    by_cases c1 : tch Q (hk P j).1 ((hk P j).1 + (hk P j).2.1.length)
    · rw [bc_t c1] at e3
      by_cases c2 : ∃ i : Nat, i < Q.length ∧ hk Q i = hk P j
      · rw [bc_t c2] at e4
        rw [bc_f (fun z => (hc.mp z).2 c2)]
        simp (disch := omega) only [X6_clashes_L4, rr_p, rr_bp, rr_bb, rr_0, rr_lt, rr_blt, rr_le, rr_ble, rr_eq, rr_beq, rr_nl_n, rr_nl_s, rr_bnl_n, rr_bnl_s, rr_cond_t, rr_cond_f, rr_bcond_t, rr_bcond_f, rr_bon, rr_bcv, rr_cv, rr_g, rr_gr, rr_si, rr_sz, rr_sr, rr_al, rr_ld, rr_st, rr_rl, rr_rs, rr_ni, rr_nr, rr_z, rr_div, rr_rem, rr_lc, rr_mx, rr_mn, rr_ab, rr_no, gd_t, bc_t, bc_f, gd_tt, bc_tt, bc_ff, or_true, true_or, and_true, true_and, Nat.reduceAdd, p8, p9, mo_b_s e0, mo_b_s e1, mo_b_s e2, mo_b_s e3, mo_b_s e4, Int.natCast_add, Int.natCast_one, Int.add_zero]
      · rw [bc_f c2] at e4
        rw [bc_t (hc.mpr ⟨c1, c2⟩)]
        simp (disch := omega) only [X6_clashes_L4, rr_p, rr_bp, rr_bb, rr_0, rr_lt, rr_blt, rr_le, rr_ble, rr_eq, rr_beq, rr_nl_n, rr_nl_s, rr_bnl_n, rr_bnl_s, rr_cond_t, rr_cond_f, rr_bcond_t, rr_bcond_f, rr_bon, rr_bcv, rr_cv, rr_g, rr_gr, rr_si, rr_sz, rr_sr, rr_al, rr_ld, rr_st, rr_rl, rr_rs, rr_ni, rr_nr, rr_z, rr_div, rr_rem, rr_lc, rr_mx, rr_mn, rr_ab, rr_no, gd_t, bc_t, bc_f, gd_tt, bc_tt, bc_ff, or_true, true_or, and_true, true_and, Nat.reduceAdd, p8, p9, mo_b_s e0, mo_b_s e1, mo_b_s e2, mo_b_s e3, mo_b_s e4, Int.natCast_add, Int.natCast_one]
    · rw [bc_f c1] at e3
      rw [bc_f (fun z => c1 (hc.mp z).1)]
      simp (disch := omega) only [X6_clashes_L4, rr_p, rr_bp, rr_bb, rr_0, rr_lt, rr_blt, rr_le, rr_ble, rr_eq, rr_beq, rr_nl_n, rr_nl_s, rr_bnl_n, rr_bnl_s, rr_cond_t, rr_cond_f, rr_bcond_t, rr_bcond_f, rr_bon, rr_bcv, rr_cv, rr_g, rr_gr, rr_si, rr_sz, rr_sr, rr_al, rr_ld, rr_st, rr_rl, rr_rs, rr_ni, rr_nr, rr_z, rr_div, rr_rem, rr_lc, rr_mx, rr_mn, rr_ab, rr_no, gd_t, bc_t, bc_f, gd_tt, bc_tt, bc_ff, or_true, true_or, and_true, true_and, Nat.reduceAdd, p8, p9, mo_b_s e0, mo_b_s e1, mo_b_s e2, mo_b_s e3, Int.natCast_add, Int.natCast_one, Int.add_zero]
  · simp (disch := omega) only [X6_clashes_L4, rr_p, rr_bp, rr_bb, rr_0, rr_lt, rr_blt, rr_le, rr_ble, rr_eq, rr_beq, rr_nl_n, rr_nl_s, rr_bnl_n, rr_bnl_s, rr_cond_t, rr_cond_f, rr_bcond_t, rr_bcond_f, rr_bon, rr_bcv, rr_cv, rr_g, rr_gr, rr_si, rr_sz, rr_sr, rr_al, rr_ld, rr_st, rr_rl, rr_rs, rr_ni, rr_nr, rr_z, rr_div, rr_rem, rr_lc, rr_mx, rr_mn, rr_ab, rr_no, gd_t, bc_t, bc_f, gd_tt, bc_tt, bc_ff, or_true, true_or, and_true, true_and, Nat.reduceAdd, p8, mo_b_s e0]
/-- the model's second place for hunks -/
def xM (h : AH) (m : Nat) (W : List HK) : Prop := ah_F h m 33 = (W.length : Int) ∧ (∀ i : Nat, i < W.length → ah_I h (m + 21) (i : Int) = (hk W i).1 ∧ ah_I h (m + 22) (i : Int) = ((hk W i).2.1.length : Int) ∧ ah_I h (m + 23) (i : Int) = ((hk W i).2.2.length : Int)) ∧ ∀ j : Nat, j < (fC W).length → ah_I h (m + 24) (j : Int) = (fC W).getD j 0
theorem xM_fr {m al ah_ fl fh : Nat} {h h' : AH} {W : List HK} (hW : xM h m W) (f : MF m al ah_ fl fh h h') (q : (25 ≤ al ∨ ah_ ≤ 21) ∧ (34 ≤ fl ∨ fh ≤ 33)) : xM h' m W := by
  unfold xM at hW ⊢
  rw [f.2.2.2.2.2 33 (by omega), f.2.2.2.2.1 21 (by omega), f.2.2.2.2.1 22 (by omega), f.2.2.2.2.1 23 (by omega), f.2.2.2.2.1 24 (by omega)]; exact hW
theorem q7_layX {h : AH} {m : Nat} {u v : Int} {xs ys : List Int} (hR : mRows h m u v xs ys) (hx : wL xs) (hy : wL ys) (lx : xs.length ≤ 14) (ly : ys.length ≤ 14) : ∃ h', X7_layX m u v h = some ((), h') ∧ xM h' m (dW xs ys) ∧ MF m 13 25 16 34 h h' := by
  obtain ⟨h1, e1, w1, -, -, f1⟩ := q7_layDifference hR (wL_pL hx) (wL_pL hy) lx ly
  obtain ⟨d1, d2, d3, -, -⟩ := dW_f hx hy
  have hS1 := mS_fr hR.1 f1
  have mT0 := hR.1.1
  have mT1 := hS1.1
  have l1 : (dW xs ys).length ≤ 10 := by omega
  have f2 : MF m 21 25 33 34 h1 (ah_sF h1 m 33 ((dW xs ys).length : Int)) := MF.sF (by omega) (by omega)
  have w2 := mW_fr w1 f2 (by omega)
  have hS2 := mS_fr hS1 f2
  have hL := lp_inv (F := X7_layX_L16 m) (fun k h' => ∃ n : Nat, k = (n : Int) ∧ n ≤ (dW xs ys).length ∧ MF m 21 24 33 33 (ah_sF h1 m 33 ((dW xs ys).length : Int)) h' ∧ ∀ i : Nat, i < n → ah_I h' (m + 21) (i : Int) = (hk (dW xs ys) i).1 ∧ ah_I h' (m + 22) (i : Int) = ((hk (dW xs ys) i).2.1.length : Int) ∧ ah_I h' (m + 23) (i : Int) = ((hk (dW xs ys) i).2.2.length : Int)) (fun k => (((dW xs ys).length : Int) - k).toNat) (fun _ h' => MF m 21 24 33 33 (ah_sF h1 m 33 ((dW xs ys).length : Int)) h' ∧ ∀ i : Nat, i < (dW xs ys).length → ah_I h' (m + 21) (i : Int) = (hk (dW xs ys) i).1 ∧ ah_I h' (m + 22) (i : Int) = ((hk (dW xs ys) i).2.1.length : Int) ∧ ah_I h' (m + 23) (i : Int) = ((hk (dW xs ys) i).2.2.length : Int)) ?_ mo_N 0 (ah_sF h1 m 33 ((dW xs ys).length : Int)) ⟨0, rfl, by omega, MF.rf, fun i hi => by omega⟩ (by rw [mo_N_v]; omega)
  · obtain ⟨_, h3, e3, f3, v3⟩ := hL
    have w3 := mW_fr w2 f3 (by omega)
    have hS3 := mS_fr hS2 f3
    have mT3 := hS3.1
    have z3 := w3.1.2.2
    obtain ⟨p17, t17, n17⟩ := ms17 hS3
    obtain ⟨p24, t24, n24⟩ := ms24 hS3
    have hL2 := lp_cp (F := X7_layX_L68 m) (h := h3) (a := m + 24) (n := (fC (dW xs ys)).length) 0 (fun k => ah_I h3 (m + 17) k) (by omega) (fun k g hk => by simp (disch := omega) only [X7_layX_L68, rr_p, rr_bp, rr_bb, rr_0, rr_lt, rr_blt, rr_le, rr_ble, rr_eq, rr_beq, rr_nl_n, rr_nl_s, rr_bnl_n, rr_bnl_s, rr_cond_t, rr_cond_f, rr_bcond_t, rr_bcond_f, rr_bon, rr_bcv, rr_cv, rr_g, rr_gr, rr_si, rr_sz, rr_sr, rr_al, rr_ld, rr_st, rr_rl, rr_rs, rr_ni, rr_nr, rr_z, rr_div, rr_rem, rr_lc, rr_mx, rr_mn, rr_ab, rr_no, gd_t, bc_t, bc_f, gd_tt, bc_tt, bc_ff, or_true, true_or, and_true, true_and, Nat.reduceAdd, hl_T_sF, hl_N_sF, hl_P_sF, hl_I_sF, hl_R_sF, hl_S_sF, hl_T_sP, hl_N_sP, hl_F_sP, hl_I_sP, hl_R_sP, hl_S_sP, hl_T_sI, hl_N_sI, hl_F_sI, hl_P_sI, hl_R_sI, hl_S_sI, hl_T_sR, hl_N_sR, hl_F_sR, hl_P_sR, hl_I_sR, hl_S_sR, hl_T_wI, hl_N_wI, hl_F_wI, hl_P_wI, hl_R_wI, hl_S_wI, hl_F_sF_s, hl_F_sF_n, hl_P_sP_s, hl_P_sP_n, hl_I_sI_s, hl_I_sI_n, hl_R_sR_s, hl_R_sR_n, hl_I_wI_s, hl_I_wI_n, z3, p17, p24, hl_sI_wI, Int.zero_add]) (fun g => by simp (disch := omega) only [X7_layX_L68, rr_p, rr_bp, rr_bb, rr_0, rr_lt, rr_blt, rr_le, rr_ble, rr_eq, rr_beq, rr_nl_n, rr_nl_s, rr_bnl_n, rr_bnl_s, rr_cond_t, rr_cond_f, rr_bcond_t, rr_bcond_f, rr_bon, rr_bcv, rr_cv, rr_g, rr_gr, rr_si, rr_sz, rr_sr, rr_al, rr_ld, rr_st, rr_rl, rr_rs, rr_ni, rr_nr, rr_z, rr_div, rr_rem, rr_lc, rr_mx, rr_mn, rr_ab, rr_no, gd_t, bc_t, bc_f, gd_tt, bc_tt, bc_ff, or_true, true_or, and_true, true_and, Nat.reduceAdd, hl_T_sF, hl_N_sF, hl_P_sF, hl_I_sF, hl_R_sF, hl_S_sF, hl_T_sP, hl_N_sP, hl_F_sP, hl_I_sP, hl_R_sP, hl_S_sP, hl_T_sI, hl_N_sI, hl_F_sI, hl_P_sI, hl_R_sI, hl_S_sI, hl_T_sR, hl_N_sR, hl_F_sR, hl_P_sR, hl_I_sR, hl_S_sR, hl_T_wI, hl_N_wI, hl_F_wI, hl_P_wI, hl_R_wI, hl_S_wI, hl_F_sF_s, hl_F_sF_n, hl_P_sP_s, hl_P_sP_n, hl_I_sI_s, hl_I_sI_n, hl_R_sR_s, hl_R_sR_n, hl_I_wI_s, hl_I_wI_n, z3, p17, p24])
    have f4 : MF m 24 25 33 33 h3 (ah_wI h3 (m + 24) (fun y => if 0 ≤ y ∧ y < 0 + ((fC (dW xs ys)).length : Int) then ah_I h3 (m + 17) (y - 0) else ah_I h3 (m + 24) y)) := MF.wI (by omega) (by omega)
    have z1 := w1.1.1
    refine ⟨_, by simp (disch := omega) only [X7_layX, rr_p, rr_bp, rr_bb, rr_0, rr_lt, rr_blt, rr_le, rr_ble, rr_eq, rr_beq, rr_nl_n, rr_nl_s, rr_bnl_n, rr_bnl_s, rr_cond_t, rr_cond_f, rr_bcond_t, rr_bcond_f, rr_bon, rr_bcv, rr_cv, rr_g, rr_gr, rr_si, rr_sz, rr_sr, rr_al, rr_ld, rr_st, rr_rl, rr_rs, rr_ni, rr_nr, rr_z, rr_div, rr_rem, rr_lc, rr_mx, rr_mn, rr_ab, rr_no, gd_t, bc_t, bc_f, gd_tt, bc_tt, bc_ff, or_true, true_or, and_true, true_and, Nat.reduceAdd, mo_b_s e1, z1, mo_b_s e3, mo_b_s hL2], ⟨?_, fun i hi => ?_, fun j hj => ?_⟩, ((f1.tr f2 (a3 := 13) (b3 := 25) (c3 := 16) (d3 := 34) (by omega)).tr f3 (a3 := 13) (b3 := 25) (c3 := 16) (d3 := 34) (by omega)).tr f4 (by omega)⟩
    · rw [f4.2.2.2.2.2 33 (by omega), f3.2.2.2.2.2 33 (by omega), hl_F_sF_s]
    · rw [f4.2.2.2.2.1 21 (by omega), f4.2.2.2.2.1 22 (by omega), f4.2.2.2.2.1 23 (by omega)]; exact v3 i hi
    · rw [hl_I_wI_s, if_pos (by omega), Int.sub_zero]; exact w3.2.2.2 j hj
  · rintro k h' ⟨n, rfl, n1, n2, n3⟩
    have w3 := mW_fr w2 n2 (by omega)
    have hS3 := mS_fr hS2 n2
    have mT3 := hS3.1
    have z1 := w3.1.1
    obtain ⟨p13, t13, n13⟩ := ms13 hS3
    obtain ⟨p14, t14, n14⟩ := ms14 hS3
    obtain ⟨p15, t15, n15⟩ := ms15 hS3
    obtain ⟨p21, t21, n21⟩ := ms21 hS3
    obtain ⟨p22, t22, n22⟩ := ms22 hS3
    obtain ⟨p23, t23, n23⟩ := ms23 hS3
    by_cases hn : n < (dW xs ys).length
    · left
      obtain ⟨y1, y2, y3⟩ := w3.2.1 n hn
      refine ⟨(n : Int) + 1, ah_sI (ah_sI (ah_sI h' (m + 21) (n : Int) (hk (dW xs ys) n).1) (m + 22) (n : Int) ((hk (dW xs ys) n).2.1.length : Int)) (m + 23) (n : Int) ((hk (dW xs ys) n).2.2.length : Int), by simp (disch := omega) only [X7_layX_L16, rr_p, rr_bp, rr_bb, rr_0, rr_lt, rr_blt, rr_le, rr_ble, rr_eq, rr_beq, rr_nl_n, rr_nl_s, rr_bnl_n, rr_bnl_s, rr_cond_t, rr_cond_f, rr_bcond_t, rr_bcond_f, rr_bon, rr_bcv, rr_cv, rr_g, rr_gr, rr_si, rr_sz, rr_sr, rr_al, rr_ld, rr_st, rr_rl, rr_rs, rr_ni, rr_nr, rr_z, rr_div, rr_rem, rr_lc, rr_mx, rr_mn, rr_ab, rr_no, gd_t, bc_t, bc_f, gd_tt, bc_tt, bc_ff, or_true, true_or, and_true, true_and, Nat.reduceAdd, hl_T_sF, hl_N_sF, hl_P_sF, hl_I_sF, hl_R_sF, hl_S_sF, hl_T_sP, hl_N_sP, hl_F_sP, hl_I_sP, hl_R_sP, hl_S_sP, hl_T_sI, hl_N_sI, hl_F_sI, hl_P_sI, hl_R_sI, hl_S_sI, hl_T_sR, hl_N_sR, hl_F_sR, hl_P_sR, hl_I_sR, hl_S_sR, hl_T_wI, hl_N_wI, hl_F_wI, hl_P_wI, hl_R_wI, hl_S_wI, hl_F_sF_s, hl_F_sF_n, hl_P_sP_s, hl_P_sP_n, hl_I_sI_s, hl_I_sI_n, hl_R_sR_s, hl_R_sR_n, hl_I_wI_s, hl_I_wI_n, z1, p13, p14, p15, p21, p22, p23, y1, y2, y3], ⟨n + 1, by simp, by omega, ((n2.tr (MF.sI (al := 21) (ah_ := 24) (fl := 33) (fh := 33) (by omega) (by omega)) (a3 := 21) (b3 := 24) (c3 := 33) (d3 := 33) (by omega)).tr (MF.sI (al := 21) (ah_ := 24) (fl := 33) (fh := 33) (by omega) (by omega)) (a3 := 21) (b3 := 24) (c3 := 33) (d3 := 33) (by omega)).tr (MF.sI (al := 21) (ah_ := 24) (fl := 33) (fh := 33) (by omega) (by omega)) (by omega), fun i hi => ?_⟩, by omega⟩
      by_cases c : i = n
      · subst c
        simp (disch := omega) only [hl_T_sF, hl_N_sF, hl_P_sF, hl_I_sF, hl_R_sF, hl_S_sF, hl_T_sP, hl_N_sP, hl_F_sP, hl_I_sP, hl_R_sP, hl_S_sP, hl_T_sI, hl_N_sI, hl_F_sI, hl_P_sI, hl_R_sI, hl_S_sI, hl_T_sR, hl_N_sR, hl_F_sR, hl_P_sR, hl_I_sR, hl_S_sR, hl_T_wI, hl_N_wI, hl_F_wI, hl_P_wI, hl_R_wI, hl_S_wI, hl_F_sF_s, hl_F_sF_n, hl_P_sP_s, hl_P_sP_n, hl_I_sI_s, hl_I_sI_n, hl_R_sR_s, hl_R_sR_n, hl_I_wI_s, hl_I_wI_n, and_self]
      · obtain ⟨a1, a2, a3⟩ := n3 i (by omega)
        simp (disch := omega) only [hl_T_sF, hl_N_sF, hl_P_sF, hl_I_sF, hl_R_sF, hl_S_sF, hl_T_sP, hl_N_sP, hl_F_sP, hl_I_sP, hl_R_sP, hl_S_sP, hl_T_sI, hl_N_sI, hl_F_sI, hl_P_sI, hl_R_sI, hl_S_sI, hl_T_sR, hl_N_sR, hl_F_sR, hl_P_sR, hl_I_sR, hl_S_sR, hl_T_wI, hl_N_wI, hl_F_wI, hl_P_wI, hl_R_wI, hl_S_wI, hl_F_sF_s, hl_F_sF_n, hl_P_sP_s, hl_P_sP_n, hl_I_sI_s, hl_I_sI_n, hl_R_sR_s, hl_R_sR_n, hl_I_wI_s, hl_I_wI_n]
        exact ⟨a1, a2, a3⟩
    · right
      have : n = (dW xs ys).length := by omega
      subst this
      exact ⟨(), h', by simp (disch := omega) only [X7_layX_L16, rr_p, rr_bp, rr_bb, rr_0, rr_lt, rr_blt, rr_le, rr_ble, rr_eq, rr_beq, rr_nl_n, rr_nl_s, rr_bnl_n, rr_bnl_s, rr_cond_t, rr_cond_f, rr_bcond_t, rr_bcond_f, rr_bon, rr_bcv, rr_cv, rr_g, rr_gr, rr_si, rr_sz, rr_sr, rr_al, rr_ld, rr_st, rr_rl, rr_rs, rr_ni, rr_nr, rr_z, rr_div, rr_rem, rr_lc, rr_mx, rr_mn, rr_ab, rr_no, gd_t, bc_t, bc_f, gd_tt, bc_tt, bc_ff, or_true, true_or, and_true, true_and, Nat.reduceAdd, z1], n2, n3⟩
/-- both places of the model hold hunks -/
def xW (h : AH) (m : Nat) (P Q : List HK) : Prop := mS h m ∧ xM h m P ∧ mW h m Q ∧ (P.length ≤ 10 ∧ (fG P).length ≤ 14 ∧ (fC P).length ≤ 14) ∧ (Q.length ≤ 10 ∧ (fG Q).length ≤ 14 ∧ (fC Q).length ≤ 14)
theorem xW_fr {m al ah_ fl fh : Nat} {h h' : AH} {P Q : List HK} (hW : xW h m P Q) (f : MF m al ah_ fl fh h h') (q : (25 ≤ al ∨ (18 ≤ al ∧ ah_ ≤ 21)) ∧ (34 ≤ fl ∨ (23 ≤ fl ∧ fh ≤ 33))) : xW h' m P Q := ⟨mS_fr hW.1 f, xM_fr hW.2.1 f (by omega), mW_fr hW.2.2.1 f (by omega), hW.2.2.2⟩
theorem q7_xFrom {h : AH} {m i : Nat} {P Q : List HK} (hW : xW h m P Q) (hi : i ≤ P.length) : X7_xFrom m (i : Int) h = some ((hcs P i : Int), h) := by
  obtain ⟨hS, ⟨x1, x2, x3⟩, -, ⟨l1, l2, l3⟩, -⟩ := id hW
  have mT := hS.1
  obtain ⟨p23, t23, n23⟩ := ms23 hS
  have hs := lp_seq (F := X7_xFrom_L4 m (i : Int)) (fun j : Nat => ((hcs P j : Int), (j : Int))) (fun _ => h) i (b := (hcs P i : Int)) (hE := h) ?_ ?_ mo_N (by rw [mo_N_v]; omega)
  · have hs : mo_lp mo_N (X7_xFrom_L4 m (i : Int)) (0, 0) h = some ((hcs P i : Int), h) := hs
    simp (disch := omega) only [X7_xFrom, rr_p, rr_bp, rr_bb, rr_0, rr_lt, rr_blt, rr_le, rr_ble, rr_eq, rr_beq, rr_nl_n, rr_nl_s, rr_bnl_n, rr_bnl_s, rr_cond_t, rr_cond_f, rr_bcond_t, rr_bcond_f, rr_bon, rr_bcv, rr_cv, rr_g, rr_gr, rr_si, rr_sz, rr_sr, rr_al, rr_ld, rr_st, rr_rl, rr_rs, rr_ni, rr_nr, rr_z, rr_div, rr_rem, rr_lc, rr_mx, rr_mn, rr_ab, rr_no, gd_t, bc_t, bc_f, gd_tt, bc_tt, bc_ff, or_true, true_or, and_true, true_and, Nat.reduceAdd, mo_b_s hs]
  · intro j hj
    obtain ⟨a1, a2, a3⟩ := x2 j (by omega)
    have s1 := @hcs_s P j (by omega)
    simp (disch := omega) only [X7_xFrom_L4, rr_p, rr_bp, rr_bb, rr_0, rr_lt, rr_blt, rr_le, rr_ble, rr_eq, rr_beq, rr_nl_n, rr_nl_s, rr_bnl_n, rr_bnl_s, rr_cond_t, rr_cond_f, rr_bcond_t, rr_bcond_f, rr_bon, rr_bcv, rr_cv, rr_g, rr_gr, rr_si, rr_sz, rr_sr, rr_al, rr_ld, rr_st, rr_rl, rr_rs, rr_ni, rr_nr, rr_z, rr_div, rr_rem, rr_lc, rr_mx, rr_mn, rr_ab, rr_no, gd_t, bc_t, bc_f, gd_tt, bc_tt, bc_ff, or_true, true_or, and_true, true_and, Nat.reduceAdd, p23, a3]
    rw [s1, Int.natCast_add, Int.natCast_add, Int.natCast_one]
  · simp (disch := omega) only [X7_xFrom_L4, rr_p, rr_bp, rr_bb, rr_0, rr_lt, rr_blt, rr_le, rr_ble, rr_eq, rr_beq, rr_nl_n, rr_nl_s, rr_bnl_n, rr_bnl_s, rr_cond_t, rr_cond_f, rr_bcond_t, rr_bcond_f, rr_bon, rr_bcv, rr_cv, rr_g, rr_gr, rr_si, rr_sz, rr_sr, rr_al, rr_ld, rr_st, rr_rl, rr_rs, rr_ni, rr_nr, rr_z, rr_div, rr_rem, rr_lc, rr_mx, rr_mn, rr_ab, rr_no, gd_t, bc_t, bc_f, gd_tt, bc_tt, bc_ff, or_true, true_or, and_true, true_and, Nat.reduceAdd]
theorem q7_workFrom {h : AH} {m i : Nat} {P Q : List HK} (hW : xW h m P Q) (hi : i ≤ Q.length) : X7_workFrom m (i : Int) h = some ((hcs Q i : Int), h) := by
  obtain ⟨hS, -, ⟨x1, x2, x3⟩, -, ⟨l1, l2, l3⟩⟩ := id hW
  have mT := hS.1
  obtain ⟨p15, t15, n15⟩ := ms15 hS
  have hs := lp_seq (F := X7_workFrom_L4 m (i : Int)) (fun j : Nat => ((hcs Q j : Int), (j : Int))) (fun _ => h) i (b := (hcs Q i : Int)) (hE := h) ?_ ?_ mo_N (by rw [mo_N_v]; omega)
  · have hs : mo_lp mo_N (X7_workFrom_L4 m (i : Int)) (0, 0) h = some ((hcs Q i : Int), h) := hs
    simp (disch := omega) only [X7_workFrom, rr_p, rr_bp, rr_bb, rr_0, rr_lt, rr_blt, rr_le, rr_ble, rr_eq, rr_beq, rr_nl_n, rr_nl_s, rr_bnl_n, rr_bnl_s, rr_cond_t, rr_cond_f, rr_bcond_t, rr_bcond_f, rr_bon, rr_bcv, rr_cv, rr_g, rr_gr, rr_si, rr_sz, rr_sr, rr_al, rr_ld, rr_st, rr_rl, rr_rs, rr_ni, rr_nr, rr_z, rr_div, rr_rem, rr_lc, rr_mx, rr_mn, rr_ab, rr_no, gd_t, bc_t, bc_f, gd_tt, bc_tt, bc_ff, or_true, true_or, and_true, true_and, Nat.reduceAdd, mo_b_s hs]
  · intro j hj
    obtain ⟨a1, a2, a3⟩ := x2 j (by omega)
    have s1 := @hcs_s Q j (by omega)
    simp (disch := omega) only [X7_workFrom_L4, rr_p, rr_bp, rr_bb, rr_0, rr_lt, rr_blt, rr_le, rr_ble, rr_eq, rr_beq, rr_nl_n, rr_nl_s, rr_bnl_n, rr_bnl_s, rr_cond_t, rr_cond_f, rr_bcond_t, rr_bcond_f, rr_bon, rr_bcv, rr_cv, rr_g, rr_gr, rr_si, rr_sz, rr_sr, rr_al, rr_ld, rr_st, rr_rl, rr_rs, rr_ni, rr_nr, rr_z, rr_div, rr_rem, rr_lc, rr_mx, rr_mn, rr_ab, rr_no, gd_t, bc_t, bc_f, gd_tt, bc_tt, bc_ff, or_true, true_or, and_true, true_and, Nat.reduceAdd, p15, a3]
    rw [s1, Int.natCast_add, Int.natCast_add, Int.natCast_one]
  · simp (disch := omega) only [X7_workFrom_L4, rr_p, rr_bp, rr_bb, rr_0, rr_lt, rr_blt, rr_le, rr_ble, rr_eq, rr_beq, rr_nl_n, rr_nl_s, rr_bnl_n, rr_bnl_s, rr_cond_t, rr_cond_f, rr_bcond_t, rr_bcond_f, rr_bon, rr_bcv, rr_cv, rr_g, rr_gr, rr_si, rr_sz, rr_sr, rr_al, rr_ld, rr_st, rr_rl, rr_rs, rr_ni, rr_nr, rr_z, rr_div, rr_rem, rr_lc, rr_mx, rr_mn, rr_ab, rr_no, gd_t, bc_t, bc_f, gd_tt, bc_tt, bc_ff, or_true, true_or, and_true, true_and, Nat.reduceAdd]
theorem xW_xl {h : AH} {m i k : Nat} {P Q : List HK} (hW : xW h m P Q) (hi : i < P.length) (hk1 : k < (hk P i).2.2.length) : ah_I h (m + 24) ((hcs P i : Int) + (k : Int)) = (hk P i).2.2.getD k 0 := by
  have := hW.2.1.2.2 (hcs P i + k) (fC_in hi hk1)
  rw [fC_at hi hk1, Int.natCast_add] at this; exact this
theorem xW_wl {h : AH} {m i k : Nat} {P Q : List HK} (hW : xW h m P Q) (hi : i < Q.length) (hk1 : k < (hk Q i).2.2.length) : ah_I h (m + 17) ((hcs Q i : Int) + (k : Int)) = (hk Q i).2.2.getD k 0 := by
  have := hW.2.2.1.2.2.2 (hcs Q i + k) (fC_in hi hk1)
  rw [fC_at hi hk1, Int.natCast_add] at this; exact this
def alM (p q : HK) : Prop := p.1 = q.1 ∧ p.2.1.length = q.2.1.length ∧ p.2.2 = q.2.2
theorem q7_alike {h : AH} {m i j : Nat} {P Q : List HK} (hW : xW h m P Q) (vP : pV P) (vQ : pV Q) (hi : i < P.length) (hj : j < Q.length) : X7_alike m (i : Int) (j : Int) h = some (br (alM (hk P i) (hk Q j)) 1 0, h) := by
  obtain ⟨hS, ⟨x1, x2, x3⟩, ⟨⟨y1, y2, y3⟩, y4, y5, y6⟩, ⟨l1, l2, l3⟩, ⟨k1, k2, k3⟩⟩ := id hW
  have mT := hS.1
  obtain ⟨p13, t13, n13⟩ := ms13 hS
  obtain ⟨p14, t14, n14⟩ := ms14 hS
  obtain ⟨p15, t15, n15⟩ := ms15 hS
  obtain ⟨p17, t17, n17⟩ := ms17 hS
  obtain ⟨p21, t21, n21⟩ := ms21 hS
  obtain ⟨p22, t22, n22⟩ := ms22 hS
  obtain ⟨p23, t23, n23⟩ := ms23 hS
  obtain ⟨p24, t24, n24⟩ := ms24 hS
  obtain ⟨a1, a2, a3⟩ := x2 i hi
  obtain ⟨b1, b2, b3⟩ := y4 j hj
  have r1 := (vP i).1
  have r2 := (vQ j).1
  have g1 := @hgs_s P i hi
  have g2 := @hgs_le P (i + 1)
  have g3 := @hcs_s P i hi
  have g4 := @hcs_le P (i + 1)
  have g5 := @hgs_s Q j hj
  have g6 := @hgs_le Q (j + 1)
  have g7 := @hcs_s Q j hj
  have g8 := @hcs_le Q (j + 1)
  have e1 := q7_xFrom hW (i := i) (by omega)
  have e2 := q7_workFrom hW (i := j) (by omega)
  have e0 : mo_lp mo_N (X7_alike_L54 m (i : Int) (j : Int)) (0, 0) h = some (0, h) := by
    by_cases c : 0 < (hk P i).2.2.length
    · exact lp_r (by simp (disch := omega) only [X7_alike_L54, rr_p, rr_bp, rr_bb, rr_0, rr_lt, rr_blt, rr_le, rr_ble, rr_eq, rr_beq, rr_nl_n, rr_nl_s, rr_bnl_n, rr_bnl_s, rr_cond_t, rr_cond_f, rr_bcond_t, rr_bcond_f, rr_bon, rr_bcv, rr_cv, rr_g, rr_gr, rr_si, rr_sz, rr_sr, rr_al, rr_ld, rr_st, rr_rl, rr_rs, rr_ni, rr_nr, rr_z, rr_div, rr_rem, rr_lc, rr_mx, rr_mn, rr_ab, rr_no, gd_t, bc_t, bc_f, gd_tt, bc_tt, bc_ff, or_true, true_or, and_true, true_and, Nat.reduceAdd, p23, a3]) (by rw [mo_N_v]; omega)
    · exact lp_r (by simp (disch := omega) only [X7_alike_L54, rr_p, rr_bp, rr_bb, rr_0, rr_lt, rr_blt, rr_le, rr_ble, rr_eq, rr_beq, rr_nl_n, rr_nl_s, rr_bnl_n, rr_bnl_s, rr_cond_t, rr_cond_f, rr_bcond_t, rr_bcond_f, rr_bon, rr_bcv, rr_cv, rr_g, rr_gr, rr_si, rr_sz, rr_sr, rr_al, rr_ld, rr_st, rr_rl, rr_rs, rr_ni, rr_nr, rr_z, rr_div, rr_rem, rr_lc, rr_mx, rr_mn, rr_ab, rr_no, gd_t, bc_t, bc_f, gd_tt, bc_tt, bc_ff, or_true, true_or, and_true, true_and, Nat.reduceAdd, p23, a3]) (by rw [mo_N_v]; omega)
  by_cases c1 : (hk P i).1 = (hk Q j).1
  · by_cases c2 : (hk P i).2.1.length = (hk Q j).2.1.length
    · by_cases c3 : (hk P i).2.2.length = (hk Q j).2.2.length
      · have hL := lp_inv (F := X7_alike_L54 m (i : Int) (j : Int)) (fun s h' => h' = h ∧ ∃ n : Nat, s.2 = (n : Int) ∧ n ≤ (hk P i).2.2.length ∧ ((s.1 = 1 ∧ ∀ k, k < n → (hk P i).2.2.getD k 0 = (hk Q j).2.2.getD k 0) ∨ (s.1 = 0 ∧ ∃ k, k < n ∧ (hk P i).2.2.getD k 0 ≠ (hk Q j).2.2.getD k 0))) (fun s => (((hk P i).2.2.length : Int) - s.2).toNat) (fun b h' => h' = h ∧ b = br (alM (hk P i) (hk Q j)) 1 0) ?_ mo_N (1, 0) h ⟨rfl, 0, rfl, by omega, Or.inl ⟨rfl, fun k hk1 => by omega⟩⟩ (by rw [mo_N_v]; dsimp only; omega)
        · obtain ⟨b, h', e3, rfl, rfl⟩ := hL
          have hz : br (alM (hk P i) (hk Q j)) (1 : Int) 0 = 0 ∨ br (alM (hk P i) (hk Q j)) (1 : Int) 0 = 1 := br_01
          simp (disch := omega) only [X7_alike, rr_p, rr_bp, rr_bb, rr_0, rr_lt, rr_blt, rr_le, rr_ble, rr_eq, rr_beq, rr_nl_n, rr_nl_s, rr_bnl_n, rr_bnl_s, rr_cond_t, rr_cond_f, rr_bcond_t, rr_bcond_f, rr_bon, rr_bcv, rr_cv, rr_g, rr_gr, rr_si, rr_sz, rr_sr, rr_al, rr_ld, rr_st, rr_rl, rr_rs, rr_ni, rr_nr, rr_z, rr_div, rr_rem, rr_lc, rr_mx, rr_mn, rr_ab, rr_no, gd_t, bc_t, bc_f, gd_tt, bc_tt, bc_ff, or_true, true_or, and_true, true_and, Nat.reduceAdd, p13, p14, p15, p21, p22, p23, a1, a2, a3, b1, b2, b3, mo_b_s e3]
        · rintro ⟨s1, s2⟩ h' ⟨rfl, n, n1, n2, n3⟩
          dsimp only at n1 n3 ⊢
          subst n1
          have hne : (s1 = 0 ∧ ∃ k, k < n ∧ (hk P i).2.2.getD k 0 ≠ (hk Q j).2.2.getD k 0) → (0 : Int) = br (alM (hk P i) (hk Q j)) 1 0 := by
            rintro ⟨-, k, hk1, hk2⟩
            rw [bc_f (fun z => hk2 (by rw [z.2.2]))]
          by_cases hn : n < (hk P i).2.2.length
          · by_cases cs : s1 = 0
            · right
              rcases n3 with ⟨z1, z2⟩ | z
              · omega
              · exact ⟨s1, h', by simp (disch := omega) only [X7_alike_L54, rr_p, rr_bp, rr_bb, rr_0, rr_lt, rr_blt, rr_le, rr_ble, rr_eq, rr_beq, rr_nl_n, rr_nl_s, rr_bnl_n, rr_bnl_s, rr_cond_t, rr_cond_f, rr_bcond_t, rr_bcond_f, rr_bon, rr_bcv, rr_cv, rr_g, rr_gr, rr_si, rr_sz, rr_sr, rr_al, rr_ld, rr_st, rr_rl, rr_rs, rr_ni, rr_nr, rr_z, rr_div, rr_rem, rr_lc, rr_mx, rr_mn, rr_ab, rr_no, gd_t, bc_t, bc_f, gd_tt, bc_tt, bc_ff, or_true, true_or, and_true, true_and, Nat.reduceAdd, p23, a3], rfl, by rw [cs]; exact hne z⟩
            · left
              have q1 := xW_xl hW hi hn
              have q2 := xW_wl hW hj (k := n) (by omega)
              have r3 := (vP i).2.2 n
              have r4 := (vQ j).2.2 n
              rcases n3 with ⟨z1, z2⟩ | z
              · by_cases cv : (hk P i).2.2.getD n 0 = (hk Q j).2.2.getD n 0
                · refine ⟨(1, (n : Int) + 1), h', by simp (disch := omega) only [X7_alike_L54, rr_p, rr_bp, rr_bb, rr_0, rr_lt, rr_blt, rr_le, rr_ble, rr_eq, rr_beq, rr_nl_n, rr_nl_s, rr_bnl_n, rr_bnl_s, rr_cond_t, rr_cond_f, rr_bcond_t, rr_bcond_f, rr_bon, rr_bcv, rr_cv, rr_g, rr_gr, rr_si, rr_sz, rr_sr, rr_al, rr_ld, rr_st, rr_rl, rr_rs, rr_ni, rr_nr, rr_z, rr_div, rr_rem, rr_lc, rr_mx, rr_mn, rr_ab, rr_no, gd_t, bc_t, bc_f, gd_tt, bc_tt, bc_ff, or_true, true_or, and_true, true_and, Nat.reduceAdd, p17, p23, p24, a3, mo_b_s e1, mo_b_s e2, q1, q2], ⟨rfl, n + 1, by simp, by omega, Or.inl ⟨rfl, fun k hk1 => ?_⟩⟩, by dsimp only; omega⟩
                  by_cases ck : k = n
                  · rw [ck]; exact cv
                  · exact z2 k (by omega)
                · exact ⟨(0, (n : Int) + 1), h', by simp (disch := omega) only [X7_alike_L54, rr_p, rr_bp, rr_bb, rr_0, rr_lt, rr_blt, rr_le, rr_ble, rr_eq, rr_beq, rr_nl_n, rr_nl_s, rr_bnl_n, rr_bnl_s, rr_cond_t, rr_cond_f, rr_bcond_t, rr_bcond_f, rr_bon, rr_bcv, rr_cv, rr_g, rr_gr, rr_si, rr_sz, rr_sr, rr_al, rr_ld, rr_st, rr_rl, rr_rs, rr_ni, rr_nr, rr_z, rr_div, rr_rem, rr_lc, rr_mx, rr_mn, rr_ab, rr_no, gd_t, bc_t, bc_f, gd_tt, bc_tt, bc_ff, or_true, true_or, and_true, true_and, Nat.reduceAdd, p17, p23, p24, a3, mo_b_s e1, mo_b_s e2, q1, q2], ⟨rfl, n + 1, by simp, by omega, Or.inr ⟨rfl, n, by omega, cv⟩⟩, by dsimp only; omega⟩
              · exact absurd z.1 cs
          · right
            refine ⟨s1, h', by simp (disch := omega) only [X7_alike_L54, rr_p, rr_bp, rr_bb, rr_0, rr_lt, rr_blt, rr_le, rr_ble, rr_eq, rr_beq, rr_nl_n, rr_nl_s, rr_bnl_n, rr_bnl_s, rr_cond_t, rr_cond_f, rr_bcond_t, rr_bcond_f, rr_bon, rr_bcv, rr_cv, rr_g, rr_gr, rr_si, rr_sz, rr_sr, rr_al, rr_ld, rr_st, rr_rl, rr_rs, rr_ni, rr_nr, rr_z, rr_div, rr_rem, rr_lc, rr_mx, rr_mn, rr_ab, rr_no, gd_t, bc_t, bc_f, gd_tt, bc_tt, bc_ff, or_true, true_or, and_true, true_and, Nat.reduceAdd, p23, a3], rfl, ?_⟩
            rcases n3 with ⟨z1, z2⟩ | z
            · rw [z1, bc_t ⟨c1, c2, gd_ext c3 (fun k hk1 => z2 k (by omega))⟩]
            · rw [z.1]; exact hne z
      · rw [bc_f (fun z => c3 (by rw [z.2.2]))]
        simp (disch := omega) only [X7_alike, rr_p, rr_bp, rr_bb, rr_0, rr_lt, rr_blt, rr_le, rr_ble, rr_eq, rr_beq, rr_nl_n, rr_nl_s, rr_bnl_n, rr_bnl_s, rr_cond_t, rr_cond_f, rr_bcond_t, rr_bcond_f, rr_bon, rr_bcv, rr_cv, rr_g, rr_gr, rr_si, rr_sz, rr_sr, rr_al, rr_ld, rr_st, rr_rl, rr_rs, rr_ni, rr_nr, rr_z, rr_div, rr_rem, rr_lc, rr_mx, rr_mn, rr_ab, rr_no, gd_t, bc_t, bc_f, gd_tt, bc_tt, bc_ff, or_true, true_or, and_true, true_and, Nat.reduceAdd, p13, p14, p15, p21, p22, p23, a1, a2, a3, b1, b2, b3, mo_b_s e0]
    · rw [bc_f (fun z => c2 z.2.1)]
      simp (disch := omega) only [X7_alike, rr_p, rr_bp, rr_bb, rr_0, rr_lt, rr_blt, rr_le, rr_ble, rr_eq, rr_beq, rr_nl_n, rr_nl_s, rr_bnl_n, rr_bnl_s, rr_cond_t, rr_cond_f, rr_bcond_t, rr_bcond_f, rr_bon, rr_bcv, rr_cv, rr_g, rr_gr, rr_si, rr_sz, rr_sr, rr_al, rr_ld, rr_st, rr_rl, rr_rs, rr_ni, rr_nr, rr_z, rr_div, rr_rem, rr_lc, rr_mx, rr_mn, rr_ab, rr_no, gd_t, bc_t, bc_f, gd_tt, bc_tt, bc_ff, or_true, true_or, and_true, true_and, Nat.reduceAdd, p13, p14, p15, p21, p22, p23, a1, a2, a3, b1, b2, b3, mo_b_s e0]
  · rw [bc_f (fun z => c1 z.1)]
    simp (disch := omega) only [X7_alike, rr_p, rr_bp, rr_bb, rr_0, rr_lt, rr_blt, rr_le, rr_ble, rr_eq, rr_beq, rr_nl_n, rr_nl_s, rr_bnl_n, rr_bnl_s, rr_cond_t, rr_cond_f, rr_bcond_t, rr_bcond_f, rr_bon, rr_bcv, rr_cv, rr_g, rr_gr, rr_si, rr_sz, rr_sr, rr_al, rr_ld, rr_st, rr_rl, rr_rs, rr_ni, rr_nr, rr_z, rr_div, rr_rem, rr_lc, rr_mx, rr_mn, rr_ab, rr_no, gd_t, bc_t, bc_f, gd_tt, bc_tt, bc_ff, or_true, true_or, and_true, true_and, Nat.reduceAdd, p13, p14, p15, p21, p22, p23, a1, a2, a3, b1, b2, b3, mo_b_s e0]
theorem q7_clashes {h : AH} {m i : Nat} {P Q : List HK} {xs : List Int} (hW : xW h m P Q) (vP : pV P) (vQ : pV Q) (hP : ∀ i : Nat, i < P.length → hF xs (hk P i)) (hQ : ∀ i : Nat, i < Q.length → hF xs (hk Q i)) (hi : i < P.length) : X7_clashes m (i : Int) h = some (br (clk P Q i) 1 0, h) := by
  obtain ⟨hS, ⟨x1, x2, x3⟩, ⟨⟨y1, y2, y3⟩, y4, y5, y6⟩, ⟨l1, l2, l3⟩, ⟨k1, k2, k3⟩⟩ := id hW
  have mT := hS.1
  obtain ⟨p13, t13, n13⟩ := ms13 hS
  obtain ⟨p14, t14, n14⟩ := ms14 hS
  obtain ⟨p21, t21, n21⟩ := ms21 hS
  obtain ⟨p22, t22, n22⟩ := ms22 hS
  obtain ⟨a1, a2, a3⟩ := x2 i hi
  have r1 := (vP i).1
  have g1 := @hgs_s P i hi
  have g2 := @hgs_le P (i + 1)
  have hs := lp_sr (F := X7_clashes_L2 m (i : Int)) (h := h) (fun j => tq (hk P i) (hk Q j) ∧ hk P i ≠ hk Q j) (fun _ => 1) 0 Q.length ?_ ?_ ?_ Q.length 0 mo_N (by omega) (by rw [mo_N_v]; omega)
  · rw [sr_c] at hs
    have e : (∃ j, 0 ≤ j ∧ j < 0 + Q.length ∧ (tq (hk P i) (hk Q j) ∧ hk P i ≠ hk Q j)) ↔ clk P Q i := ⟨fun ⟨j, _, h2, h3⟩ => ⟨j, by omega, h3⟩, fun ⟨j, h2, h3⟩ => ⟨j, by omega, by omega, h3⟩⟩
    rw [propext e] at hs
    exact hs
  · intro j hj hn
    obtain ⟨b1, b2, b3⟩ := y4 j hj
    have r2 := (vQ j).1
    have g5 := @hgs_s Q j hj
    have g6 := @hgs_le Q (j + 1)
    by_cases c1 : (hk P i).1 ≤ (hk Q j).1 + ((hk Q j).2.1.length : Int)
    · by_cases c2 : (hk Q j).1 ≤ (hk P i).1 + ((hk P i).2.1.length : Int)
      · have e1 := q7_alike hW vP vQ hi hj
        have ce : hk P i = hk Q j := by
          by_cases z : hk P i = hk Q j
          · exact z
          · exact absurd ⟨⟨c1, c2⟩, z⟩ hn
        rw [bc_t ⟨by rw [ce], by rw [ce], by rw [ce]⟩] at e1
        simp (disch := omega) only [X7_clashes_L2, rr_p, rr_bp, rr_bb, rr_0, rr_lt, rr_blt, rr_le, rr_ble, rr_eq, rr_beq, rr_nl_n, rr_nl_s, rr_bnl_n, rr_bnl_s, rr_cond_t, rr_cond_f, rr_bcond_t, rr_bcond_f, rr_bon, rr_bcv, rr_cv, rr_g, rr_gr, rr_si, rr_sz, rr_sr, rr_al, rr_ld, rr_st, rr_rl, rr_rs, rr_ni, rr_nr, rr_z, rr_div, rr_rem, rr_lc, rr_mx, rr_mn, rr_ab, rr_no, gd_t, bc_t, bc_f, gd_tt, bc_tt, bc_ff, or_true, true_or, and_true, true_and, Nat.reduceAdd, y1, p13, p14, p21, p22, a1, a2, b1, b2, mo_b_s e1]
      · simp (disch := omega) only [X7_clashes_L2, rr_p, rr_bp, rr_bb, rr_0, rr_lt, rr_blt, rr_le, rr_ble, rr_eq, rr_beq, rr_nl_n, rr_nl_s, rr_bnl_n, rr_bnl_s, rr_cond_t, rr_cond_f, rr_bcond_t, rr_bcond_f, rr_bon, rr_bcv, rr_cv, rr_g, rr_gr, rr_si, rr_sz, rr_sr, rr_al, rr_ld, rr_st, rr_rl, rr_rs, rr_ni, rr_nr, rr_z, rr_div, rr_rem, rr_lc, rr_mx, rr_mn, rr_ab, rr_no, gd_t, bc_t, bc_f, gd_tt, bc_tt, bc_ff, or_true, true_or, and_true, true_and, Nat.reduceAdd, y1, p13, p14, p21, p22, a1, a2, b1, b2]
    · simp (disch := omega) only [X7_clashes_L2, rr_p, rr_bp, rr_bb, rr_0, rr_lt, rr_blt, rr_le, rr_ble, rr_eq, rr_beq, rr_nl_n, rr_nl_s, rr_bnl_n, rr_bnl_s, rr_cond_t, rr_cond_f, rr_bcond_t, rr_bcond_f, rr_bon, rr_bcv, rr_cv, rr_g, rr_gr, rr_si, rr_sz, rr_sr, rr_al, rr_ld, rr_st, rr_rl, rr_rs, rr_ni, rr_nr, rr_z, rr_div, rr_rem, rr_lc, rr_mx, rr_mn, rr_ab, rr_no, gd_t, bc_t, bc_f, gd_tt, bc_tt, bc_ff, or_true, true_or, and_true, true_and, Nat.reduceAdd, y1, p13, p14, p21, p22, a1, a2, b1, b2]
  · rintro j hj ⟨⟨c1, c2⟩, ce⟩
    obtain ⟨b1, b2, b3⟩ := y4 j hj
    have r2 := (vQ j).1
    have g5 := @hgs_s Q j hj
    have g6 := @hgs_le Q (j + 1)
    have e1 := q7_alike hW vP vQ hi hj
    rw [bc_f (fun z => ce (hF_eq (hP i hi) (hQ j hj) z.1 z.2.1 z.2.2))] at e1
    simp (disch := omega) only [X7_clashes_L2, rr_p, rr_bp, rr_bb, rr_0, rr_lt, rr_blt, rr_le, rr_ble, rr_eq, rr_beq, rr_nl_n, rr_nl_s, rr_bnl_n, rr_bnl_s, rr_cond_t, rr_cond_f, rr_bcond_t, rr_bcond_f, rr_bon, rr_bcv, rr_cv, rr_g, rr_gr, rr_si, rr_sz, rr_sr, rr_al, rr_ld, rr_st, rr_rl, rr_rs, rr_ni, rr_nr, rr_z, rr_div, rr_rem, rr_lc, rr_mx, rr_mn, rr_ab, rr_no, gd_t, bc_t, bc_f, gd_tt, bc_tt, bc_ff, or_true, true_or, and_true, true_and, Nat.reduceAdd, y1, p13, p14, p21, p22, a1, a2, b1, b2, mo_b_s e1]
  · simp (disch := omega) only [X7_clashes_L2, rr_p, rr_bp, rr_bb, rr_0, rr_lt, rr_blt, rr_le, rr_ble, rr_eq, rr_beq, rr_nl_n, rr_nl_s, rr_bnl_n, rr_bnl_s, rr_cond_t, rr_cond_f, rr_bcond_t, rr_bcond_f, rr_bon, rr_bcv, rr_cv, rr_g, rr_gr, rr_si, rr_sz, rr_sr, rr_al, rr_ld, rr_st, rr_rl, rr_rs, rr_ni, rr_nr, rr_z, rr_div, rr_rem, rr_lc, rr_mx, rr_mn, rr_ab, rr_no, gd_t, bc_t, bc_f, gd_tt, bc_tt, bc_ff, or_true, true_or, and_true, true_and, Nat.reduceAdd, y1]
theorem q7_clashMany {h : AH} {m : Nat} {s : SG} (hM : MI h m s) (ho : OKS s) {b u v : Int} (cb : 0 ≤ b ∧ b < s.2.1.length) (cu : 0 ≤ u ∧ u < s.2.1.length) (cv : 0 ≤ v ∧ v < s.2.1.length) : ∃ h', X7_clashMany m b u v h = some ((clN (dW (vn s.2.1 b.toNat).1 (vn s.2.1 u.toNat).1) (dW (vn s.2.1 b.toNat).1 (vn s.2.1 v.toNat).1) (dW (vn s.2.1 b.toNat).1 (vn s.2.1 u.toNat).1).length : Int), h') ∧ MI h' m s ∧ xW h' m (dW (vn s.2.1 b.toNat).1 (vn s.2.1 u.toNat).1) (dW (vn s.2.1 b.toNat).1 (vn s.2.1 v.toNat).1) := by
  obtain ⟨l1, l2, -⟩ := ho.2.1.2 b.toNat (by omega)
  obtain ⟨k1, k2, -⟩ := ho.2.1.2 u.toNat (by omega)
  obtain ⟨j1, j2, -⟩ := ho.2.1.2 v.toNat (by omega)
  have mT := hM.1.1
  obtain ⟨h1, e1, x1, f1⟩ := q7_layX (MI_rows hM ho cb cu) l2 k2 l1 k1
  have hM1 := MI_fr hM f1 (by omega)
  have mT1 := hM1.1.1
  obtain ⟨h2, e2, w2, -, -, f2⟩ := q7_layDifference (MI_rows hM1 ho cb cv) (wL_pL l2) (wL_pL j2) l1 j1
  have hM2 := MI_fr hM1 f2 (by omega)
  have mT2 := hM2.1.1
  have x2 := xM_fr x1 f2 (by omega)
  obtain ⟨p1, p2, p3, p4, p5⟩ := dW_f l2 k2
  obtain ⟨q1, q2, q3, q4, q5⟩ := dW_f l2 j2
  have hW : xW h2 m (dW (vn s.2.1 b.toNat).1 (vn s.2.1 u.toNat).1) (dW (vn s.2.1 b.toNat).1 (vn s.2.1 v.toNat).1) := ⟨hM2.1, x2, w2, ⟨by omega, by omega, by omega⟩, ⟨by omega, by omega, by omega⟩⟩
  have vP := OP_pV (dW_OP l2 k2 l1 k1 (b := 14) (by omega)) (by omega)
  have vQ := OP_pV (dW_OP l2 j2 l1 j1 (b := 14) (by omega)) (by omega)
  have f33 := x2.1
  generalize hPe : dW (vn s.2.1 b.toNat).1 (vn s.2.1 u.toNat).1 = P at *
  generalize hQe : dW (vn s.2.1 b.toNat).1 (vn s.2.1 v.toNat).1 = Q at *
  have hs := lp_seq (F := X7_clashMany_L18 m) (fun j : Nat => ((clN P Q j : Int), (j : Int))) (fun _ => h2) P.length (b := (clN P Q P.length : Int)) (hE := h2) ?_ ?_ mo_N (by rw [mo_N_v]; omega)
  · have hs : mo_lp mo_N (X7_clashMany_L18 m) (0, 0) h2 = _ := hs
    exact ⟨h2, by simp (disch := omega) only [X7_clashMany, rr_p, rr_bp, rr_bb, rr_0, rr_lt, rr_blt, rr_le, rr_ble, rr_eq, rr_beq, rr_nl_n, rr_nl_s, rr_bnl_n, rr_bnl_s, rr_cond_t, rr_cond_f, rr_bcond_t, rr_bcond_f, rr_bon, rr_bcv, rr_cv, rr_g, rr_gr, rr_si, rr_sz, rr_sr, rr_al, rr_ld, rr_st, rr_rl, rr_rs, rr_ni, rr_nr, rr_z, rr_div, rr_rem, rr_lc, rr_mx, rr_mn, rr_ab, rr_no, gd_t, bc_t, bc_f, gd_tt, bc_tt, bc_ff, or_true, true_or, and_true, true_and, Nat.reduceAdd, mo_b_s e1, mo_b_s e2, mo_b_s hs], hM2, hW⟩
  · intro j hj
    have e3 := q7_clashes hW vP vQ p5 q5 hj
    rw [clN_c]
    by_cases c : clk P Q j
    · rw [bc_t c] at e3 ⊢
      simp (disch := omega) only [X7_clashMany_L18, rr_p, rr_bp, rr_bb, rr_0, rr_lt, rr_blt, rr_le, rr_ble, rr_eq, rr_beq, rr_nl_n, rr_nl_s, rr_bnl_n, rr_bnl_s, rr_cond_t, rr_cond_f, rr_bcond_t, rr_bcond_f, rr_bon, rr_bcv, rr_cv, rr_g, rr_gr, rr_si, rr_sz, rr_sr, rr_al, rr_ld, rr_st, rr_rl, rr_rs, rr_ni, rr_nr, rr_z, rr_div, rr_rem, rr_lc, rr_mx, rr_mn, rr_ab, rr_no, gd_t, bc_t, bc_f, gd_tt, bc_tt, bc_ff, or_true, true_or, and_true, true_and, Nat.reduceAdd, f33, mo_b_s e3, Int.natCast_add, Int.natCast_one]
    · rw [bc_f c] at e3 ⊢
      simp (disch := omega) only [X7_clashMany_L18, rr_p, rr_bp, rr_bb, rr_0, rr_lt, rr_blt, rr_le, rr_ble, rr_eq, rr_beq, rr_nl_n, rr_nl_s, rr_bnl_n, rr_bnl_s, rr_cond_t, rr_cond_f, rr_bcond_t, rr_bcond_f, rr_bon, rr_bcv, rr_cv, rr_g, rr_gr, rr_si, rr_sz, rr_sr, rr_al, rr_ld, rr_st, rr_rl, rr_rs, rr_ni, rr_nr, rr_z, rr_div, rr_rem, rr_lc, rr_mx, rr_mn, rr_ab, rr_no, gd_t, bc_t, bc_f, gd_tt, bc_tt, bc_ff, or_true, true_or, and_true, true_and, Nat.reduceAdd, f33, mo_b_s e3, Int.natCast_add, Int.natCast_one]
  · simp (disch := omega) only [X7_clashMany_L18, rr_p, rr_bp, rr_bb, rr_0, rr_lt, rr_blt, rr_le, rr_ble, rr_eq, rr_beq, rr_nl_n, rr_nl_s, rr_bnl_n, rr_bnl_s, rr_cond_t, rr_cond_f, rr_bcond_t, rr_bcond_f, rr_bon, rr_bcv, rr_cv, rr_g, rr_gr, rr_si, rr_sz, rr_sr, rr_al, rr_ld, rr_st, rr_rl, rr_rs, rr_ni, rr_nr, rr_z, rr_div, rr_rem, rr_lc, rr_mx, rr_mn, rr_ab, rr_no, gd_t, bc_t, bc_f, gd_tt, bc_tt, bc_ff, or_true, true_or, and_true, true_and, Nat.reduceAdd, f33]
theorem q7_areVersions {h : AH} {m : Nat} {s : SG} (hM : MI h m s) (ho : OKS s) {b u v : Int} (hb : am_r b) (hu : am_r u) (hv : am_r v) : X7_areVersions m b u v h = some (br ((0 ≤ b ∧ b < s.2.1.length) ∧ (0 ≤ u ∧ u < s.2.1.length) ∧ (0 ≤ v ∧ v < s.2.1.length)) 1 0, h) := by
  have mT := hM.1.1
  have oV1 := ho.2.1.1
  have e0 := q7_isVersion hM oV1 hb
  have e1 := q7_isVersion hM oV1 hu
  have e2 := q7_isVersion hM oV1 hv
  by_cases cb : 0 ≤ b ∧ b < s.2.1.length
  · rw [bc_t cb] at e0
    by_cases cu : 0 ≤ u ∧ u < s.2.1.length
    · rw [bc_t cu] at e1
      by_cases cv : 0 ≤ v ∧ v < s.2.1.length
      · rw [bc_t cv] at e2
        rw [bc_t ⟨cb, cu, cv⟩]
        simp (disch := omega) only [X7_areVersions, rr_p, rr_bp, rr_bb, rr_0, rr_lt, rr_blt, rr_le, rr_ble, rr_eq, rr_beq, rr_nl_n, rr_nl_s, rr_bnl_n, rr_bnl_s, rr_cond_t, rr_cond_f, rr_bcond_t, rr_bcond_f, rr_bon, rr_bcv, rr_cv, rr_g, rr_gr, rr_si, rr_sz, rr_sr, rr_al, rr_ld, rr_st, rr_rl, rr_rs, rr_ni, rr_nr, rr_z, rr_div, rr_rem, rr_lc, rr_mx, rr_mn, rr_ab, rr_no, gd_t, bc_t, bc_f, gd_tt, bc_tt, bc_ff, or_true, true_or, and_true, true_and, Nat.reduceAdd, mo_b_s e0, mo_b_s e1, mo_b_s e2]
      · rw [bc_f cv] at e2
        rw [bc_f (fun z => cv z.2.2)]
        simp (disch := omega) only [X7_areVersions, rr_p, rr_bp, rr_bb, rr_0, rr_lt, rr_blt, rr_le, rr_ble, rr_eq, rr_beq, rr_nl_n, rr_nl_s, rr_bnl_n, rr_bnl_s, rr_cond_t, rr_cond_f, rr_bcond_t, rr_bcond_f, rr_bon, rr_bcv, rr_cv, rr_g, rr_gr, rr_si, rr_sz, rr_sr, rr_al, rr_ld, rr_st, rr_rl, rr_rs, rr_ni, rr_nr, rr_z, rr_div, rr_rem, rr_lc, rr_mx, rr_mn, rr_ab, rr_no, gd_t, bc_t, bc_f, gd_tt, bc_tt, bc_ff, or_true, true_or, and_true, true_and, Nat.reduceAdd, mo_b_s e0, mo_b_s e1, mo_b_s e2]
    · rw [bc_f cu] at e1
      rw [bc_f (fun z => cu z.2.1)]
      simp (disch := omega) only [X7_areVersions, rr_p, rr_bp, rr_bb, rr_0, rr_lt, rr_blt, rr_le, rr_ble, rr_eq, rr_beq, rr_nl_n, rr_nl_s, rr_bnl_n, rr_bnl_s, rr_cond_t, rr_cond_f, rr_bcond_t, rr_bcond_f, rr_bon, rr_bcv, rr_cv, rr_g, rr_gr, rr_si, rr_sz, rr_sr, rr_al, rr_ld, rr_st, rr_rl, rr_rs, rr_ni, rr_nr, rr_z, rr_div, rr_rem, rr_lc, rr_mx, rr_mn, rr_ab, rr_no, gd_t, bc_t, bc_f, gd_tt, bc_tt, bc_ff, or_true, true_or, and_true, true_and, Nat.reduceAdd, mo_b_s e0, mo_b_s e1]
  · rw [bc_f cb] at e0
    rw [bc_f (fun z => cb z.1)]
    simp (disch := omega) only [X7_areVersions, rr_p, rr_bp, rr_bb, rr_0, rr_lt, rr_blt, rr_le, rr_ble, rr_eq, rr_beq, rr_nl_n, rr_nl_s, rr_bnl_n, rr_bnl_s, rr_cond_t, rr_cond_f, rr_bcond_t, rr_bcond_f, rr_bon, rr_bcv, rr_cv, rr_g, rr_gr, rr_si, rr_sz, rr_sr, rr_al, rr_ld, rr_st, rr_rl, rr_rs, rr_ni, rr_nr, rr_z, rr_div, rr_rem, rr_lc, rr_mx, rr_mn, rr_ab, rr_no, gd_t, bc_t, bc_f, gd_tt, bc_tt, bc_ff, or_true, true_or, and_true, true_and, Nat.reduceAdd, mo_b_s e0]
theorem c_clash (b u v : Int) (hb : am_r b) (hu : am_r u) (hv : am_r v) (s : SG) (ho : OKS s) : CJ (fun x => X6_clash x b u v) (fun m => X7_clash m b u v) s := by
  by_cases c : (0 ≤ b ∧ b < s.2.1.length) ∧ (0 ≤ u ∧ u < s.2.1.length) ∧ (0 ≤ v ∧ v < s.2.1.length)
  · obtain ⟨cb, cu, cv⟩ := id c
    obtain ⟨l1, l2, -⟩ := ho.2.1.2 b.toNat (by omega)
    obtain ⟨k1, k2, -⟩ := ho.2.1.2 u.toNat (by omega)
    obtain ⟨j1, j2, -⟩ := ho.2.1.2 v.toNat (by omega)
    have vP := OP_pV (dW_OP l2 k2 l1 k1 (b := 14) (by omega)) (by omega)
    have oQ := dW_OP l2 j2 l1 j1 (b := 14) (by omega)
    have vQ := OP_pV oQ (by omega)
    refine ⟨(clN (dW (vn s.2.1 b.toNat).1 (vn s.2.1 u.toNat).1) (dW (vn s.2.1 b.toNat).1 (vn s.2.1 v.toNat).1) (dW (vn s.2.1 b.toNat).1 (vn s.2.1 u.toNat).1).length : Int), s, ho, ?_, ?_⟩
    · intro x h hK
      have tx := hK.2.2.2.choose_spec.choose_spec.1.1
      obtain ⟨h1, e1, hK1, r1, r2, -⟩ := k_both ho hK hb hu hv cb cu cv
      obtain ⟨-, -, -, A, B, hB⟩ := id hK1
      have tx1 := hB.1.1
      have e2 := q6_clashes tx1 hB.1.2.1.2.2.2.2.2.2.1 hB.1.2.1.2.2.2.2.2.2.2.1 r1 r2 vP vQ oQ.1
      exact ⟨h1, by simp (disch := omega) only [X6_clash, rr_p, rr_bp, rr_bb, rr_0, rr_lt, rr_blt, rr_le, rr_ble, rr_eq, rr_beq, rr_nl_n, rr_nl_s, rr_bnl_n, rr_bnl_s, rr_cond_t, rr_cond_f, rr_bcond_t, rr_bcond_f, rr_bon, rr_bcv, rr_cv, rr_g, rr_gr, rr_si, rr_sz, rr_sr, rr_al, rr_ld, rr_st, rr_rl, rr_rs, rr_ni, rr_nr, rr_z, rr_div, rr_rem, rr_lc, rr_mx, rr_mn, rr_ab, rr_no, gd_t, bc_t, bc_f, gd_tt, bc_tt, bc_ff, or_true, true_or, and_true, true_and, Nat.reduceAdd, mo_b_s e1, mo_b_s e2], hK1⟩
    · intro m h hM
      have mT := hM.1.1
      have e0 := q7_areVersions hM ho hb hu hv
      rw [bc_t c] at e0
      obtain ⟨h1, e1, hM1, -⟩ := q7_clashMany hM ho cb cu cv
      exact ⟨h1, by simp (disch := omega) only [X7_clash, rr_p, rr_bp, rr_bb, rr_0, rr_lt, rr_blt, rr_le, rr_ble, rr_eq, rr_beq, rr_nl_n, rr_nl_s, rr_bnl_n, rr_bnl_s, rr_cond_t, rr_cond_f, rr_bcond_t, rr_bcond_f, rr_bon, rr_bcv, rr_cv, rr_g, rr_gr, rr_si, rr_sz, rr_sr, rr_al, rr_ld, rr_st, rr_rl, rr_rs, rr_ni, rr_nr, rr_z, rr_div, rr_rem, rr_lc, rr_mx, rr_mn, rr_ab, rr_no, gd_t, bc_t, bc_f, gd_tt, bc_tt, bc_ff, or_true, true_or, and_true, true_and, Nat.reduceAdd, mo_b_s e0, mo_b_s e1], hM1⟩
  · refine CJ.same (-101) ho ?_ ?_
    · intro x h hK
      have tx := hK.2.2.2.choose_spec.choose_spec.1.1
      have e1 := k_both_n ho hK hb hu hv c
      simp (disch := omega) only [X6_clash, rr_p, rr_bp, rr_bb, rr_0, rr_lt, rr_blt, rr_le, rr_ble, rr_eq, rr_beq, rr_nl_n, rr_nl_s, rr_bnl_n, rr_bnl_s, rr_cond_t, rr_cond_f, rr_bcond_t, rr_bcond_f, rr_bon, rr_bcv, rr_cv, rr_g, rr_gr, rr_si, rr_sz, rr_sr, rr_al, rr_ld, rr_st, rr_rl, rr_rs, rr_ni, rr_nr, rr_z, rr_div, rr_rem, rr_lc, rr_mx, rr_mn, rr_ab, rr_no, gd_t, bc_t, bc_f, gd_tt, bc_tt, bc_ff, or_true, true_or, and_true, true_and, Nat.reduceAdd, mo_b_s e1]
    · intro m h hM
      have mT := hM.1.1
      have e0 := q7_areVersions hM ho hb hu hv
      rw [bc_f c] at e0
      simp (disch := omega) only [X7_clash, rr_p, rr_bp, rr_bb, rr_0, rr_lt, rr_blt, rr_le, rr_ble, rr_eq, rr_beq, rr_nl_n, rr_nl_s, rr_bnl_n, rr_bnl_s, rr_cond_t, rr_cond_f, rr_bcond_t, rr_bcond_f, rr_bon, rr_bcv, rr_cv, rr_g, rr_gr, rr_si, rr_sz, rr_sr, rr_al, rr_ld, rr_st, rr_rl, rr_rs, rr_ni, rr_nr, rr_z, rr_div, rr_rem, rr_lc, rr_mx, rr_mn, rr_ab, rr_no, gd_t, bc_t, bc_f, gd_tt, bc_tt, bc_ff, or_true, true_or, and_true, true_and, Nat.reduceAdd, mo_b_s e0]
