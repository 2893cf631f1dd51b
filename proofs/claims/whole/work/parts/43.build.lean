theorem hgs_snoc {W : List HK} {q : HK} : hgs (W ++ [q]) (W.length + 1) = hgs W W.length + q.2.1.length := by
  rw [hgs_s (by simp), hgs_app (Nat.le_refl _), hk_last]
theorem hcs_snoc {W : List HK} {q : HK} : hcs (W ++ [q]) (W.length + 1) = hcs W W.length + q.2.2.length := by
  rw [hcs_s (by simp), hcs_app (Nat.le_refl _), hk_last]
theorem q3_clear {h : AH} {a mh ml : Nat} {W : List HK} (hP : kP h a mh ml W) : ∃ h', X3_clear a h = some ((), h') ∧ kP h' a mh ml [] ∧ FRM h h' a (a + 6) := by
  have hg := kP_gf hP (i := 0) (by omega) (by omega)
  have hc := kP_cf hP (i := 0) (by omega) (by omega)
  obtain ⟨⟨⟨t0, t1, t2, t3, t4, t5⟩, ⟨p0, p1, p2, p3, p4⟩, ⟨n1, n2, n3, n4, n5⟩, m1, m2⟩, f5, ⟨l1, l2, l3⟩, c1, c2, c3, c4, c5⟩ := id hP
  refine ⟨ah_sF h a 5 0, by simp (disch := omega) only [X3_clear, rr_p, rr_bp, rr_bb, rr_0, rr_lt, rr_blt, rr_le, rr_ble, rr_eq, rr_beq, rr_nl_n, rr_nl_s, rr_bnl_n, rr_bnl_s, rr_cond_t, rr_cond_f, rr_bcond_t, rr_bcond_f, rr_bon, rr_bcv, rr_cv, rr_g, rr_gr, rr_si, rr_sz, rr_sr, rr_al, rr_ld, rr_st, rr_rl, rr_rs, rr_ni, rr_nr, rr_z, rr_div, rr_rem, rr_lc, rr_mx, rr_mn, rr_ab, rr_no, gd_t, bc_t, bc_f, gd_tt, bc_tt, bc_ff, or_true, true_or, and_true, true_and, Nat.reduceAdd], ⟨kPs_fr hP.1 (FRM.sF (lo := a) (hi := a + 6) (by omega) (by omega)), hl_F_sF_s, ⟨by simp, by simp [fG], by simp [fC]⟩, ?_, ?_, ?_, ?_, ?_⟩, FRM.sF (by omega) (by omega)⟩
  · intro i hi; simp at hi
  · intro i hi
    have : i = 0 := by simpa using hi
    subst this; exact hg
  · intro i hi
    have : i = 0 := by simpa using hi
    subst this; exact hc
  · intro j hj; simp [fG] at hj
  · intro j hj; simp [fC] at hj
theorem q3_begin {h : AH} {a mh ml : Nat} {W : List HK} (hP : kP h a mh ml W) {p : Int} (hW : W.length < mh) : ∃ h', X3_begin a p h = some ((), h') ∧ kP h' a mh ml (W ++ [(p, [], [])]) ∧ FRM h h' a (a + 6) := by
  have hg := kP_gf hP (i := (W.length : Int)) (by omega) (by omega)
  have hc := kP_cf hP (i := (W.length : Int)) (by omega) (by omega)
  rw [show ((W.length : Nat) : Int).toNat = W.length by omega] at hg hc
  have eG : fG (W ++ [(p, [], [])]) = fG W := by rw [fG_app, fG_one]; simp
  have eC : fC (W ++ [(p, [], [])]) = fC W := by rw [fC_app, fC_one]; simp
  have hF : FRM h (ah_sF (ah_sI (ah_sI (ah_sI h (a + 1) (W.length : Int) p) (a + 2) ((W.length : Int) + 1) (hgs W W.length : Int)) (a + 3) ((W.length : Int) + 1) (hcs W W.length : Int)) a 5 ((W.length : Int) + 1)) a (a + 6) :=
    FRM.tr (FRM.tr (FRM.tr (FRM.sI (lo := a) (hi := a + 6) (by omega) (by omega)) (FRM.sI (lo := a) (hi := a + 6) (by omega) (by omega)) (Nat.le_refl _) (Nat.le_refl _) (Nat.le_refl _) (Nat.le_refl _)) (FRM.sI (lo := a) (hi := a + 6) (by omega) (by omega)) (Nat.le_refl _) (Nat.le_refl _) (Nat.le_refl _) (Nat.le_refl _)) (FRM.sF (lo := a) (hi := a + 6) (by omega) (by omega)) (Nat.le_refl _) (Nat.le_refl _) (Nat.le_refl _) (Nat.le_refl _)
  obtain ⟨⟨⟨t0, t1, t2, t3, t4, t5⟩, ⟨p0, p1, p2, p3, p4⟩, ⟨n1, n2, n3, n4, n5⟩, m1, m2⟩, f5, ⟨l1, l2, l3⟩, c1, c2, c3, c4, c5⟩ := id hP
  refine ⟨_, ?_, ⟨kPs_fr hP.1 hF, ?_, ⟨by simp; omega, by rw [eG]; exact l2, by rw [eC]; exact l3⟩, ?_, ?_, ?_, ?_, ?_⟩, hF⟩
  · simp (disch := omega) only [X3_begin, rr_p, rr_bp, rr_bb, rr_0, rr_lt, rr_blt, rr_le, rr_ble, rr_eq, rr_beq, rr_nl_n, rr_nl_s, rr_bnl_n, rr_bnl_s, rr_cond_t, rr_cond_f, rr_bcond_t, rr_bcond_f, rr_bon, rr_bcv, rr_cv, rr_g, rr_gr, rr_si, rr_sz, rr_sr, rr_al, rr_ld, rr_st, rr_rl, rr_rs, rr_ni, rr_nr, rr_z, rr_div, rr_rem, rr_lc, rr_mx, rr_mn, rr_ab, rr_no, gd_t, bc_t, bc_f, gd_tt, bc_tt, bc_ff, or_true, true_or, and_true, true_and, Nat.reduceAdd, hl_T_sF, hl_N_sF, hl_P_sF, hl_I_sF, hl_R_sF, hl_S_sF, hl_T_sP, hl_N_sP, hl_F_sP, hl_I_sP, hl_R_sP, hl_S_sP, hl_T_sI, hl_N_sI, hl_F_sI, hl_P_sI, hl_R_sI, hl_S_sI, hl_T_sR, hl_N_sR, hl_F_sR, hl_P_sR, hl_I_sR, hl_S_sR, hl_T_wI, hl_N_wI, hl_F_wI, hl_P_wI, hl_R_wI, hl_S_wI, hl_F_sF_s, hl_F_sF_n, hl_P_sP_s, hl_P_sP_n, hl_I_sI_s, hl_I_sI_n, hl_R_sR_s, hl_R_sR_n, hl_I_wI_s, hl_I_wI_n, f5, p0, p1, p2, hg, hc]
  · rw [hl_F_sF_s]; simp
  · intro i hi
    have hi : i < W.length + 1 := by simpa using hi
    by_cases hin : i = W.length
    · subst hin
      rw [hk_last]
      simp (disch := omega) only [hl_T_sF, hl_N_sF, hl_P_sF, hl_I_sF, hl_R_sF, hl_S_sF, hl_T_sP, hl_N_sP, hl_F_sP, hl_I_sP, hl_R_sP, hl_S_sP, hl_T_sI, hl_N_sI, hl_F_sI, hl_P_sI, hl_R_sI, hl_S_sI, hl_T_sR, hl_N_sR, hl_F_sR, hl_P_sR, hl_I_sR, hl_S_sR, hl_T_wI, hl_N_wI, hl_F_wI, hl_P_wI, hl_R_wI, hl_S_wI, hl_F_sF_s, hl_F_sF_n, hl_P_sP_s, hl_P_sP_n, hl_I_sI_s, hl_I_sI_n, hl_R_sR_s, hl_R_sR_n, hl_I_wI_s, hl_I_wI_n]
    · rw [hk_app_l (by omega)]
      simp (disch := omega) only [hl_T_sF, hl_N_sF, hl_P_sF, hl_I_sF, hl_R_sF, hl_S_sF, hl_T_sP, hl_N_sP, hl_F_sP, hl_I_sP, hl_R_sP, hl_S_sP, hl_T_sI, hl_N_sI, hl_F_sI, hl_P_sI, hl_R_sI, hl_S_sI, hl_T_sR, hl_N_sR, hl_F_sR, hl_P_sR, hl_I_sR, hl_S_sR, hl_T_wI, hl_N_wI, hl_F_wI, hl_P_wI, hl_R_wI, hl_S_wI, hl_F_sF_s, hl_F_sF_n, hl_P_sP_s, hl_P_sP_n, hl_I_sI_s, hl_I_sI_n, hl_R_sR_s, hl_R_sR_n, hl_I_wI_s, hl_I_wI_n]
      exact c1 i (by omega)
  · intro i hi
    have hi : i ≤ W.length + 1 := by simpa using hi
    by_cases hin : i = W.length + 1
    · subst hin
      rw [hgs_snoc]
      simp (disch := omega) only [hl_T_sF, hl_N_sF, hl_P_sF, hl_I_sF, hl_R_sF, hl_S_sF, hl_T_sP, hl_N_sP, hl_F_sP, hl_I_sP, hl_R_sP, hl_S_sP, hl_T_sI, hl_N_sI, hl_F_sI, hl_P_sI, hl_R_sI, hl_S_sI, hl_T_sR, hl_N_sR, hl_F_sR, hl_P_sR, hl_I_sR, hl_S_sR, hl_T_wI, hl_N_wI, hl_F_wI, hl_P_wI, hl_R_wI, hl_S_wI, hl_F_sF_s, hl_F_sF_n, hl_P_sP_s, hl_P_sP_n, hl_I_sI_s, hl_I_sI_n, hl_R_sR_s, hl_R_sR_n, hl_I_wI_s, hl_I_wI_n, Int.natCast_add, Int.cast_ofNat_Int, List.length_nil, Nat.add_zero]
    · rw [hgs_app (by omega)]
      simp (disch := omega) only [hl_T_sF, hl_N_sF, hl_P_sF, hl_I_sF, hl_R_sF, hl_S_sF, hl_T_sP, hl_N_sP, hl_F_sP, hl_I_sP, hl_R_sP, hl_S_sP, hl_T_sI, hl_N_sI, hl_F_sI, hl_P_sI, hl_R_sI, hl_S_sI, hl_T_sR, hl_N_sR, hl_F_sR, hl_P_sR, hl_I_sR, hl_S_sR, hl_T_wI, hl_N_wI, hl_F_wI, hl_P_wI, hl_R_wI, hl_S_wI, hl_F_sF_s, hl_F_sF_n, hl_P_sP_s, hl_P_sP_n, hl_I_sI_s, hl_I_sI_n, hl_R_sR_s, hl_R_sR_n, hl_I_wI_s, hl_I_wI_n]
      exact c2 i (by omega)
  · intro i hi
    have hi : i ≤ W.length + 1 := by simpa using hi
    by_cases hin : i = W.length + 1
    · subst hin
      rw [hcs_snoc]
      simp (disch := omega) only [hl_T_sF, hl_N_sF, hl_P_sF, hl_I_sF, hl_R_sF, hl_S_sF, hl_T_sP, hl_N_sP, hl_F_sP, hl_I_sP, hl_R_sP, hl_S_sP, hl_T_sI, hl_N_sI, hl_F_sI, hl_P_sI, hl_R_sI, hl_S_sI, hl_T_sR, hl_N_sR, hl_F_sR, hl_P_sR, hl_I_sR, hl_S_sR, hl_T_wI, hl_N_wI, hl_F_wI, hl_P_wI, hl_R_wI, hl_S_wI, hl_F_sF_s, hl_F_sF_n, hl_P_sP_s, hl_P_sP_n, hl_I_sI_s, hl_I_sI_n, hl_R_sR_s, hl_R_sR_n, hl_I_wI_s, hl_I_wI_n, Int.natCast_add, Int.cast_ofNat_Int, List.length_nil, Nat.add_zero]
    · rw [hcs_app (by omega)]
      simp (disch := omega) only [hl_T_sF, hl_N_sF, hl_P_sF, hl_I_sF, hl_R_sF, hl_S_sF, hl_T_sP, hl_N_sP, hl_F_sP, hl_I_sP, hl_R_sP, hl_S_sP, hl_T_sI, hl_N_sI, hl_F_sI, hl_P_sI, hl_R_sI, hl_S_sI, hl_T_sR, hl_N_sR, hl_F_sR, hl_P_sR, hl_I_sR, hl_S_sR, hl_T_wI, hl_N_wI, hl_F_wI, hl_P_wI, hl_R_wI, hl_S_wI, hl_F_sF_s, hl_F_sF_n, hl_P_sP_s, hl_P_sP_n, hl_I_sI_s, hl_I_sI_n, hl_R_sR_s, hl_R_sR_n, hl_I_wI_s, hl_I_wI_n]
      exact c3 i (by omega)
  · rw [eG]; intro j hj
    simp (disch := omega) only [hl_T_sF, hl_N_sF, hl_P_sF, hl_I_sF, hl_R_sF, hl_S_sF, hl_T_sP, hl_N_sP, hl_F_sP, hl_I_sP, hl_R_sP, hl_S_sP, hl_T_sI, hl_N_sI, hl_F_sI, hl_P_sI, hl_R_sI, hl_S_sI, hl_T_sR, hl_N_sR, hl_F_sR, hl_P_sR, hl_I_sR, hl_S_sR, hl_T_wI, hl_N_wI, hl_F_wI, hl_P_wI, hl_R_wI, hl_S_wI, hl_F_sF_s, hl_F_sF_n, hl_P_sP_s, hl_P_sP_n, hl_I_sI_s, hl_I_sI_n, hl_R_sR_s, hl_R_sR_n, hl_I_wI_s, hl_I_wI_n]
    exact c4 j hj
  · rw [eC]; intro j hj
    simp (disch := omega) only [hl_T_sF, hl_N_sF, hl_P_sF, hl_I_sF, hl_R_sF, hl_S_sF, hl_T_sP, hl_N_sP, hl_F_sP, hl_I_sP, hl_R_sP, hl_S_sP, hl_T_sI, hl_N_sI, hl_F_sI, hl_P_sI, hl_R_sI, hl_S_sI, hl_T_sR, hl_N_sR, hl_F_sR, hl_P_sR, hl_I_sR, hl_S_sR, hl_T_wI, hl_N_wI, hl_F_wI, hl_P_wI, hl_R_wI, hl_S_wI, hl_F_sF_s, hl_F_sF_n, hl_P_sP_s, hl_P_sP_n, hl_I_sI_s, hl_I_sI_n, hl_R_sR_s, hl_R_sR_n, hl_I_wI_s, hl_I_wI_n]
    exact c5 j hj
theorem q3_addGoing {h : AH} {a mh ml : Nat} {W : List HK} {p : Int} {g c : List Int} (hP : kP h a mh ml (W ++ [(p, g, c)])) {v : Int} (hl : (fG W).length + g.length < ml) : ∃ h', X3_addGoing a v h = some ((), h') ∧ kP h' a mh ml (W ++ [(p, g ++ [v], c)]) ∧ FRM h h' a (a + 6) := by
  have hlen : (W ++ [(p, g, c)]).length = W.length + 1 := by simp
  have hg := kP_gf hP (i := ((W.length + 1 : Nat) : Int)) (by omega) (by omega)
  rw [show ((W.length + 1 : Nat) : Int).toNat = W.length + 1 by omega, hgs_snoc, hgs_all] at hg
  have eG : fG (W ++ [(p, g ++ [v], c)]) = fG (W ++ [(p, g, c)]) ++ [v] := by simp [fG_app, fG_one]
  have eG2 : (fG (W ++ [(p, g, c)])).length = (fG W).length + g.length := by simp [fG_app, fG_one]
  have eC : fC (W ++ [(p, g ++ [v], c)]) = fC (W ++ [(p, g, c)]) := by simp [fC_app, fC_one]
  have hF : FRM h (ah_sI (ah_sI h (a + 4) (((fG W).length + g.length : Nat) : Int) v) (a + 2) ((W.length + 1 : Nat) : Int) ((((fG W).length + g.length : Nat) : Int) + 1)) a (a + 6) :=
    FRM.tr (FRM.sI (lo := a) (hi := a + 6) (by omega) (by omega)) (FRM.sI (lo := a) (hi := a + 6) (by omega) (by omega)) (Nat.le_refl _) (Nat.le_refl _) (Nat.le_refl _) (Nat.le_refl _)
  obtain ⟨⟨⟨t0, t1, t2, t3, t4, t5⟩, ⟨p0, p1, p2, p3, p4⟩, ⟨n1, n2, n3, n4, n5⟩, m1, m2⟩, f5, ⟨l1, l2, l3⟩, c1, c2, c3, c4, c5⟩ := id hP
  rw [hlen] at f5 l1 c1 c2 c3
  refine ⟨_, ?_, ⟨kPs_fr hP.1 hF, ?_, ⟨by simp; omega, by rw [eG]; simp; omega, by rw [eC]; exact l3⟩, ?_, ?_, ?_, ?_, ?_⟩, hF⟩
  · simp (disch := omega) only [X3_addGoing, X3_addLine, rr_p, rr_bp, rr_bb, rr_0, rr_lt, rr_blt, rr_le, rr_ble, rr_eq, rr_beq, rr_nl_n, rr_nl_s, rr_bnl_n, rr_bnl_s, rr_cond_t, rr_cond_f, rr_bcond_t, rr_bcond_f, rr_bon, rr_bcv, rr_cv, rr_g, rr_gr, rr_si, rr_sz, rr_sr, rr_al, rr_ld, rr_st, rr_rl, rr_rs, rr_ni, rr_nr, rr_z, rr_div, rr_rem, rr_lc, rr_mx, rr_mn, rr_ab, rr_no, gd_t, bc_t, bc_f, gd_tt, bc_tt, bc_ff, or_true, true_or, and_true, true_and, Nat.reduceAdd, hl_T_sF, hl_N_sF, hl_P_sF, hl_I_sF, hl_R_sF, hl_S_sF, hl_T_sP, hl_N_sP, hl_F_sP, hl_I_sP, hl_R_sP, hl_S_sP, hl_T_sI, hl_N_sI, hl_F_sI, hl_P_sI, hl_R_sI, hl_S_sI, hl_T_sR, hl_N_sR, hl_F_sR, hl_P_sR, hl_I_sR, hl_S_sR, hl_T_wI, hl_N_wI, hl_F_wI, hl_P_wI, hl_R_wI, hl_S_wI, hl_F_sF_s, hl_F_sF_n, hl_P_sP_s, hl_P_sP_n, hl_I_sI_s, hl_I_sI_n, hl_R_sR_s, hl_R_sR_n, hl_I_wI_s, hl_I_wI_n, f5, p0, p1, p2, p3, hg]
  · simp (disch := omega) only [hl_T_sF, hl_N_sF, hl_P_sF, hl_I_sF, hl_R_sF, hl_S_sF, hl_T_sP, hl_N_sP, hl_F_sP, hl_I_sP, hl_R_sP, hl_S_sP, hl_T_sI, hl_N_sI, hl_F_sI, hl_P_sI, hl_R_sI, hl_S_sI, hl_T_sR, hl_N_sR, hl_F_sR, hl_P_sR, hl_I_sR, hl_S_sR, hl_T_wI, hl_N_wI, hl_F_wI, hl_P_wI, hl_R_wI, hl_S_wI, hl_F_sF_s, hl_F_sF_n, hl_P_sP_s, hl_P_sP_n, hl_I_sI_s, hl_I_sI_n, hl_R_sR_s, hl_R_sR_n, hl_I_wI_s, hl_I_wI_n, f5]; simp
  · intro i hi
    have hi : i < W.length + 1 := by simpa using hi
    have := c1 i hi
    simp (disch := omega) only [hl_T_sF, hl_N_sF, hl_P_sF, hl_I_sF, hl_R_sF, hl_S_sF, hl_T_sP, hl_N_sP, hl_F_sP, hl_I_sP, hl_R_sP, hl_S_sP, hl_T_sI, hl_N_sI, hl_F_sI, hl_P_sI, hl_R_sI, hl_S_sI, hl_T_sR, hl_N_sR, hl_F_sR, hl_P_sR, hl_I_sR, hl_S_sR, hl_T_wI, hl_N_wI, hl_F_wI, hl_P_wI, hl_R_wI, hl_S_wI, hl_F_sF_s, hl_F_sF_n, hl_P_sP_s, hl_P_sP_n, hl_I_sI_s, hl_I_sI_n, hl_R_sR_s, hl_R_sR_n, hl_I_wI_s, hl_I_wI_n]
    rw [this]
    by_cases hin : i = W.length
    · subst hin; rw [hk_last, hk_last]
    · rw [hk_app_l (by omega), hk_app_l (by omega)]
  · intro i hi
    have hi : i ≤ W.length + 1 := by simpa using hi
    by_cases hin : i = W.length + 1
    · subst hin
      rw [hgs_snoc, hgs_all]
      simp (disch := omega) only [hl_T_sF, hl_N_sF, hl_P_sF, hl_I_sF, hl_R_sF, hl_S_sF, hl_T_sP, hl_N_sP, hl_F_sP, hl_I_sP, hl_R_sP, hl_S_sP, hl_T_sI, hl_N_sI, hl_F_sI, hl_P_sI, hl_R_sI, hl_S_sI, hl_T_sR, hl_N_sR, hl_F_sR, hl_P_sR, hl_I_sR, hl_S_sR, hl_T_wI, hl_N_wI, hl_F_wI, hl_P_wI, hl_R_wI, hl_S_wI, hl_F_sF_s, hl_F_sF_n, hl_P_sP_s, hl_P_sP_n, hl_I_sI_s, hl_I_sI_n, hl_R_sR_s, hl_R_sR_n, hl_I_wI_s, hl_I_wI_n]
      simp; omega
    · have := c2 i hi
      rw [hgs_app (by omega)] at this ⊢
      simp (disch := omega) only [hl_T_sF, hl_N_sF, hl_P_sF, hl_I_sF, hl_R_sF, hl_S_sF, hl_T_sP, hl_N_sP, hl_F_sP, hl_I_sP, hl_R_sP, hl_S_sP, hl_T_sI, hl_N_sI, hl_F_sI, hl_P_sI, hl_R_sI, hl_S_sI, hl_T_sR, hl_N_sR, hl_F_sR, hl_P_sR, hl_I_sR, hl_S_sR, hl_T_wI, hl_N_wI, hl_F_wI, hl_P_wI, hl_R_wI, hl_S_wI, hl_F_sF_s, hl_F_sF_n, hl_P_sP_s, hl_P_sP_n, hl_I_sI_s, hl_I_sI_n, hl_R_sR_s, hl_R_sR_n, hl_I_wI_s, hl_I_wI_n]
      exact this
  · intro i hi
    have hi : i ≤ W.length + 1 := by simpa using hi
    have := c3 i hi
    simp (disch := omega) only [hl_T_sF, hl_N_sF, hl_P_sF, hl_I_sF, hl_R_sF, hl_S_sF, hl_T_sP, hl_N_sP, hl_F_sP, hl_I_sP, hl_R_sP, hl_S_sP, hl_T_sI, hl_N_sI, hl_F_sI, hl_P_sI, hl_R_sI, hl_S_sI, hl_T_sR, hl_N_sR, hl_F_sR, hl_P_sR, hl_I_sR, hl_S_sR, hl_T_wI, hl_N_wI, hl_F_wI, hl_P_wI, hl_R_wI, hl_S_wI, hl_F_sF_s, hl_F_sF_n, hl_P_sP_s, hl_P_sP_n, hl_I_sI_s, hl_I_sI_n, hl_R_sR_s, hl_R_sR_n, hl_I_wI_s, hl_I_wI_n]
    rw [this]
    by_cases hin : i = W.length + 1
    · subst hin; rw [hcs_snoc, hcs_snoc]
    · rw [hcs_app (by omega), hcs_app (by omega)]
  · rw [eG]; intro j hj
    have hj : j < (fG W).length + g.length + 1 := by simp [fG_app, fG_one] at hj; omega
    by_cases hjn : j = (fG W).length + g.length
    · subst hjn
      simp (disch := omega) only [hl_T_sF, hl_N_sF, hl_P_sF, hl_I_sF, hl_R_sF, hl_S_sF, hl_T_sP, hl_N_sP, hl_F_sP, hl_I_sP, hl_R_sP, hl_S_sP, hl_T_sI, hl_N_sI, hl_F_sI, hl_P_sI, hl_R_sI, hl_S_sI, hl_T_sR, hl_N_sR, hl_F_sR, hl_P_sR, hl_I_sR, hl_S_sR, hl_T_wI, hl_N_wI, hl_F_wI, hl_P_wI, hl_R_wI, hl_S_wI, hl_F_sF_s, hl_F_sF_n, hl_P_sP_s, hl_P_sP_n, hl_I_sI_s, hl_I_sI_n, hl_R_sR_s, hl_R_sR_n, hl_I_wI_s, hl_I_wI_n]
      simp only [List.getD_eq_getElem?_getD]
      rw [List.getElem?_append_right (by omega), eG2, Nat.sub_self]; rfl
    · have := c4 j (by omega)
      simp (disch := omega) only [hl_T_sF, hl_N_sF, hl_P_sF, hl_I_sF, hl_R_sF, hl_S_sF, hl_T_sP, hl_N_sP, hl_F_sP, hl_I_sP, hl_R_sP, hl_S_sP, hl_T_sI, hl_N_sI, hl_F_sI, hl_P_sI, hl_R_sI, hl_S_sI, hl_T_sR, hl_N_sR, hl_F_sR, hl_P_sR, hl_I_sR, hl_S_sR, hl_T_wI, hl_N_wI, hl_F_wI, hl_P_wI, hl_R_wI, hl_S_wI, hl_F_sF_s, hl_F_sF_n, hl_P_sP_s, hl_P_sP_n, hl_I_sI_s, hl_I_sI_n, hl_R_sR_s, hl_R_sR_n, hl_I_wI_s, hl_I_wI_n]
      rw [this]
      simp only [List.getD_eq_getElem?_getD]
      rw [List.getElem?_append_left (by omega)]
  · rw [eC]; intro j hj
    simp (disch := omega) only [hl_T_sF, hl_N_sF, hl_P_sF, hl_I_sF, hl_R_sF, hl_S_sF, hl_T_sP, hl_N_sP, hl_F_sP, hl_I_sP, hl_R_sP, hl_S_sP, hl_T_sI, hl_N_sI, hl_F_sI, hl_P_sI, hl_R_sI, hl_S_sI, hl_T_sR, hl_N_sR, hl_F_sR, hl_P_sR, hl_I_sR, hl_S_sR, hl_T_wI, hl_N_wI, hl_F_wI, hl_P_wI, hl_R_wI, hl_S_wI, hl_F_sF_s, hl_F_sF_n, hl_P_sP_s, hl_P_sP_n, hl_I_sI_s, hl_I_sI_n, hl_R_sR_s, hl_R_sR_n, hl_I_wI_s, hl_I_wI_n]
    exact c5 j hj
theorem q3_addComing {h : AH} {a mh ml : Nat} {W : List HK} {p : Int} {g c : List Int} (hP : kP h a mh ml (W ++ [(p, g, c)])) {v : Int} (hl : (fC W).length + c.length < ml) : ∃ h', X3_addComing a v h = some ((), h') ∧ kP h' a mh ml (W ++ [(p, g, c ++ [v])]) ∧ FRM h h' a (a + 6) := by
  have hlen : (W ++ [(p, g, c)]).length = W.length + 1 := by simp
  have hg := kP_cf hP (i := ((W.length + 1 : Nat) : Int)) (by omega) (by omega)
  rw [show ((W.length + 1 : Nat) : Int).toNat = W.length + 1 by omega, hcs_snoc, hcs_all] at hg
  have eG : fC (W ++ [(p, g, c ++ [v])]) = fC (W ++ [(p, g, c)]) ++ [v] := by simp [fC_app, fC_one]
  have eG2 : (fC (W ++ [(p, g, c)])).length = (fC W).length + c.length := by simp [fC_app, fC_one]
  have eC : fG (W ++ [(p, g, c ++ [v])]) = fG (W ++ [(p, g, c)]) := by simp [fG_app, fG_one]
  have hF : FRM h (ah_sI (ah_sI h (a + 5) (((fC W).length + c.length : Nat) : Int) v) (a + 3) ((W.length + 1 : Nat) : Int) ((((fC W).length + c.length : Nat) : Int) + 1)) a (a + 6) :=
    FRM.tr (FRM.sI (lo := a) (hi := a + 6) (by omega) (by omega)) (FRM.sI (lo := a) (hi := a + 6) (by omega) (by omega)) (Nat.le_refl _) (Nat.le_refl _) (Nat.le_refl _) (Nat.le_refl _)
  obtain ⟨⟨⟨t0, t1, t2, t3, t4, t5⟩, ⟨p0, p1, p2, p3, p4⟩, ⟨n1, n2, n3, n4, n5⟩, m1, m2⟩, f5, ⟨l1, l2, l3⟩, c1, c2, c3, c4, c5⟩ := id hP
  rw [hlen] at f5 l1 c1 c2 c3
  refine ⟨_, ?_, ⟨kPs_fr hP.1 hF, ?_, ⟨by simp; omega, by rw [eC]; exact l2, by rw [eG]; simp; omega⟩, ?_, ?_, ?_, ?_, ?_⟩, hF⟩
  · simp (disch := omega) only [X3_addComing, X3_addLine, rr_p, rr_bp, rr_bb, rr_0, rr_lt, rr_blt, rr_le, rr_ble, rr_eq, rr_beq, rr_nl_n, rr_nl_s, rr_bnl_n, rr_bnl_s, rr_cond_t, rr_cond_f, rr_bcond_t, rr_bcond_f, rr_bon, rr_bcv, rr_cv, rr_g, rr_gr, rr_si, rr_sz, rr_sr, rr_al, rr_ld, rr_st, rr_rl, rr_rs, rr_ni, rr_nr, rr_z, rr_div, rr_rem, rr_lc, rr_mx, rr_mn, rr_ab, rr_no, gd_t, bc_t, bc_f, gd_tt, bc_tt, bc_ff, or_true, true_or, and_true, true_and, Nat.reduceAdd, hl_T_sF, hl_N_sF, hl_P_sF, hl_I_sF, hl_R_sF, hl_S_sF, hl_T_sP, hl_N_sP, hl_F_sP, hl_I_sP, hl_R_sP, hl_S_sP, hl_T_sI, hl_N_sI, hl_F_sI, hl_P_sI, hl_R_sI, hl_S_sI, hl_T_sR, hl_N_sR, hl_F_sR, hl_P_sR, hl_I_sR, hl_S_sR, hl_T_wI, hl_N_wI, hl_F_wI, hl_P_wI, hl_R_wI, hl_S_wI, hl_F_sF_s, hl_F_sF_n, hl_P_sP_s, hl_P_sP_n, hl_I_sI_s, hl_I_sI_n, hl_R_sR_s, hl_R_sR_n, hl_I_wI_s, hl_I_wI_n, f5, p0, p1, p2, p4, hg]
  · simp (disch := omega) only [hl_T_sF, hl_N_sF, hl_P_sF, hl_I_sF, hl_R_sF, hl_S_sF, hl_T_sP, hl_N_sP, hl_F_sP, hl_I_sP, hl_R_sP, hl_S_sP, hl_T_sI, hl_N_sI, hl_F_sI, hl_P_sI, hl_R_sI, hl_S_sI, hl_T_sR, hl_N_sR, hl_F_sR, hl_P_sR, hl_I_sR, hl_S_sR, hl_T_wI, hl_N_wI, hl_F_wI, hl_P_wI, hl_R_wI, hl_S_wI, hl_F_sF_s, hl_F_sF_n, hl_P_sP_s, hl_P_sP_n, hl_I_sI_s, hl_I_sI_n, hl_R_sR_s, hl_R_sR_n, hl_I_wI_s, hl_I_wI_n, f5]; simp
  · intro i hi
    have hi : i < W.length + 1 := by simpa using hi
    have := c1 i hi
    simp (disch := omega) only [hl_T_sF, hl_N_sF, hl_P_sF, hl_I_sF, hl_R_sF, hl_S_sF, hl_T_sP, hl_N_sP, hl_F_sP, hl_I_sP, hl_R_sP, hl_S_sP, hl_T_sI, hl_N_sI, hl_F_sI, hl_P_sI, hl_R_sI, hl_S_sI, hl_T_sR, hl_N_sR, hl_F_sR, hl_P_sR, hl_I_sR, hl_S_sR, hl_T_wI, hl_N_wI, hl_F_wI, hl_P_wI, hl_R_wI, hl_S_wI, hl_F_sF_s, hl_F_sF_n, hl_P_sP_s, hl_P_sP_n, hl_I_sI_s, hl_I_sI_n, hl_R_sR_s, hl_R_sR_n, hl_I_wI_s, hl_I_wI_n]
    rw [this]
    by_cases hin : i = W.length
    · subst hin; rw [hk_last, hk_last]
    · rw [hk_app_l (by omega), hk_app_l (by omega)]
  · intro i hi
    have hi : i ≤ W.length + 1 := by simpa using hi
    have := c2 i hi
    simp (disch := omega) only [hl_T_sF, hl_N_sF, hl_P_sF, hl_I_sF, hl_R_sF, hl_S_sF, hl_T_sP, hl_N_sP, hl_F_sP, hl_I_sP, hl_R_sP, hl_S_sP, hl_T_sI, hl_N_sI, hl_F_sI, hl_P_sI, hl_R_sI, hl_S_sI, hl_T_sR, hl_N_sR, hl_F_sR, hl_P_sR, hl_I_sR, hl_S_sR, hl_T_wI, hl_N_wI, hl_F_wI, hl_P_wI, hl_R_wI, hl_S_wI, hl_F_sF_s, hl_F_sF_n, hl_P_sP_s, hl_P_sP_n, hl_I_sI_s, hl_I_sI_n, hl_R_sR_s, hl_R_sR_n, hl_I_wI_s, hl_I_wI_n]
    rw [this]
    by_cases hin : i = W.length + 1
    · subst hin; rw [hgs_snoc, hgs_snoc]
    · rw [hgs_app (by omega), hgs_app (by omega)]
  · intro i hi
    have hi : i ≤ W.length + 1 := by simpa using hi
    by_cases hin : i = W.length + 1
    · subst hin
      rw [hcs_snoc, hcs_all]
      simp (disch := omega) only [hl_T_sF, hl_N_sF, hl_P_sF, hl_I_sF, hl_R_sF, hl_S_sF, hl_T_sP, hl_N_sP, hl_F_sP, hl_I_sP, hl_R_sP, hl_S_sP, hl_T_sI, hl_N_sI, hl_F_sI, hl_P_sI, hl_R_sI, hl_S_sI, hl_T_sR, hl_N_sR, hl_F_sR, hl_P_sR, hl_I_sR, hl_S_sR, hl_T_wI, hl_N_wI, hl_F_wI, hl_P_wI, hl_R_wI, hl_S_wI, hl_F_sF_s, hl_F_sF_n, hl_P_sP_s, hl_P_sP_n, hl_I_sI_s, hl_I_sI_n, hl_R_sR_s, hl_R_sR_n, hl_I_wI_s, hl_I_wI_n]
      simp; omega
    · have := c3 i hi
      rw [hcs_app (by omega)] at this ⊢
      simp (disch := omega) only [hl_T_sF, hl_N_sF, hl_P_sF, hl_I_sF, hl_R_sF, hl_S_sF, hl_T_sP, hl_N_sP, hl_F_sP, hl_I_sP, hl_R_sP, hl_S_sP, hl_T_sI, hl_N_sI, hl_F_sI, hl_P_sI, hl_R_sI, hl_S_sI, hl_T_sR, hl_N_sR, hl_F_sR, hl_P_sR, hl_I_sR, hl_S_sR, hl_T_wI, hl_N_wI, hl_F_wI, hl_P_wI, hl_R_wI, hl_S_wI, hl_F_sF_s, hl_F_sF_n, hl_P_sP_s, hl_P_sP_n, hl_I_sI_s, hl_I_sI_n, hl_R_sR_s, hl_R_sR_n, hl_I_wI_s, hl_I_wI_n]
      exact this
  · rw [eC]; intro j hj
    simp (disch := omega) only [hl_T_sF, hl_N_sF, hl_P_sF, hl_I_sF, hl_R_sF, hl_S_sF, hl_T_sP, hl_N_sP, hl_F_sP, hl_I_sP, hl_R_sP, hl_S_sP, hl_T_sI, hl_N_sI, hl_F_sI, hl_P_sI, hl_R_sI, hl_S_sI, hl_T_sR, hl_N_sR, hl_F_sR, hl_P_sR, hl_I_sR, hl_S_sR, hl_T_wI, hl_N_wI, hl_F_wI, hl_P_wI, hl_R_wI, hl_S_wI, hl_F_sF_s, hl_F_sF_n, hl_P_sP_s, hl_P_sP_n, hl_I_sI_s, hl_I_sI_n, hl_R_sR_s, hl_R_sR_n, hl_I_wI_s, hl_I_wI_n]
    exact c4 j hj
  · rw [eG]; intro j hj
    have hj : j < (fC W).length + c.length + 1 := by simp [fC_app, fC_one] at hj; omega
    by_cases hjn : j = (fC W).length + c.length
    · subst hjn
      simp (disch := omega) only [hl_T_sF, hl_N_sF, hl_P_sF, hl_I_sF, hl_R_sF, hl_S_sF, hl_T_sP, hl_N_sP, hl_F_sP, hl_I_sP, hl_R_sP, hl_S_sP, hl_T_sI, hl_N_sI, hl_F_sI, hl_P_sI, hl_R_sI, hl_S_sI, hl_T_sR, hl_N_sR, hl_F_sR, hl_P_sR, hl_I_sR, hl_S_sR, hl_T_wI, hl_N_wI, hl_F_wI, hl_P_wI, hl_R_wI, hl_S_wI, hl_F_sF_s, hl_F_sF_n, hl_P_sP_s, hl_P_sP_n, hl_I_sI_s, hl_I_sI_n, hl_R_sR_s, hl_R_sR_n, hl_I_wI_s, hl_I_wI_n]
      simp only [List.getD_eq_getElem?_getD]
      rw [List.getElem?_append_right (by omega), eG2, Nat.sub_self]; rfl
    · have := c5 j (by omega)
      simp (disch := omega) only [hl_T_sF, hl_N_sF, hl_P_sF, hl_I_sF, hl_R_sF, hl_S_sF, hl_T_sP, hl_N_sP, hl_F_sP, hl_I_sP, hl_R_sP, hl_S_sP, hl_T_sI, hl_N_sI, hl_F_sI, hl_P_sI, hl_R_sI, hl_S_sI, hl_T_sR, hl_N_sR, hl_F_sR, hl_P_sR, hl_I_sR, hl_S_sR, hl_T_wI, hl_N_wI, hl_F_wI, hl_P_wI, hl_R_wI, hl_S_wI, hl_F_sF_s, hl_F_sF_n, hl_P_sP_s, hl_P_sP_n, hl_I_sI_s, hl_I_sI_n, hl_R_sR_s, hl_R_sR_n, hl_I_wI_s, hl_I_wI_n]
      rw [this]
      simp only [List.getD_eq_getElem?_getD]
      rw [List.getElem?_append_left (by omega)]
