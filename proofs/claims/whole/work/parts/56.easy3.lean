theorem c_desk (i : Int) (hi : am_r i) (s : SG) (ho : OKS s) : CJ (fun x => X6_desk x i) (fun m => X7_desk m i) s := by
  obtain ⟨D, V, Q, d⟩ := s
  obtain ⟨⟨hD1, hD2⟩, oV, oQ, od⟩ := id ho
  dsimp only at hD1 hD2 oV oQ od
  unfold am_r at hi
  refine CJ.same (if 0 ≤ i ∧ i < D.length then D.getD i.toNat 0 else -1) ho ?_ ?_
  · intro x h hK
    obtain ⟨hR, nD, hSc, A, B, hB⟩ := id hK
    obtain ⟨⟨o1, ⟨p0, p1, p2, p4, p6, p7, p8, p9, p10, p11, p12⟩, o3, o4, o5, o6, o7, o8, o9⟩, ⟨f3, f5, f13⟩, hA, hQ, hM, hX⟩ := id hB
    have tR := hR.1
    have e1 := q4_at hR (i := i) (by omega)
    dsimp only at e1
    simp (disch := omega) only [X6_desk, rr_p, rr_bp, rr_bb, rr_0, rr_lt, rr_blt, rr_le, rr_ble, rr_eq, rr_beq, rr_nl_n, rr_nl_s, rr_bnl_n, rr_bnl_s, rr_cond_t, rr_cond_f, rr_bcond_t, rr_bcond_f, rr_bon, rr_bcv, rr_cv, rr_g, rr_gr, rr_si, rr_sz, rr_sr, rr_al, rr_ld, rr_st, rr_rl, rr_rs, rr_ni, rr_nr, rr_z, rr_div, rr_rem, rr_lc, rr_mx, rr_mn, rr_ab, rr_no, gd_t, bc_t, bc_f, gd_tt, bc_tt, bc_ff, or_true, true_or, and_true, true_and, Nat.reduceAdd, p0, mo_b_s e1]
  · intro m h hM
    have mT := hM.1.1
    obtain ⟨p1, t1, n1⟩ := ms1 hM.1
    have f0 := hM.2.1.1
    dsimp only at f0
    by_cases c1 : 0 ≤ i ∧ i < D.length
    · have hc := @mDesk_at h m D hM.2.1 i c1.1 c1.2
      rw [if_pos c1]
      simp (disch := omega) only [X7_desk, X7_within, rr_p, rr_bp, rr_bb, rr_0, rr_lt, rr_blt, rr_le, rr_ble, rr_eq, rr_beq, rr_nl_n, rr_nl_s, rr_bnl_n, rr_bnl_s, rr_cond_t, rr_cond_f, rr_bcond_t, rr_bcond_f, rr_bon, rr_bcv, rr_cv, rr_g, rr_gr, rr_si, rr_sz, rr_sr, rr_al, rr_ld, rr_st, rr_rl, rr_rs, rr_ni, rr_nr, rr_z, rr_div, rr_rem, rr_lc, rr_mx, rr_mn, rr_ab, rr_no, gd_t, bc_t, bc_f, gd_tt, bc_tt, bc_ff, or_true, true_or, and_true, true_and, Nat.reduceAdd, f0, p1, hc]
    · rw [if_neg c1]
      by_cases c2 : i < 0
      · simp (disch := omega) only [X7_desk, X7_within, rr_p, rr_bp, rr_bb, rr_0, rr_lt, rr_blt, rr_le, rr_ble, rr_eq, rr_beq, rr_nl_n, rr_nl_s, rr_bnl_n, rr_bnl_s, rr_cond_t, rr_cond_f, rr_bcond_t, rr_bcond_f, rr_bon, rr_bcv, rr_cv, rr_g, rr_gr, rr_si, rr_sz, rr_sr, rr_al, rr_ld, rr_st, rr_rl, rr_rs, rr_ni, rr_nr, rr_z, rr_div, rr_rem, rr_lc, rr_mx, rr_mn, rr_ab, rr_no, gd_t, bc_t, bc_f, gd_tt, bc_tt, bc_ff, or_true, true_or, and_true, true_and, Nat.reduceAdd, f0, p1]
      · simp (disch := omega) only [X7_desk, X7_within, rr_p, rr_bp, rr_bb, rr_0, rr_lt, rr_blt, rr_le, rr_ble, rr_eq, rr_beq, rr_nl_n, rr_nl_s, rr_bnl_n, rr_bnl_s, rr_cond_t, rr_cond_f, rr_bcond_t, rr_bcond_f, rr_bon, rr_bcv, rr_cv, rr_g, rr_gr, rr_si, rr_sz, rr_sr, rr_al, rr_ld, rr_st, rr_rl, rr_rs, rr_ni, rr_nr, rr_z, rr_div, rr_rem, rr_lc, rr_mx, rr_mn, rr_ab, rr_no, gd_t, bc_t, bc_f, gd_tt, bc_tt, bc_ff, or_true, true_or, and_true, true_and, Nat.reduceAdd, f0, p1]
theorem c_text (v i : Int) (hv : am_r v) (hi : am_r i) (s : SG) (ho : OKS s) : CJ (fun x => X6_text x v i) (fun m => X7_text m v i) s := by
  obtain ⟨D, V, Q, d⟩ := s
  obtain ⟨⟨hD1, hD2⟩, oV, oQ, od⟩ := id ho
  dsimp only at hD1 hD2 oV oQ od
  have hv2 := hv
  unfold am_r at hv hi
  have oV1 := oV.1
  by_cases c2 : 0 ≤ v ∧ v < V.length
  · obtain ⟨l1, l2, -⟩ := oV.2 v.toNat (by omega)
    refine CJ.same (if 0 ≤ i ∧ i < (vn V v.toNat).1.length then (vn V v.toNat).1.getD i.toNat 0 else -1) ho ?_ ?_
    · intro x h hK
      obtain ⟨hR, nD, hSc, A, B, hB⟩ := id hK
      obtain ⟨⟨o1, ⟨p0, p1, p2, p4, p6, p7, p8, p9, p10, p11, p12⟩, o3, o4, o5, o6, o7, o8, o9⟩, ⟨f3, f5, f13⟩, hA, hQ, hM, hX⟩ := id hB
      have e1 := q6_versionOrNull hB oV1 hv2
      rw [if_pos c2] at e1
      obtain ⟨w1, w2, w3, w4, w5⟩ := hA v.toNat (by dsimp only; omega)
      dsimp only at w2
      obtain ⟨v1, v2, v3, v4, v5, v6, v7, v8, v9, v10⟩ := w2
      have tV := v9.1
      have e2 := q4_at v9 (i := i) (by omega)
      simp (disch := omega) only [X6_text, rr_p, rr_bp, rr_bb, rr_0, rr_lt, rr_blt, rr_le, rr_ble, rr_eq, rr_beq, rr_nl_n, rr_nl_s, rr_bnl_n, rr_bnl_s, rr_cond_t, rr_cond_f, rr_bcond_t, rr_bcond_f, rr_bon, rr_bcv, rr_cv, rr_g, rr_gr, rr_si, rr_sz, rr_sr, rr_al, rr_ld, rr_st, rr_rl, rr_rs, rr_ni, rr_nr, rr_z, rr_div, rr_rem, rr_lc, rr_mx, rr_mn, rr_ab, rr_no, gd_t, bc_t, bc_f, gd_tt, bc_tt, bc_ff, or_true, true_or, and_true, true_and, Nat.reduceAdd, v2, mo_b_s e1, mo_b_s e2]
    · intro m h hM
      have mT := hM.1.1
      obtain ⟨p2, t2, n2⟩ := ms2 hM.1
      obtain ⟨p3, t3, n3⟩ := ms3 hM.1
      have e1 := q7_isVersion hM oV1 hv2
      dsimp only at e1
      rw [bc_t c2] at e1
      have hl := (mVer_l hM.2.2.1 c2.1 c2.2).1
      dsimp only at hl
      by_cases c1 : 0 ≤ i ∧ i < (vn V v.toNat).1.length
      · have hat := @mVer_at h m V hM.2.2.1 v i c2.1 c2.2 c1.1 c1.2
        rw [if_pos c1]
        simp (disch := omega) only [X7_text, X7_within, rr_p, rr_bp, rr_bb, rr_0, rr_lt, rr_blt, rr_le, rr_ble, rr_eq, rr_beq, rr_nl_n, rr_nl_s, rr_bnl_n, rr_bnl_s, rr_cond_t, rr_cond_f, rr_bcond_t, rr_bcond_f, rr_bon, rr_bcv, rr_cv, rr_g, rr_gr, rr_si, rr_sz, rr_sr, rr_al, rr_ld, rr_st, rr_rl, rr_rs, rr_ni, rr_nr, rr_z, rr_div, rr_rem, rr_lc, rr_mx, rr_mn, rr_ab, rr_no, gd_t, bc_t, bc_f, gd_tt, bc_tt, bc_ff, or_true, true_or, and_true, true_and, Nat.reduceAdd, p2, p3, hl, hat, mo_b_s e1]
      · rw [if_neg c1]
        by_cases c3 : i < 0
        · simp (disch := omega) only [X7_text, X7_within, rr_p, rr_bp, rr_bb, rr_0, rr_lt, rr_blt, rr_le, rr_ble, rr_eq, rr_beq, rr_nl_n, rr_nl_s, rr_bnl_n, rr_bnl_s, rr_cond_t, rr_cond_f, rr_bcond_t, rr_bcond_f, rr_bon, rr_bcv, rr_cv, rr_g, rr_gr, rr_si, rr_sz, rr_sr, rr_al, rr_ld, rr_st, rr_rl, rr_rs, rr_ni, rr_nr, rr_z, rr_div, rr_rem, rr_lc, rr_mx, rr_mn, rr_ab, rr_no, gd_t, bc_t, bc_f, gd_tt, bc_tt, bc_ff, or_true, true_or, and_true, true_and, Nat.reduceAdd, p2, p3, hl, mo_b_s e1]
        · simp (disch := omega) only [X7_text, X7_within, rr_p, rr_bp, rr_bb, rr_0, rr_lt, rr_blt, rr_le, rr_ble, rr_eq, rr_beq, rr_nl_n, rr_nl_s, rr_bnl_n, rr_bnl_s, rr_cond_t, rr_cond_f, rr_bcond_t, rr_bcond_f, rr_bon, rr_bcv, rr_cv, rr_g, rr_gr, rr_si, rr_sz, rr_sr, rr_al, rr_ld, rr_st, rr_rl, rr_rs, rr_ni, rr_nr, rr_z, rr_div, rr_rem, rr_lc, rr_mx, rr_mn, rr_ab, rr_no, gd_t, bc_t, bc_f, gd_tt, bc_tt, bc_ff, or_true, true_or, and_true, true_and, Nat.reduceAdd, p2, p3, hl, mo_b_s e1]
  · refine CJ.same (-101) ho ?_ ?_
    · intro x h hK
      obtain ⟨hR, nD, hSc, A, B, hB⟩ := id hK
      obtain ⟨⟨o1, ⟨p0, p1, p2, p4, p6, p7, p8, p9, p10, p11, p12⟩, o3, o4, o5, o6, o7, o8, o9⟩, ⟨f3, f5, f13⟩, hA, hQ, hM, hX⟩ := id hB
      have e1 := q6_versionOrNull hB oV1 hv2
      rw [if_neg c2] at e1
      simp (disch := omega) only [X6_text, rr_p, rr_bp, rr_bb, rr_0, rr_lt, rr_blt, rr_le, rr_ble, rr_eq, rr_beq, rr_nl_n, rr_nl_s, rr_bnl_n, rr_bnl_s, rr_cond_t, rr_cond_f, rr_bcond_t, rr_bcond_f, rr_bon, rr_bcv, rr_cv, rr_g, rr_gr, rr_si, rr_sz, rr_sr, rr_al, rr_ld, rr_st, rr_rl, rr_rs, rr_ni, rr_nr, rr_z, rr_div, rr_rem, rr_lc, rr_mx, rr_mn, rr_ab, rr_no, gd_t, bc_t, bc_f, gd_tt, bc_tt, bc_ff, or_true, true_or, and_true, true_and, Nat.reduceAdd, mo_b_s e1]
    · intro m h hM
      have mT := hM.1.1
      have e1 := q7_isVersion hM oV1 hv2
      dsimp only at e1
      rw [bc_f c2] at e1
      simp (disch := omega) only [X7_text, rr_p, rr_bp, rr_bb, rr_0, rr_lt, rr_blt, rr_le, rr_ble, rr_eq, rr_beq, rr_nl_n, rr_nl_s, rr_bnl_n, rr_bnl_s, rr_cond_t, rr_cond_f, rr_bcond_t, rr_bcond_f, rr_bon, rr_bcv, rr_cv, rr_g, rr_gr, rr_si, rr_sz, rr_sr, rr_al, rr_ld, rr_st, rr_rl, rr_rs, rr_ni, rr_nr, rr_z, rr_div, rr_rem, rr_lc, rr_mx, rr_mn, rr_ab, rr_no, gd_t, bc_t, bc_f, gd_tt, bc_tt, bc_ff, or_true, true_or, and_true, true_and, Nat.reduceAdd, mo_b_s e1]
/-- what is told about a version -/
def abt (v : VR) (w : Int) : Int := if w = 0 then (v.1.length : Int) else if w = 1 then v.2.1 else if w = 2 then v.2.2.1 else if w = 3 then v.2.2.2 else (v.1.length : Int) + 1
theorem k_about {h : AH} {x : Nat} {s : SG} (ho : OKS s) (hK : KI h x s) {v w : Int} (hv : am_r v) (c2 : 0 ≤ v ∧ v < s.2.1.length) (hw : 0 ≤ w ∧ w ≤ 4) : X6_about x v w h = some (abt (vn s.2.1 v.toNat) w, h) := by
  obtain ⟨D, V, Q, d⟩ := s
  obtain ⟨⟨hD1, hD2⟩, oV, oQ, od⟩ := id ho
  dsimp only at hD1 hD2 oV oQ od c2 ⊢
  have hv2 := hv
  unfold am_r at hv
  have oV1 := oV.1
  obtain ⟨l1, l2, -⟩ := oV.2 v.toNat (by omega)
  obtain ⟨hR, nD, hSc, A, B, hB⟩ := id hK
  obtain ⟨⟨o1, ⟨p0, p1, p2, p4, p6, p7, p8, p9, p10, p11, p12⟩, o3, o4, o5, o6, o7, o8, o9⟩, ⟨f3, f5, f13⟩, hA, hQ, hM, hX⟩ := id hB
  have e1 := q6_versionOrNull hB oV1 hv2
  rw [if_pos c2] at e1
  obtain ⟨w1, w2, w3, w4, w5⟩ := hA v.toNat (by dsimp only; omega)
  dsimp only at w2
  obtain ⟨v1, v2, v3, v4, v5, v6, v7, v8, v9, v10⟩ := w2
  have tV := v9.1
  have e2 := q4_size v9
  have e3 := q4_room v9
  unfold abt
  by_cases c3 : w = 0
  · rw [if_pos c3]; simp (disch := omega) only [X6_about, rr_p, rr_bp, rr_bb, rr_0, rr_lt, rr_blt, rr_le, rr_ble, rr_eq, rr_beq, rr_nl_n, rr_nl_s, rr_bnl_n, rr_bnl_s, rr_cond_t, rr_cond_f, rr_bcond_t, rr_bcond_f, rr_bon, rr_bcv, rr_cv, rr_g, rr_gr, rr_si, rr_sz, rr_sr, rr_al, rr_ld, rr_st, rr_rl, rr_rs, rr_ni, rr_nr, rr_z, rr_div, rr_rem, rr_lc, rr_mx, rr_mn, rr_ab, rr_no, gd_t, bc_t, bc_f, gd_tt, bc_tt, bc_ff, or_true, true_or, and_true, true_and, Nat.reduceAdd, v2, mo_b_s e1, mo_b_s e2]
  · rw [if_neg c3]
    by_cases c3 : w = 1
    · rw [if_pos c3]; simp (disch := omega) only [X6_about, rr_p, rr_bp, rr_bb, rr_0, rr_lt, rr_blt, rr_le, rr_ble, rr_eq, rr_beq, rr_nl_n, rr_nl_s, rr_bnl_n, rr_bnl_s, rr_cond_t, rr_cond_f, rr_bcond_t, rr_bcond_f, rr_bon, rr_bcv, rr_cv, rr_g, rr_gr, rr_si, rr_sz, rr_sr, rr_al, rr_ld, rr_st, rr_rl, rr_rs, rr_ni, rr_nr, rr_z, rr_div, rr_rem, rr_lc, rr_mx, rr_mn, rr_ab, rr_no, gd_t, bc_t, bc_f, gd_tt, bc_tt, bc_ff, or_true, true_or, and_true, true_and, Nat.reduceAdd, v6, mo_b_s e1]
    · rw [if_neg c3]
      by_cases c3 : w = 2
      · rw [if_pos c3]; simp (disch := omega) only [X6_about, rr_p, rr_bp, rr_bb, rr_0, rr_lt, rr_blt, rr_le, rr_ble, rr_eq, rr_beq, rr_nl_n, rr_nl_s, rr_bnl_n, rr_bnl_s, rr_cond_t, rr_cond_f, rr_bcond_t, rr_bcond_f, rr_bon, rr_bcv, rr_cv, rr_g, rr_gr, rr_si, rr_sz, rr_sr, rr_al, rr_ld, rr_st, rr_rl, rr_rs, rr_ni, rr_nr, rr_z, rr_div, rr_rem, rr_lc, rr_mx, rr_mn, rr_ab, rr_no, gd_t, bc_t, bc_f, gd_tt, bc_tt, bc_ff, or_true, true_or, and_true, true_and, Nat.reduceAdd, v7, mo_b_s e1]
      · rw [if_neg c3]
        by_cases c3 : w = 3
        · rw [if_pos c3]; simp (disch := omega) only [X6_about, rr_p, rr_bp, rr_bb, rr_0, rr_lt, rr_blt, rr_le, rr_ble, rr_eq, rr_beq, rr_nl_n, rr_nl_s, rr_bnl_n, rr_bnl_s, rr_cond_t, rr_cond_f, rr_bcond_t, rr_bcond_f, rr_bon, rr_bcv, rr_cv, rr_g, rr_gr, rr_si, rr_sz, rr_sr, rr_al, rr_ld, rr_st, rr_rl, rr_rs, rr_ni, rr_nr, rr_z, rr_div, rr_rem, rr_lc, rr_mx, rr_mn, rr_ab, rr_no, gd_t, bc_t, bc_f, gd_tt, bc_tt, bc_ff, or_true, true_or, and_true, true_and, Nat.reduceAdd, v8, mo_b_s e1]
        · rw [if_neg c3]; simp (disch := omega) only [X6_about, rr_p, rr_bp, rr_bb, rr_0, rr_lt, rr_blt, rr_le, rr_ble, rr_eq, rr_beq, rr_nl_n, rr_nl_s, rr_bnl_n, rr_bnl_s, rr_cond_t, rr_cond_f, rr_bcond_t, rr_bcond_f, rr_bon, rr_bcv, rr_cv, rr_g, rr_gr, rr_si, rr_sz, rr_sr, rr_al, rr_ld, rr_st, rr_rl, rr_rs, rr_ni, rr_nr, rr_z, rr_div, rr_rem, rr_lc, rr_mx, rr_mn, rr_ab, rr_no, gd_t, bc_t, bc_f, gd_tt, bc_tt, bc_ff, or_true, true_or, and_true, true_and, Nat.reduceAdd, v2, mo_b_s e1, mo_b_s e3]
theorem m_about {h : AH} {m : Nat} {s : SG} (ho : OKS s) (hM : MI h m s) {v w : Int} (c2 : 0 ≤ v ∧ v < s.2.1.length) (hw : 0 ≤ w ∧ w ≤ 4) : X7_aboutOf m v w h = some (abt (vn s.2.1 v.toNat) w, h) := by
  obtain ⟨D, V, Q, d⟩ := s
  obtain ⟨⟨hD1, hD2⟩, oV, oQ, od⟩ := id ho
  dsimp only at hD1 hD2 oV oQ od c2 ⊢
  have oV1 := oV.1
  have mT := hM.1.1
  obtain ⟨p2, t2, n2⟩ := ms2 hM.1
  obtain ⟨p4, t4, n4⟩ := ms4 hM.1
  obtain ⟨p5, t5, n5⟩ := ms5 hM.1
  obtain ⟨p6, t6, n6⟩ := ms6 hM.1
  obtain ⟨g1, g2, g3, g4⟩ := mVer_l hM.2.2.1 c2.1 c2.2
  dsimp only at g1 g2 g3 g4
  unfold abt
  by_cases c3 : w = 0
  · rw [if_pos c3]; simp (disch := omega) only [X7_aboutOf, rr_p, rr_bp, rr_bb, rr_0, rr_lt, rr_blt, rr_le, rr_ble, rr_eq, rr_beq, rr_nl_n, rr_nl_s, rr_bnl_n, rr_bnl_s, rr_cond_t, rr_cond_f, rr_bcond_t, rr_bcond_f, rr_bon, rr_bcv, rr_cv, rr_g, rr_gr, rr_si, rr_sz, rr_sr, rr_al, rr_ld, rr_st, rr_rl, rr_rs, rr_ni, rr_nr, rr_z, rr_div, rr_rem, rr_lc, rr_mx, rr_mn, rr_ab, rr_no, gd_t, bc_t, bc_f, gd_tt, bc_tt, bc_ff, or_true, true_or, and_true, true_and, Nat.reduceAdd, p2, g1]
  · rw [if_neg c3]
    by_cases c3 : w = 1
    · rw [if_pos c3]; simp (disch := omega) only [X7_aboutOf, rr_p, rr_bp, rr_bb, rr_0, rr_lt, rr_blt, rr_le, rr_ble, rr_eq, rr_beq, rr_nl_n, rr_nl_s, rr_bnl_n, rr_bnl_s, rr_cond_t, rr_cond_f, rr_bcond_t, rr_bcond_f, rr_bon, rr_bcv, rr_cv, rr_g, rr_gr, rr_si, rr_sz, rr_sr, rr_al, rr_ld, rr_st, rr_rl, rr_rs, rr_ni, rr_nr, rr_z, rr_div, rr_rem, rr_lc, rr_mx, rr_mn, rr_ab, rr_no, gd_t, bc_t, bc_f, gd_tt, bc_tt, bc_ff, or_true, true_or, and_true, true_and, Nat.reduceAdd, p4, g2]
    · rw [if_neg c3]
      by_cases c3 : w = 2
      · rw [if_pos c3]; simp (disch := omega) only [X7_aboutOf, rr_p, rr_bp, rr_bb, rr_0, rr_lt, rr_blt, rr_le, rr_ble, rr_eq, rr_beq, rr_nl_n, rr_nl_s, rr_bnl_n, rr_bnl_s, rr_cond_t, rr_cond_f, rr_bcond_t, rr_bcond_f, rr_bon, rr_bcv, rr_cv, rr_g, rr_gr, rr_si, rr_sz, rr_sr, rr_al, rr_ld, rr_st, rr_rl, rr_rs, rr_ni, rr_nr, rr_z, rr_div, rr_rem, rr_lc, rr_mx, rr_mn, rr_ab, rr_no, gd_t, bc_t, bc_f, gd_tt, bc_tt, bc_ff, or_true, true_or, and_true, true_and, Nat.reduceAdd, p5, g3]
      · rw [if_neg c3]
        by_cases c3 : w = 3
        · rw [if_pos c3]; simp (disch := omega) only [X7_aboutOf, rr_p, rr_bp, rr_bb, rr_0, rr_lt, rr_blt, rr_le, rr_ble, rr_eq, rr_beq, rr_nl_n, rr_nl_s, rr_bnl_n, rr_bnl_s, rr_cond_t, rr_cond_f, rr_bcond_t, rr_bcond_f, rr_bon, rr_bcv, rr_cv, rr_g, rr_gr, rr_si, rr_sz, rr_sr, rr_al, rr_ld, rr_st, rr_rl, rr_rs, rr_ni, rr_nr, rr_z, rr_div, rr_rem, rr_lc, rr_mx, rr_mn, rr_ab, rr_no, gd_t, bc_t, bc_f, gd_tt, bc_tt, bc_ff, or_true, true_or, and_true, true_and, Nat.reduceAdd, p6, g4]
        · rw [if_neg c3]; simp (disch := omega) only [X7_aboutOf, rr_p, rr_bp, rr_bb, rr_0, rr_lt, rr_blt, rr_le, rr_ble, rr_eq, rr_beq, rr_nl_n, rr_nl_s, rr_bnl_n, rr_bnl_s, rr_cond_t, rr_cond_f, rr_bcond_t, rr_bcond_f, rr_bon, rr_bcv, rr_cv, rr_g, rr_gr, rr_si, rr_sz, rr_sr, rr_al, rr_ld, rr_st, rr_rl, rr_rs, rr_ni, rr_nr, rr_z, rr_div, rr_rem, rr_lc, rr_mx, rr_mn, rr_ab, rr_no, gd_t, bc_t, bc_f, gd_tt, bc_tt, bc_ff, or_true, true_or, and_true, true_and, Nat.reduceAdd, p2, g1]
theorem c_about (v w : Int) (hv : am_r v) (hw : am_r w) (s : SG) (ho : OKS s) : CJ (fun x => X6_about x v w) (fun m => X7_about m v w) s := by
  have oV1 := ho.2.1.1
  have hv2 := hv
  unfold am_r at hv hw
  by_cases c2 : 0 ≤ v ∧ v < s.2.1.length
  · by_cases c3 : 0 ≤ w ∧ w ≤ 4
    · refine CJ.same (abt (vn s.2.1 v.toNat) w) ho (fun x h hK => k_about ho hK hv2 c2 c3) ?_
      intro m h hM
      have mT := hM.1.1
      have e1 := q7_isVersion hM oV1 hv2
      rw [bc_t c2] at e1
      have e2 := m_about ho hM c2 c3
      simp (disch := omega) only [X7_about, X7_within, rr_p, rr_bp, rr_bb, rr_0, rr_lt, rr_blt, rr_le, rr_ble, rr_eq, rr_beq, rr_nl_n, rr_nl_s, rr_bnl_n, rr_bnl_s, rr_cond_t, rr_cond_f, rr_bcond_t, rr_bcond_f, rr_bon, rr_bcv, rr_cv, rr_g, rr_gr, rr_si, rr_sz, rr_sr, rr_al, rr_ld, rr_st, rr_rl, rr_rs, rr_ni, rr_nr, rr_z, rr_div, rr_rem, rr_lc, rr_mx, rr_mn, rr_ab, rr_no, gd_t, bc_t, bc_f, gd_tt, bc_tt, bc_ff, or_true, true_or, and_true, true_and, Nat.reduceAdd, mo_b_s e1, mo_b_s e2]
    · refine CJ.same (-102) ho ?_ ?_
      · intro x h hK
        obtain ⟨hR, nD, hSc, A, B, hB⟩ := id hK
        obtain ⟨⟨o1, ⟨p0, p1, p2, p4, p6, p7, p8, p9, p10, p11, p12⟩, o3, o4, o5, o6, o7, o8, o9⟩, ⟨f3, f5, f13⟩, hA, hQ, hM, hX⟩ := id hB
        have e1 := q6_versionOrNull hB oV1 hv2
        rw [if_pos c2] at e1
        simp (disch := omega) only [X6_about, rr_p, rr_bp, rr_bb, rr_0, rr_lt, rr_blt, rr_le, rr_ble, rr_eq, rr_beq, rr_nl_n, rr_nl_s, rr_bnl_n, rr_bnl_s, rr_cond_t, rr_cond_f, rr_bcond_t, rr_bcond_f, rr_bon, rr_bcv, rr_cv, rr_g, rr_gr, rr_si, rr_sz, rr_sr, rr_al, rr_ld, rr_st, rr_rl, rr_rs, rr_ni, rr_nr, rr_z, rr_div, rr_rem, rr_lc, rr_mx, rr_mn, rr_ab, rr_no, gd_t, bc_t, bc_f, gd_tt, bc_tt, bc_ff, or_true, true_or, and_true, true_and, Nat.reduceAdd, mo_b_s e1]
      · intro m h hM
        have mT := hM.1.1
        have e1 := q7_isVersion hM oV1 hv2
        rw [bc_t c2] at e1
        by_cases c4 : w < 0
        · simp (disch := omega) only [X7_about, X7_within, rr_p, rr_bp, rr_bb, rr_0, rr_lt, rr_blt, rr_le, rr_ble, rr_eq, rr_beq, rr_nl_n, rr_nl_s, rr_bnl_n, rr_bnl_s, rr_cond_t, rr_cond_f, rr_bcond_t, rr_bcond_f, rr_bon, rr_bcv, rr_cv, rr_g, rr_gr, rr_si, rr_sz, rr_sr, rr_al, rr_ld, rr_st, rr_rl, rr_rs, rr_ni, rr_nr, rr_z, rr_div, rr_rem, rr_lc, rr_mx, rr_mn, rr_ab, rr_no, gd_t, bc_t, bc_f, gd_tt, bc_tt, bc_ff, or_true, true_or, and_true, true_and, Nat.reduceAdd, mo_b_s e1]
        · simp (disch := omega) only [X7_about, X7_within, rr_p, rr_bp, rr_bb, rr_0, rr_lt, rr_blt, rr_le, rr_ble, rr_eq, rr_beq, rr_nl_n, rr_nl_s, rr_bnl_n, rr_bnl_s, rr_cond_t, rr_cond_f, rr_bcond_t, rr_bcond_f, rr_bon, rr_bcv, rr_cv, rr_g, rr_gr, rr_si, rr_sz, rr_sr, rr_al, rr_ld, rr_st, rr_rl, rr_rs, rr_ni, rr_nr, rr_z, rr_div, rr_rem, rr_lc, rr_mx, rr_mn, rr_ab, rr_no, gd_t, bc_t, bc_f, gd_tt, bc_tt, bc_ff, or_true, true_or, and_true, true_and, Nat.reduceAdd, mo_b_s e1]
  · refine CJ.same (-101) ho ?_ ?_
    · intro x h hK
      obtain ⟨hR, nD, hSc, A, B, hB⟩ := id hK
      obtain ⟨⟨o1, ⟨p0, p1, p2, p4, p6, p7, p8, p9, p10, p11, p12⟩, o3, o4, o5, o6, o7, o8, o9⟩, ⟨f3, f5, f13⟩, hA, hQ, hM, hX⟩ := id hB
      have e1 := q6_versionOrNull hB oV1 hv2
      rw [if_neg c2] at e1
      simp (disch := omega) only [X6_about, rr_p, rr_bp, rr_bb, rr_0, rr_lt, rr_blt, rr_le, rr_ble, rr_eq, rr_beq, rr_nl_n, rr_nl_s, rr_bnl_n, rr_bnl_s, rr_cond_t, rr_cond_f, rr_bcond_t, rr_bcond_f, rr_bon, rr_bcv, rr_cv, rr_g, rr_gr, rr_si, rr_sz, rr_sr, rr_al, rr_ld, rr_st, rr_rl, rr_rs, rr_ni, rr_nr, rr_z, rr_div, rr_rem, rr_lc, rr_mx, rr_mn, rr_ab, rr_no, gd_t, bc_t, bc_f, gd_tt, bc_tt, bc_ff, or_true, true_or, and_true, true_and, Nat.reduceAdd, mo_b_s e1]
    · intro m h hM
      have mT := hM.1.1
      have e1 := q7_isVersion hM oV1 hv2
      rw [bc_f c2] at e1
      simp (disch := omega) only [X7_about, rr_p, rr_bp, rr_bb, rr_0, rr_lt, rr_blt, rr_le, rr_ble, rr_eq, rr_beq, rr_nl_n, rr_nl_s, rr_bnl_n, rr_bnl_s, rr_cond_t, rr_cond_f, rr_bcond_t, rr_bcond_f, rr_bon, rr_bcv, rr_cv, rr_g, rr_gr, rr_si, rr_sz, rr_sr, rr_al, rr_ld, rr_st, rr_rl, rr_rs, rr_ni, rr_nr, rr_z, rr_div, rr_rem, rr_lc, rr_mx, rr_mn, rr_ab, rr_no, gd_t, bc_t, bc_f, gd_tt, bc_tt, bc_ff, or_true, true_or, and_true, true_and, Nat.reduceAdd, mo_b_s e1]
def cnt (s : SG) (w : Int) : Int := if w = 0 then (s.2.1.length : Int) else if w = 1 then (s.1.length : Int) else if w = 2 then (s.2.2.1.length : Int) else if w = 3 then (s.2.2.2 : Int) else -102
theorem k_count {h : AH} {x : Nat} {s : SG} (hK : KI h x s) {w : Int} (hw : am_r w) : X6_count x w h = some (cnt s w, h) := by
  unfold am_r at hw
  obtain ⟨hR, nD, hSc, A, B, hB⟩ := id hK
  obtain ⟨⟨o1, ⟨p0, p1, p2, p4, p6, p7, p8, p9, p10, p11, p12⟩, o3, o4, o5, o6, o7, o8, o9⟩, ⟨f3, f5, f13⟩, hA, hQ, hM, hX⟩ := id hB
  have e2 := q4_size hR
  have tR := hR.1
  unfold cnt
  by_cases c3 : w = 0
  · rw [if_pos c3]; simp (disch := omega) only [X6_count, rr_p, rr_bp, rr_bb, rr_0, rr_lt, rr_blt, rr_le, rr_ble, rr_eq, rr_beq, rr_nl_n, rr_nl_s, rr_bnl_n, rr_bnl_s, rr_cond_t, rr_cond_f, rr_bcond_t, rr_bcond_f, rr_bon, rr_bcv, rr_cv, rr_g, rr_gr, rr_si, rr_sz, rr_sr, rr_al, rr_ld, rr_st, rr_rl, rr_rs, rr_ni, rr_nr, rr_z, rr_div, rr_rem, rr_lc, rr_mx, rr_mn, rr_ab, rr_no, gd_t, bc_t, bc_f, gd_tt, bc_tt, bc_ff, or_true, true_or, and_true, true_and, Nat.reduceAdd, f3]
  · rw [if_neg c3]
    by_cases c3 : w = 1
    · rw [if_pos c3]; simp (disch := omega) only [X6_count, rr_p, rr_bp, rr_bb, rr_0, rr_lt, rr_blt, rr_le, rr_ble, rr_eq, rr_beq, rr_nl_n, rr_nl_s, rr_bnl_n, rr_bnl_s, rr_cond_t, rr_cond_f, rr_bcond_t, rr_bcond_f, rr_bon, rr_bcv, rr_cv, rr_g, rr_gr, rr_si, rr_sz, rr_sr, rr_al, rr_ld, rr_st, rr_rl, rr_rs, rr_ni, rr_nr, rr_z, rr_div, rr_rem, rr_lc, rr_mx, rr_mn, rr_ab, rr_no, gd_t, bc_t, bc_f, gd_tt, bc_tt, bc_ff, or_true, true_or, and_true, true_and, Nat.reduceAdd, p0, mo_b_s e2]
    · rw [if_neg c3]
      by_cases c3 : w = 2
      · rw [if_pos c3]; simp (disch := omega) only [X6_count, rr_p, rr_bp, rr_bb, rr_0, rr_lt, rr_blt, rr_le, rr_ble, rr_eq, rr_beq, rr_nl_n, rr_nl_s, rr_bnl_n, rr_bnl_s, rr_cond_t, rr_cond_f, rr_bcond_t, rr_bcond_f, rr_bon, rr_bcv, rr_cv, rr_g, rr_gr, rr_si, rr_sz, rr_sr, rr_al, rr_ld, rr_st, rr_rl, rr_rs, rr_ni, rr_nr, rr_z, rr_div, rr_rem, rr_lc, rr_mx, rr_mn, rr_ab, rr_no, gd_t, bc_t, bc_f, gd_tt, bc_tt, bc_ff, or_true, true_or, and_true, true_and, Nat.reduceAdd, f5]
      · rw [if_neg c3]
        by_cases c3 : w = 3
        · rw [if_pos c3]; simp (disch := omega) only [X6_count, rr_p, rr_bp, rr_bb, rr_0, rr_lt, rr_blt, rr_le, rr_ble, rr_eq, rr_beq, rr_nl_n, rr_nl_s, rr_bnl_n, rr_bnl_s, rr_cond_t, rr_cond_f, rr_bcond_t, rr_bcond_f, rr_bon, rr_bcv, rr_cv, rr_g, rr_gr, rr_si, rr_sz, rr_sr, rr_al, rr_ld, rr_st, rr_rl, rr_rs, rr_ni, rr_nr, rr_z, rr_div, rr_rem, rr_lc, rr_mx, rr_mn, rr_ab, rr_no, gd_t, bc_t, bc_f, gd_tt, bc_tt, bc_ff, or_true, true_or, and_true, true_and, Nat.reduceAdd, f13]
        · rw [if_neg c3]; simp (disch := omega) only [X6_count, rr_p, rr_bp, rr_bb, rr_0, rr_lt, rr_blt, rr_le, rr_ble, rr_eq, rr_beq, rr_nl_n, rr_nl_s, rr_bnl_n, rr_bnl_s, rr_cond_t, rr_cond_f, rr_bcond_t, rr_bcond_f, rr_bon, rr_bcv, rr_cv, rr_g, rr_gr, rr_si, rr_sz, rr_sr, rr_al, rr_ld, rr_st, rr_rl, rr_rs, rr_ni, rr_nr, rr_z, rr_div, rr_rem, rr_lc, rr_mx, rr_mn, rr_ab, rr_no, gd_t, bc_t, bc_f, gd_tt, bc_tt, bc_ff, or_true, true_or, and_true, true_and, Nat.reduceAdd]
theorem m_count {h : AH} {m : Nat} {s : SG} (hM : MI h m s) {w : Int} (hw : am_r w) : X7_howMany m w h = some (cnt s w, h) := by
  unfold am_r at hw
  have mT := hM.1.1
  have f0 := hM.2.1.1
  have f2 := hM.2.2.1.1
  have f8 := hM.2.2.2.1.1
  have f15 := hM.2.2.2.2
  unfold cnt
  by_cases c3 : w = 0
  · rw [if_pos c3]; simp (disch := omega) only [X7_howMany, rr_p, rr_bp, rr_bb, rr_0, rr_lt, rr_blt, rr_le, rr_ble, rr_eq, rr_beq, rr_nl_n, rr_nl_s, rr_bnl_n, rr_bnl_s, rr_cond_t, rr_cond_f, rr_bcond_t, rr_bcond_f, rr_bon, rr_bcv, rr_cv, rr_g, rr_gr, rr_si, rr_sz, rr_sr, rr_al, rr_ld, rr_st, rr_rl, rr_rs, rr_ni, rr_nr, rr_z, rr_div, rr_rem, rr_lc, rr_mx, rr_mn, rr_ab, rr_no, gd_t, bc_t, bc_f, gd_tt, bc_tt, bc_ff, or_true, true_or, and_true, true_and, Nat.reduceAdd, f2]
  · rw [if_neg c3]
    by_cases c3 : w = 1
    · rw [if_pos c3]; simp (disch := omega) only [X7_howMany, rr_p, rr_bp, rr_bb, rr_0, rr_lt, rr_blt, rr_le, rr_ble, rr_eq, rr_beq, rr_nl_n, rr_nl_s, rr_bnl_n, rr_bnl_s, rr_cond_t, rr_cond_f, rr_bcond_t, rr_bcond_f, rr_bon, rr_bcv, rr_cv, rr_g, rr_gr, rr_si, rr_sz, rr_sr, rr_al, rr_ld, rr_st, rr_rl, rr_rs, rr_ni, rr_nr, rr_z, rr_div, rr_rem, rr_lc, rr_mx, rr_mn, rr_ab, rr_no, gd_t, bc_t, bc_f, gd_tt, bc_tt, bc_ff, or_true, true_or, and_true, true_and, Nat.reduceAdd, f0]
    · rw [if_neg c3]
      by_cases c3 : w = 2
      · rw [if_pos c3]; simp (disch := omega) only [X7_howMany, rr_p, rr_bp, rr_bb, rr_0, rr_lt, rr_blt, rr_le, rr_ble, rr_eq, rr_beq, rr_nl_n, rr_nl_s, rr_bnl_n, rr_bnl_s, rr_cond_t, rr_cond_f, rr_bcond_t, rr_bcond_f, rr_bon, rr_bcv, rr_cv, rr_g, rr_gr, rr_si, rr_sz, rr_sr, rr_al, rr_ld, rr_st, rr_rl, rr_rs, rr_ni, rr_nr, rr_z, rr_div, rr_rem, rr_lc, rr_mx, rr_mn, rr_ab, rr_no, gd_t, bc_t, bc_f, gd_tt, bc_tt, bc_ff, or_true, true_or, and_true, true_and, Nat.reduceAdd, f8]
      · rw [if_neg c3]
        by_cases c3 : w = 3
        · rw [if_pos c3]; simp (disch := omega) only [X7_howMany, rr_p, rr_bp, rr_bb, rr_0, rr_lt, rr_blt, rr_le, rr_ble, rr_eq, rr_beq, rr_nl_n, rr_nl_s, rr_bnl_n, rr_bnl_s, rr_cond_t, rr_cond_f, rr_bcond_t, rr_bcond_f, rr_bon, rr_bcv, rr_cv, rr_g, rr_gr, rr_si, rr_sz, rr_sr, rr_al, rr_ld, rr_st, rr_rl, rr_rs, rr_ni, rr_nr, rr_z, rr_div, rr_rem, rr_lc, rr_mx, rr_mn, rr_ab, rr_no, gd_t, bc_t, bc_f, gd_tt, bc_tt, bc_ff, or_true, true_or, and_true, true_and, Nat.reduceAdd, f15]
        · rw [if_neg c3]; simp (disch := omega) only [X7_howMany, rr_p, rr_bp, rr_bb, rr_0, rr_lt, rr_blt, rr_le, rr_ble, rr_eq, rr_beq, rr_nl_n, rr_nl_s, rr_bnl_n, rr_bnl_s, rr_cond_t, rr_cond_f, rr_bcond_t, rr_bcond_f, rr_bon, rr_bcv, rr_cv, rr_g, rr_gr, rr_si, rr_sz, rr_sr, rr_al, rr_ld, rr_st, rr_rl, rr_rs, rr_ni, rr_nr, rr_z, rr_div, rr_rem, rr_lc, rr_mx, rr_mn, rr_ab, rr_no, gd_t, bc_t, bc_f, gd_tt, bc_tt, bc_ff, or_true, true_or, and_true, true_and, Nat.reduceAdd]
theorem c_count (w : Int) (hw : am_r w) (s : SG) (ho : OKS s) : CJ (fun x => X6_count x w) (fun m => X7_count m w) s := by
  refine CJ.same (cnt s w) ho (fun x h hK => k_count hK hw) ?_
  intro m h hM
  have mT := hM.1.1
  have e1 := m_count hM hw
  simp (disch := omega) only [X7_count, rr_p, rr_bp, rr_bb, rr_0, rr_lt, rr_blt, rr_le, rr_ble, rr_eq, rr_beq, rr_nl_n, rr_nl_s, rr_bnl_n, rr_bnl_s, rr_cond_t, rr_cond_f, rr_bcond_t, rr_bcond_f, rr_bon, rr_bcv, rr_cv, rr_g, rr_gr, rr_si, rr_sz, rr_sr, rr_al, rr_ld, rr_st, rr_rl, rr_rs, rr_ni, rr_nr, rr_z, rr_div, rr_rem, rr_lc, rr_mx, rr_mn, rr_ab, rr_no, gd_t, bc_t, bc_f, gd_tt, bc_tt, bc_ff, or_true, true_or, and_true, true_and, Nat.reduceAdd, mo_b_s e1]
/-! who asks is changed -/
theorem vn_set {V : List VR} {k : Nat} {w : VR} (hk : k < V.length) (i : Nat) : vn (V.set k w) i = if i = k then w else vn V i := by
  unfold vn
  simp only [List.getD_eq_getElem?_getD]
  by_cases h : i = k
  · subst h; rw [if_pos rfl, List.getElem?_set_self hk]; rfl
  · rw [if_neg h, List.getElem?_set_ne (by omega)]
theorem bro_congr {V V2 : List VR} (h : ∀ i, (vn V2 i).1 = (vn V i).1 ∧ (vn V2 i).2.1 = (vn V i).2.1 ∧ (vn V2 i).2.2.1 = (vn V i).2.2.1) : ∀ (n v : Nat) (a : Int), bro V2 n v a = bro V n v a := by
  intro n
  induction n with
  | zero => intro v a; rfl
  | succ n ih =>
    intro v a
    have e : ∀ p i, ledP V2 v p i = ledP V v p i := fun p i => by unfold ledP; rw [(h v).1, (h p.toNat).1]
    simp only [bro, ih, e, (h v).2.1, (h v).2.2]
theorem c_asked (v w : Int) (hv : am_r v) (hw : am_r w) (s : SG) (ho : OKS s) : CJ (fun x => X6_asked x v w) (fun m => X7_asked m v w) s := by
  obtain ⟨D, V, Q, d⟩ := s
  obtain ⟨⟨hD1, hD2⟩, oV, oQ, od⟩ := id ho
  dsimp only at hD1 hD2 oV oQ od
  have hv2 := hv
  unfold am_r at hv hw
  have oV1 := oV.1
  by_cases c2 : 0 ≤ v ∧ v < V.length
  · obtain ⟨l1, l2, l3, l4, l5⟩ := oV.2 v.toNat (by omega)
    have hvl : v.toNat < V.length := by omega
    by_cases c3 : 0 ≤ w ∧ w ≤ 9
    · have hset := @vn_set V v.toNat ((vn V v.toNat).1, (vn V v.toNat).2.1, (vn V v.toNat).2.2.1, w) hvl
      have hcg : ∀ i, (vn (V.set v.toNat ((vn V v.toNat).1, (vn V v.toNat).2.1, (vn V v.toNat).2.2.1, w)) i).1 = (vn V i).1 ∧ (vn (V.set v.toNat ((vn V v.toNat).1, (vn V v.toNat).2.1, (vn V v.toNat).2.2.1, w)) i).2.1 = (vn V i).2.1 ∧ (vn (V.set v.toNat ((vn V v.toNat).1, (vn V v.toNat).2.1, (vn V v.toNat).2.2.1, w)) i).2.2.1 = (vn V i).2.2.1 := by
        intro i; rw [hset]
        by_cases hi : i = v.toNat
        · rw [if_pos hi]; subst hi; exact ⟨rfl, rfl, rfl⟩
        · rw [if_neg hi]; exact ⟨rfl, rfl, rfl⟩
      refine ⟨(vn V v.toNat).2.2.2, (D, V.set v.toNat ((vn V v.toNat).1, (vn V v.toNat).2.1, (vn V v.toNat).2.2.1, w), Q, d), ⟨⟨hD1, hD2⟩, ⟨by rw [List.length_set]; exact oV1, ?_⟩, oQ, od⟩, ?_, ?_⟩
      · intro i hi
        rw [List.length_set] at hi
        obtain ⟨k1, k2, k3, k4, k5⟩ := oV.2 i hi
        obtain ⟨g1, g2, g3⟩ := hcg i
        refine ⟨by rw [g1]; exact k1, by rw [g1]; exact k2, by rw [g2]; exact k3, by rw [g3]; exact k4, ?_⟩
        rw [hset]
        by_cases hi : i = v.toNat
        · rw [if_pos hi]; exact c3
        · rw [if_neg hi]; exact k5
      · intro x h hK
        obtain ⟨hR, nD, hSc, A, B, hB⟩ := id hK
        obtain ⟨⟨o1, ⟨p0, p1, p2, p4, p6, p7, p8, p9, p10, p11, p12⟩, o3, o4, o5, o6, o7, o8, o9⟩, ⟨f3, f5, f13⟩, hA, hQ, hM, hX⟩ := id hB
        have e1 := q6_versionOrNull hB oV1 hv2
        rw [if_pos c2] at e1
        obtain ⟨w1, w2, w3, w4, w5⟩ := hA v.toNat hvl
        dsimp only at w2
        obtain ⟨v1, v2, v3, v4, v5, v6, v7, v8, v9, v10⟩ := w2
        refine ⟨ah_sF h (A v.toNat) 4 w, by simp (disch := omega) only [X6_asked, rr_p, rr_bp, rr_bb, rr_0, rr_lt, rr_blt, rr_le, rr_ble, rr_eq, rr_beq, rr_nl_n, rr_nl_s, rr_bnl_n, rr_bnl_s, rr_cond_t, rr_cond_f, rr_bcond_t, rr_bcond_f, rr_bon, rr_bcv, rr_cv, rr_g, rr_gr, rr_si, rr_sz, rr_sr, rr_al, rr_ld, rr_st, rr_rl, rr_rs, rr_ni, rr_nr, rr_z, rr_div, rr_rem, rr_lc, rr_mx, rr_mn, rr_ab, rr_no, gd_t, bc_t, bc_f, gd_tt, bc_tt, bc_ff, or_true, true_or, and_true, true_and, Nat.reduceAdd, v8, mo_b_s e1], ?_⟩
        have hs1 : ∀ lo hi, A v.toNat < lo ∨ hi ≤ A v.toNat → SM h (ah_sF h (A v.toNat) 4 w) lo hi := fun lo hi q => SM.sF q
        refine ⟨kR_sm hR (hs1 _ _ (by omega)), nD, KSc_sm hSc (hs1 _ _ (by omega)) (hs1 _ _ (by omega)), A, B, ?_⟩
        refine ⟨⟨o1, ⟨p0, p1, p2, p4, p6, p7, p8, p9, p10, p11, p12⟩, o3, o4, o5, o6, o7, o8, o9⟩, ⟨?_, ?_, ?_⟩, ?_, ?_, ?_, by dsimp only; rw [List.length_set]; exact hX⟩
        · rw [hl_F_sF_n (Or.inl (by omega))]; dsimp only; rw [List.length_set]; exact f3
        · rw [hl_F_sF_n (Or.inl (by omega))]; exact f5
        · rw [hl_F_sF_n (Or.inl (by omega))]; exact f13
        · intro i hi
          dsimp only at hi ⊢
          rw [List.length_set] at hi
          obtain ⟨y1, y2, y3, y4, y5⟩ := hA i hi
          refine ⟨y1, ?_, y3, y4, ?_⟩
          · by_cases hi2 : i = v.toNat
            · subst hi2
              rw [hset, if_pos rfl]
              refine ⟨v1, v2, v3, v4, v5, ?_, ?_, hl_F_sF_s, kR_sm v9 (hs1 _ _ (by omega)), v10⟩
              · rw [hl_F_sF_n (Or.inr (by omega))]; exact v6
              · rw [hl_F_sF_n (Or.inr (by omega))]; exact v7
            · rw [hset, if_neg hi2]
              have := hX.1 i v.toNat hi hvl hi2
              exact kV_sm y2 (hs1 _ _ (by omega))
          · intro k hk
            rw [(hcg i).1] at hk
            rw [hl_I_sF, bro_congr hcg]; exact y5 k hk
        · intro p hp
          obtain ⟨y1, y2, y3, y4⟩ := hQ p hp
          have := hX.2.2 v.toNat p hvl hp
          exact ⟨y1, kP_sm y2 (hs1 _ _ (by omega)), y3, y4⟩
        · intro u v2 hu hv
          dsimp only at hu hv ⊢
          rw [List.length_set] at hu hv
          rw [(hcg u).1, (hcg v2).1]; exact hM u v2 hu hv
      · intro m h hM
        have mT := hM.1.1
        obtain ⟨p6, t6, n6⟩ := ms6 hM.1
        have e1 := q7_isVersion hM oV1 hv2
        dsimp only at e1
        rw [bc_t c2] at e1
        obtain ⟨g1, g2, g3, g4⟩ := mVer_l hM.2.2.1 c2.1 c2.2
        dsimp only at g4
        have hF : MF m 6 7 0 0 h (ah_sI h (m + 6) v w) := MF.sI (by omega) (by omega)
        refine ⟨ah_sI h (m + 6) v w, by simp (disch := omega) only [X7_asked, X7_within, rr_p, rr_bp, rr_bb, rr_0, rr_lt, rr_blt, rr_le, rr_ble, rr_eq, rr_beq, rr_nl_n, rr_nl_s, rr_bnl_n, rr_bnl_s, rr_cond_t, rr_cond_f, rr_bcond_t, rr_bcond_f, rr_bon, rr_bcv, rr_cv, rr_g, rr_gr, rr_si, rr_sz, rr_sr, rr_al, rr_ld, rr_st, rr_rl, rr_rs, rr_ni, rr_nr, rr_z, rr_div, rr_rem, rr_lc, rr_mx, rr_mn, rr_ab, rr_no, gd_t, bc_t, bc_f, gd_tt, bc_tt, bc_ff, or_true, true_or, and_true, true_and, Nat.reduceAdd, p6, g4, mo_b_s e1], mS_fr hM.1 hF, mDesk_fr hM.2.1 hF (by omega), ⟨?_, ?_⟩, mPat_fr hM.2.2.2.1 hF (by omega), hM.2.2.2.2⟩
        · dsimp only; rw [List.length_set]; exact hM.2.2.1.1
        · intro i hi
          dsimp only at hi ⊢
          rw [List.length_set] at hi
          obtain ⟨y1, y2, y3, y4, y5⟩ := hM.2.2.1.2 i hi
          dsimp only at y1 y2 y3 y4 y5
          obtain ⟨z1, z2, z3⟩ := hcg i
          rw [z1, z2, z3]
          refine ⟨?_, fun k hk => ?_, ?_, ?_, ?_⟩
          · rw [hl_I_sI_n (Or.inl (by omega))]; exact y1
          · rw [hl_I_sI_n (Or.inl (by omega))]; exact y2 k hk
          · rw [hl_I_sI_n (Or.inl (by omega))]; exact y3
          · rw [hl_I_sI_n (Or.inl (by omega))]; exact y4
          · rw [hset, hl_I_sI]
            by_cases hi2 : i = v.toNat
            · rw [if_pos ⟨rfl, by omega⟩, if_pos hi2]
            · rw [if_neg (by omega), if_neg hi2]; exact y5
    · refine CJ.same (-102) ho ?_ ?_
      · intro x h hK
        obtain ⟨hR, nD, hSc, A, B, hB⟩ := id hK
        obtain ⟨⟨o1, ⟨p0, p1, p2, p4, p6, p7, p8, p9, p10, p11, p12⟩, o3, o4, o5, o6, o7, o8, o9⟩, ⟨f3, f5, f13⟩, hA, hQ, hM, hX⟩ := id hB
        have e1 := q6_versionOrNull hB oV1 hv2
        rw [if_pos c2] at e1
        by_cases c4 : w < 0
        · simp (disch := omega) only [X6_asked, rr_p, rr_bp, rr_bb, rr_0, rr_lt, rr_blt, rr_le, rr_ble, rr_eq, rr_beq, rr_nl_n, rr_nl_s, rr_bnl_n, rr_bnl_s, rr_cond_t, rr_cond_f, rr_bcond_t, rr_bcond_f, rr_bon, rr_bcv, rr_cv, rr_g, rr_gr, rr_si, rr_sz, rr_sr, rr_al, rr_ld, rr_st, rr_rl, rr_rs, rr_ni, rr_nr, rr_z, rr_div, rr_rem, rr_lc, rr_mx, rr_mn, rr_ab, rr_no, gd_t, bc_t, bc_f, gd_tt, bc_tt, bc_ff, or_true, true_or, and_true, true_and, Nat.reduceAdd, mo_b_s e1]
        · simp (disch := omega) only [X6_asked, rr_p, rr_bp, rr_bb, rr_0, rr_lt, rr_blt, rr_le, rr_ble, rr_eq, rr_beq, rr_nl_n, rr_nl_s, rr_bnl_n, rr_bnl_s, rr_cond_t, rr_cond_f, rr_bcond_t, rr_bcond_f, rr_bon, rr_bcv, rr_cv, rr_g, rr_gr, rr_si, rr_sz, rr_sr, rr_al, rr_ld, rr_st, rr_rl, rr_rs, rr_ni, rr_nr, rr_z, rr_div, rr_rem, rr_lc, rr_mx, rr_mn, rr_ab, rr_no, gd_t, bc_t, bc_f, gd_tt, bc_tt, bc_ff, or_true, true_or, and_true, true_and, Nat.reduceAdd, mo_b_s e1]
      · intro m h hM
        have mT := hM.1.1
        have e1 := q7_isVersion hM oV1 hv2
        dsimp only at e1
        rw [bc_t c2] at e1
        by_cases c4 : w < 0
        · simp (disch := omega) only [X7_asked, X7_within, rr_p, rr_bp, rr_bb, rr_0, rr_lt, rr_blt, rr_le, rr_ble, rr_eq, rr_beq, rr_nl_n, rr_nl_s, rr_bnl_n, rr_bnl_s, rr_cond_t, rr_cond_f, rr_bcond_t, rr_bcond_f, rr_bon, rr_bcv, rr_cv, rr_g, rr_gr, rr_si, rr_sz, rr_sr, rr_al, rr_ld, rr_st, rr_rl, rr_rs, rr_ni, rr_nr, rr_z, rr_div, rr_rem, rr_lc, rr_mx, rr_mn, rr_ab, rr_no, gd_t, bc_t, bc_f, gd_tt, bc_tt, bc_ff, or_true, true_or, and_true, true_and, Nat.reduceAdd, mo_b_s e1]
        · simp (disch := omega) only [X7_asked, X7_within, rr_p, rr_bp, rr_bb, rr_0, rr_lt, rr_blt, rr_le, rr_ble, rr_eq, rr_beq, rr_nl_n, rr_nl_s, rr_bnl_n, rr_bnl_s, rr_cond_t, rr_cond_f, rr_bcond_t, rr_bcond_f, rr_bon, rr_bcv, rr_cv, rr_g, rr_gr, rr_si, rr_sz, rr_sr, rr_al, rr_ld, rr_st, rr_rl, rr_rs, rr_ni, rr_nr, rr_z, rr_div, rr_rem, rr_lc, rr_mx, rr_mn, rr_ab, rr_no, gd_t, bc_t, bc_f, gd_tt, bc_tt, bc_ff, or_true, true_or, and_true, true_and, Nat.reduceAdd, mo_b_s e1]
  · refine CJ.same (-101) ho ?_ ?_
    · intro x h hK
      obtain ⟨hR, nD, hSc, A, B, hB⟩ := id hK
      obtain ⟨⟨o1, ⟨p0, p1, p2, p4, p6, p7, p8, p9, p10, p11, p12⟩, o3, o4, o5, o6, o7, o8, o9⟩, ⟨f3, f5, f13⟩, hA, hQ, hM, hX⟩ := id hB
      have e1 := q6_versionOrNull hB oV1 hv2
      rw [if_neg c2] at e1
      simp (disch := omega) only [X6_asked, rr_p, rr_bp, rr_bb, rr_0, rr_lt, rr_blt, rr_le, rr_ble, rr_eq, rr_beq, rr_nl_n, rr_nl_s, rr_bnl_n, rr_bnl_s, rr_cond_t, rr_cond_f, rr_bcond_t, rr_bcond_f, rr_bon, rr_bcv, rr_cv, rr_g, rr_gr, rr_si, rr_sz, rr_sr, rr_al, rr_ld, rr_st, rr_rl, rr_rs, rr_ni, rr_nr, rr_z, rr_div, rr_rem, rr_lc, rr_mx, rr_mn, rr_ab, rr_no, gd_t, bc_t, bc_f, gd_tt, bc_tt, bc_ff, or_true, true_or, and_true, true_and, Nat.reduceAdd, mo_b_s e1]
    · intro m h hM
      have mT := hM.1.1
      have e1 := q7_isVersion hM oV1 hv2
      dsimp only at e1
      rw [bc_f c2] at e1
      simp (disch := omega) only [X7_asked, rr_p, rr_bp, rr_bb, rr_0, rr_lt, rr_blt, rr_le, rr_ble, rr_eq, rr_beq, rr_nl_n, rr_nl_s, rr_bnl_n, rr_bnl_s, rr_cond_t, rr_cond_f, rr_bcond_t, rr_bcond_f, rr_bon, rr_bcv, rr_cv, rr_g, rr_gr, rr_si, rr_sz, rr_sr, rr_al, rr_ld, rr_st, rr_rl, rr_rs, rr_ni, rr_nr, rr_z, rr_div, rr_rem, rr_lc, rr_mx, rr_mn, rr_ab, rr_no, gd_t, bc_t, bc_f, gd_tt, bc_tt, bc_ff, or_true, true_or, and_true, true_and, Nat.reduceAdd, mo_b_s e1]
