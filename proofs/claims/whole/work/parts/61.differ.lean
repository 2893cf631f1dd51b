theorem MI_rows {h : AH} {m : Nat} {s : SG} (hM : MI h m s) (ho : OKS s) {u v : Int} (hu : 0 ≤ u ∧ u < s.2.1.length) (hv : 0 ≤ v ∧ v < s.2.1.length) : mRows h m u v (vn s.2.1 u.toNat).1 (vn s.2.1 v.toNat).1 := by
  have oV1 := ho.2.1.1
  refine ⟨hM.1, by omega, ⟨(mVer_l hM.2.2.1 hu.1 hu.2).1, (mVer_l hM.2.2.1 hv.1 hv.2).1⟩, fun k hk => ?_, fun k hk => ?_⟩
  · have := mVer_at hM.2.2.1 (i := (k : Int)) hu.1 hu.2 (by omega) (by omega)
    rw [Int.toNat_natCast] at this; exact this
  · have := mVer_at hM.2.2.1 (i := (k : Int)) hv.1 hv.2 (by omega) (by omega)
    rw [Int.toNat_natCast] at this; exact this
def tel (W : List HK) (w : Int) : Int := if w = 0 then (W.length : Int) else if w = 1 then ((fG W).length : Int) else if w = 2 then ((fC W).length : Int) else rm W
theorem q6_tellPatch {h : AH} {a mh ml : Nat} {W : List HK} (hP : kP h a mh ml W) {w : Int} (hw : am_r w) : X6_tellPatch (some a) w h = some (tel W w, h) := by
  unfold am_r at hw
  have t := hP.1.1.1
  have e1 := q3_hunks hP
  have e2 := q3_allGoing hP
  have e3 := q3_allComing hP
  have e4 := q3_room hP
  unfold tel rm
  by_cases c3 : w = 0
  · rw [if_pos c3]; simp (disch := omega) only [X6_tellPatch, rr_p, rr_bp, rr_bb, rr_0, rr_lt, rr_blt, rr_le, rr_ble, rr_eq, rr_beq, rr_nl_n, rr_nl_s, rr_bnl_n, rr_bnl_s, rr_cond_t, rr_cond_f, rr_bcond_t, rr_bcond_f, rr_bon, rr_bcv, rr_cv, rr_g, rr_gr, rr_si, rr_sz, rr_sr, rr_al, rr_ld, rr_st, rr_rl, rr_rs, rr_ni, rr_nr, rr_z, rr_div, rr_rem, rr_lc, rr_mx, rr_mn, rr_ab, rr_no, gd_t, bc_t, bc_f, gd_tt, bc_tt, bc_ff, or_true, true_or, and_true, true_and, Nat.reduceAdd, mo_b_s e1]
  · rw [if_neg c3]
    by_cases c3 : w = 1
    · rw [if_pos c3]; simp (disch := omega) only [X6_tellPatch, rr_p, rr_bp, rr_bb, rr_0, rr_lt, rr_blt, rr_le, rr_ble, rr_eq, rr_beq, rr_nl_n, rr_nl_s, rr_bnl_n, rr_bnl_s, rr_cond_t, rr_cond_f, rr_bcond_t, rr_bcond_f, rr_bon, rr_bcv, rr_cv, rr_g, rr_gr, rr_si, rr_sz, rr_sr, rr_al, rr_ld, rr_st, rr_rl, rr_rs, rr_ni, rr_nr, rr_z, rr_div, rr_rem, rr_lc, rr_mx, rr_mn, rr_ab, rr_no, gd_t, bc_t, bc_f, gd_tt, bc_tt, bc_ff, or_true, true_or, and_true, true_and, Nat.reduceAdd, mo_b_s e2]
    · rw [if_neg c3]
      by_cases c3 : w = 2
      · rw [if_pos c3]; simp (disch := omega) only [X6_tellPatch, rr_p, rr_bp, rr_bb, rr_0, rr_lt, rr_blt, rr_le, rr_ble, rr_eq, rr_beq, rr_nl_n, rr_nl_s, rr_bnl_n, rr_bnl_s, rr_cond_t, rr_cond_f, rr_bcond_t, rr_bcond_f, rr_bon, rr_bcv, rr_cv, rr_g, rr_gr, rr_si, rr_sz, rr_sr, rr_al, rr_ld, rr_st, rr_rl, rr_rs, rr_ni, rr_nr, rr_z, rr_div, rr_rem, rr_lc, rr_mx, rr_mn, rr_ab, rr_no, gd_t, bc_t, bc_f, gd_tt, bc_tt, bc_ff, or_true, true_or, and_true, true_and, Nat.reduceAdd, mo_b_s e3]
      · rw [if_neg c3]; simp (disch := omega) only [X6_tellPatch, rr_p, rr_bp, rr_bb, rr_0, rr_lt, rr_blt, rr_le, rr_ble, rr_eq, rr_beq, rr_nl_n, rr_nl_s, rr_bnl_n, rr_bnl_s, rr_cond_t, rr_cond_f, rr_bcond_t, rr_bcond_f, rr_bon, rr_bcv, rr_cv, rr_g, rr_gr, rr_si, rr_sz, rr_sr, rr_al, rr_ld, rr_st, rr_rl, rr_rs, rr_ni, rr_nr, rr_z, rr_div, rr_rem, rr_lc, rr_mx, rr_mn, rr_ab, rr_no, gd_t, bc_t, bc_f, gd_tt, bc_tt, bc_ff, or_true, true_or, and_true, true_and, Nat.reduceAdd, mo_b_s e4]
/-- the class writes a difference of two versions into one of its own patches -/
theorem k_diff {h : AH} {x : Nat} {s : SG} (ho : OKS s) {A B : Nat → Nat} (hB : KB h x s.2.1 s.2.2.1 s.2.2.2 A B) (hSc : KSc h x) {u v t : Nat} (hu : u < s.2.1.length) (hv : v < s.2.1.length) {W : List HK} (hP : kP h t 10 14 W) (ht : x + 11 ≤ t ∧ t + 6 ≤ x + 38) : ∃ h1 h', X6_writeDifference x (some (A u)) (some (A v)) (some t) h = some ((), h') ∧ kP h' t 10 14 (dW (vn s.2.1 u).1 (vn s.2.1 v).1) ∧ FRM h h1 (x + 8) (x + 8 + 3) ∧ FRM h1 h' t (t + 6) := by
  obtain ⟨⟨o1, ⟨p0, p1, p2, p4, p6, p7, p8, p9, p10, p11, p12⟩, o3, o4, o5, o6, o7, o8, o9⟩, ⟨f3, f5, f13⟩, hA, hQ, hM, hX⟩ := id hB
  obtain ⟨a1, a2, a3, a4, a5⟩ := hA u hu
  obtain ⟨b1, b2, b3, b4, b5⟩ := hA v hv
  obtain ⟨l1, l2, -⟩ := ho.2.1.2 u hu
  obtain ⟨k1, k2, -⟩ := ho.2.1.2 v hv
  exact q6_writeDifference o1 p7 hSc.2.2.1 hP a2 b2 (by omega) (by omega) a3 b3 (by omega) (by omega) l1 k1 l2 k2
theorem c_differ (u v w : Int) (hu : am_r u) (hv : am_r v) (hw : am_r w) (s : SG) (ho : OKS s) : CJ (fun x => X6_differ x u v w) (fun m => X7_differ m u v w) s := by
  have oV1 := ho.2.1.1
  have hu2 := hu
  have hv2 := hv
  unfold am_r at hu hv hw
  by_cases cu : 0 ≤ u ∧ u < s.2.1.length
  · by_cases cv : 0 ≤ v ∧ v < s.2.1.length
    · obtain ⟨l1, l2, -⟩ := ho.2.1.2 u.toNat (by omega)
      obtain ⟨k1, k2, -⟩ := ho.2.1.2 v.toNat (by omega)
      by_cases cw : 0 ≤ w ∧ w ≤ 4
      · refine ⟨if w = 0 then ((vn s.2.1 u.toNat).1.length : Int) - ((fG (dW (vn s.2.1 u.toNat).1 (vn s.2.1 v.toNat).1)).length : Int) else tel (dW (vn s.2.1 u.toNat).1 (vn s.2.1 v.toNat).1) (w - 1), s, ho, ?_, ?_⟩
        · intro x h hK
          obtain ⟨hR, nD, hSc, A, B, hB⟩ := id hK
          obtain ⟨⟨o1, ⟨p0, p1, p2, p4, p6, p7, p8, p9, p10, p11, p12⟩, o3, o4, o5, o6, o7, o8, o9⟩, ⟨f3, f5, f13⟩, hA, hQ, hM, hX⟩ := id hB
          have e1 := q6_versionOrNull hB oV1 hu2
          rw [if_pos cu] at e1
          have e2 := q6_versionOrNull hB oV1 hv2
          rw [if_pos cv] at e2
          obtain ⟨W1, hW1⟩ := hSc.2.2.2.1
          obtain ⟨h1, h2, e3, r3, g1, g2⟩ := k_diff ho hB hSc (u := u.toNat) (v := v.toNat) (by omega) (by omega) hW1 (by omega)
          have hSc1 := KSc_di hSc g1
          have hK1 := KI_scr hK g1 (by omega) hSc1
          have hK2 := KI_scr hK1 g2 (by omega) (KSc_p1 hSc1 g2 r3)
          obtain ⟨a1, a2, a3, a4, a5⟩ := hA u.toNat (by omega)
          have hU2 := kV_sm a2 ((SM.fr g1 (by omega)).tr (SM.fr g2 (by omega)))
          have e4 := q4_size hU2.2.2.2.2.2.2.2.2.1
          have e5 := q3_allGoing r3
          have e6 := q6_tellPatch r3 (w := w - 1) (by unfold am_r; omega)
          have tx : ah_T h2 x = 16 := by rw [g2.1, g1.1]; exact o1
          have px : ah_P h2 x 8 = some (x + 11) := by rw [g2.2.2.1, g1.2.2.1]; exact p8
          have tu := hU2.1
          have pu := hU2.2.1
          have tr := hU2.2.2.2.2.2.2.2.2.1.1
          have tp := r3.1.1.1
          refine ⟨h2, ?_, hK2⟩
          by_cases c0 : w = 0
          · rw [if_pos c0]
            simp (disch := omega) only [X6_differ, rr_p, rr_bp, rr_bb, rr_0, rr_lt, rr_blt, rr_le, rr_ble, rr_eq, rr_beq, rr_nl_n, rr_nl_s, rr_bnl_n, rr_bnl_s, rr_cond_t, rr_cond_f, rr_bcond_t, rr_bcond_f, rr_bon, rr_bcv, rr_cv, rr_g, rr_gr, rr_si, rr_sz, rr_sr, rr_al, rr_ld, rr_st, rr_rl, rr_rs, rr_ni, rr_nr, rr_z, rr_div, rr_rem, rr_lc, rr_mx, rr_mn, rr_ab, rr_no, gd_t, bc_t, bc_f, gd_tt, bc_tt, bc_ff, or_true, true_or, and_true, true_and, Nat.reduceAdd, p8, px, pu, mo_b_s e1, mo_b_s e2, mo_b_s e3, mo_b_s e4, mo_b_s e5]
          · rw [if_neg c0]
            simp (disch := omega) only [X6_differ, rr_p, rr_bp, rr_bb, rr_0, rr_lt, rr_blt, rr_le, rr_ble, rr_eq, rr_beq, rr_nl_n, rr_nl_s, rr_bnl_n, rr_bnl_s, rr_cond_t, rr_cond_f, rr_bcond_t, rr_bcond_f, rr_bon, rr_bcv, rr_cv, rr_g, rr_gr, rr_si, rr_sz, rr_sr, rr_al, rr_ld, rr_st, rr_rl, rr_rs, rr_ni, rr_nr, rr_z, rr_div, rr_rem, rr_lc, rr_mx, rr_mn, rr_ab, rr_no, gd_t, bc_t, bc_f, gd_tt, bc_tt, bc_ff, or_true, true_or, and_true, true_and, Nat.reduceAdd, p8, px, pu, mo_b_s e1, mo_b_s e2, mo_b_s e3, mo_b_s e6]
        · intro m h hM
          have mT := hM.1.1
          have e1 := q7_isVersion hM oV1 hu2
          rw [bc_t cu] at e1
          have e2 := q7_isVersion hM oV1 hv2
          rw [bc_t cv] at e2
          obtain ⟨h', e3, w3, k3, s3, f3⟩ := q7_layDifference (MI_rows hM ho cu cv) (wL_pL l2) (wL_pL k2) l1 k1
          have mT' : ah_T h' m = 17 := by rw [f3.1]; exact mT
          obtain ⟨⟨z1, z2, z3⟩, -⟩ := w3
          have e26 : ah_F h' m 26 = ((vn s.2.1 u.toNat).1.length : Int) - ((fG (dW (vn s.2.1 u.toNat).1 (vn s.2.1 v.toNat).1)).length : Int) := by omega
          refine ⟨h', ?_, MI_fr hM f3 (by omega)⟩
          unfold tel rm
          by_cases c0 : w = 0
          · rw [if_pos c0]
            simp (disch := omega) only [X7_differ, X7_within, rr_p, rr_bp, rr_bb, rr_0, rr_lt, rr_blt, rr_le, rr_ble, rr_eq, rr_beq, rr_nl_n, rr_nl_s, rr_bnl_n, rr_bnl_s, rr_cond_t, rr_cond_f, rr_bcond_t, rr_bcond_f, rr_bon, rr_bcv, rr_cv, rr_g, rr_gr, rr_si, rr_sz, rr_sr, rr_al, rr_ld, rr_st, rr_rl, rr_rs, rr_ni, rr_nr, rr_z, rr_div, rr_rem, rr_lc, rr_mx, rr_mn, rr_ab, rr_no, gd_t, bc_t, bc_f, gd_tt, bc_tt, bc_ff, or_true, true_or, and_true, true_and, Nat.reduceAdd, mo_b_s e1, mo_b_s e2, mo_b_s e3, e26]
          · rw [if_neg c0]
            by_cases c1 : w = 1
            · rw [if_pos (by omega)]
              simp (disch := omega) only [X7_differ, X7_within, rr_p, rr_bp, rr_bb, rr_0, rr_lt, rr_blt, rr_le, rr_ble, rr_eq, rr_beq, rr_nl_n, rr_nl_s, rr_bnl_n, rr_bnl_s, rr_cond_t, rr_cond_f, rr_bcond_t, rr_bcond_f, rr_bon, rr_bcv, rr_cv, rr_g, rr_gr, rr_si, rr_sz, rr_sr, rr_al, rr_ld, rr_st, rr_rl, rr_rs, rr_ni, rr_nr, rr_z, rr_div, rr_rem, rr_lc, rr_mx, rr_mn, rr_ab, rr_no, gd_t, bc_t, bc_f, gd_tt, bc_tt, bc_ff, or_true, true_or, and_true, true_and, Nat.reduceAdd, mo_b_s e1, mo_b_s e2, mo_b_s e3, z1]
            · rw [if_neg (by omega)]
              by_cases c2 : w = 2
              · rw [if_pos (by omega)]
                simp (disch := omega) only [X7_differ, X7_within, rr_p, rr_bp, rr_bb, rr_0, rr_lt, rr_blt, rr_le, rr_ble, rr_eq, rr_beq, rr_nl_n, rr_nl_s, rr_bnl_n, rr_bnl_s, rr_cond_t, rr_cond_f, rr_bcond_t, rr_bcond_f, rr_bon, rr_bcv, rr_cv, rr_g, rr_gr, rr_si, rr_sz, rr_sr, rr_al, rr_ld, rr_st, rr_rl, rr_rs, rr_ni, rr_nr, rr_z, rr_div, rr_rem, rr_lc, rr_mx, rr_mn, rr_ab, rr_no, gd_t, bc_t, bc_f, gd_tt, bc_tt, bc_ff, or_true, true_or, and_true, true_and, Nat.reduceAdd, mo_b_s e1, mo_b_s e2, mo_b_s e3, z2]
              · rw [if_neg (by omega)]
                by_cases c3 : w = 3
                · rw [if_pos (by omega)]
                  simp (disch := omega) only [X7_differ, X7_within, rr_p, rr_bp, rr_bb, rr_0, rr_lt, rr_blt, rr_le, rr_ble, rr_eq, rr_beq, rr_nl_n, rr_nl_s, rr_bnl_n, rr_bnl_s, rr_cond_t, rr_cond_f, rr_bcond_t, rr_bcond_f, rr_bon, rr_bcv, rr_cv, rr_g, rr_gr, rr_si, rr_sz, rr_sr, rr_al, rr_ld, rr_st, rr_rl, rr_rs, rr_ni, rr_nr, rr_z, rr_div, rr_rem, rr_lc, rr_mx, rr_mn, rr_ab, rr_no, gd_t, bc_t, bc_f, gd_tt, bc_tt, bc_ff, or_true, true_or, and_true, true_and, Nat.reduceAdd, mo_b_s e1, mo_b_s e2, mo_b_s e3, z3]
                · rw [if_neg (by omega)]
                  simp (disch := omega) only [X7_differ, X7_within, X7_workRoom, rr_p, rr_bp, rr_bb, rr_0, rr_lt, rr_blt, rr_le, rr_ble, rr_eq, rr_beq, rr_nl_n, rr_nl_s, rr_bnl_n, rr_bnl_s, rr_cond_t, rr_cond_f, rr_bcond_t, rr_bcond_f, rr_bon, rr_bcv, rr_cv, rr_g, rr_gr, rr_si, rr_sz, rr_sr, rr_al, rr_ld, rr_st, rr_rl, rr_rs, rr_ni, rr_nr, rr_z, rr_div, rr_rem, rr_lc, rr_mx, rr_mn, rr_ab, rr_no, gd_t, bc_t, bc_f, gd_tt, bc_tt, bc_ff, or_true, true_or, and_true, true_and, Nat.reduceAdd, mo_b_s e1, mo_b_s e2, mo_b_s e3, z1, z3]
      · refine CJ.same (-102) ho ?_ ?_
        · intro x h hK
          obtain ⟨hR, nD, hSc, A, B, hB⟩ := id hK
          obtain ⟨⟨o1, ⟨p0, p1, p2, p4, p6, p7, p8, p9, p10, p11, p12⟩, o3, o4, o5, o6, o7, o8, o9⟩, ⟨f3, f5, f13⟩, hA, hQ, hM, hX⟩ := id hB
          have e1 := q6_versionOrNull hB oV1 hu2
          rw [if_pos cu] at e1
          have e2 := q6_versionOrNull hB oV1 hv2
          rw [if_pos cv] at e2
          by_cases c0 : w < 0
          · simp (disch := omega) only [X6_differ, rr_p, rr_bp, rr_bb, rr_0, rr_lt, rr_blt, rr_le, rr_ble, rr_eq, rr_beq, rr_nl_n, rr_nl_s, rr_bnl_n, rr_bnl_s, rr_cond_t, rr_cond_f, rr_bcond_t, rr_bcond_f, rr_bon, rr_bcv, rr_cv, rr_g, rr_gr, rr_si, rr_sz, rr_sr, rr_al, rr_ld, rr_st, rr_rl, rr_rs, rr_ni, rr_nr, rr_z, rr_div, rr_rem, rr_lc, rr_mx, rr_mn, rr_ab, rr_no, gd_t, bc_t, bc_f, gd_tt, bc_tt, bc_ff, or_true, true_or, and_true, true_and, Nat.reduceAdd, mo_b_s e1, mo_b_s e2]
          · simp (disch := omega) only [X6_differ, rr_p, rr_bp, rr_bb, rr_0, rr_lt, rr_blt, rr_le, rr_ble, rr_eq, rr_beq, rr_nl_n, rr_nl_s, rr_bnl_n, rr_bnl_s, rr_cond_t, rr_cond_f, rr_bcond_t, rr_bcond_f, rr_bon, rr_bcv, rr_cv, rr_g, rr_gr, rr_si, rr_sz, rr_sr, rr_al, rr_ld, rr_st, rr_rl, rr_rs, rr_ni, rr_nr, rr_z, rr_div, rr_rem, rr_lc, rr_mx, rr_mn, rr_ab, rr_no, gd_t, bc_t, bc_f, gd_tt, bc_tt, bc_ff, or_true, true_or, and_true, true_and, Nat.reduceAdd, mo_b_s e1, mo_b_s e2]
        · intro m h hM
          have mT := hM.1.1
          have e1 := q7_isVersion hM oV1 hu2
          rw [bc_t cu] at e1
          have e2 := q7_isVersion hM oV1 hv2
          rw [bc_t cv] at e2
          by_cases c0 : w < 0
          · simp (disch := omega) only [X7_differ, X7_within, rr_p, rr_bp, rr_bb, rr_0, rr_lt, rr_blt, rr_le, rr_ble, rr_eq, rr_beq, rr_nl_n, rr_nl_s, rr_bnl_n, rr_bnl_s, rr_cond_t, rr_cond_f, rr_bcond_t, rr_bcond_f, rr_bon, rr_bcv, rr_cv, rr_g, rr_gr, rr_si, rr_sz, rr_sr, rr_al, rr_ld, rr_st, rr_rl, rr_rs, rr_ni, rr_nr, rr_z, rr_div, rr_rem, rr_lc, rr_mx, rr_mn, rr_ab, rr_no, gd_t, bc_t, bc_f, gd_tt, bc_tt, bc_ff, or_true, true_or, and_true, true_and, Nat.reduceAdd, mo_b_s e1, mo_b_s e2]
          · simp (disch := omega) only [X7_differ, X7_within, rr_p, rr_bp, rr_bb, rr_0, rr_lt, rr_blt, rr_le, rr_ble, rr_eq, rr_beq, rr_nl_n, rr_nl_s, rr_bnl_n, rr_bnl_s, rr_cond_t, rr_cond_f, rr_bcond_t, rr_bcond_f, rr_bon, rr_bcv, rr_cv, rr_g, rr_gr, rr_si, rr_sz, rr_sr, rr_al, rr_ld, rr_st, rr_rl, rr_rs, rr_ni, rr_nr, rr_z, rr_div, rr_rem, rr_lc, rr_mx, rr_mn, rr_ab, rr_no, gd_t, bc_t, bc_f, gd_tt, bc_tt, bc_ff, or_true, true_or, and_true, true_and, Nat.reduceAdd, mo_b_s e1, mo_b_s e2]
    · refine CJ.same (-101) ho ?_ ?_
      · intro x h hK
        obtain ⟨hR, nD, hSc, A, B, hB⟩ := id hK
        obtain ⟨⟨o1, ⟨p0, p1, p2, p4, p6, p7, p8, p9, p10, p11, p12⟩, o3, o4, o5, o6, o7, o8, o9⟩, ⟨f3, f5, f13⟩, hA, hQ, hM, hX⟩ := id hB
        have e1 := q6_versionOrNull hB oV1 hu2
        rw [if_pos cu] at e1
        have e2 := q6_versionOrNull hB oV1 hv2
        rw [if_neg cv] at e2
        simp (disch := omega) only [X6_differ, rr_p, rr_bp, rr_bb, rr_0, rr_lt, rr_blt, rr_le, rr_ble, rr_eq, rr_beq, rr_nl_n, rr_nl_s, rr_bnl_n, rr_bnl_s, rr_cond_t, rr_cond_f, rr_bcond_t, rr_bcond_f, rr_bon, rr_bcv, rr_cv, rr_g, rr_gr, rr_si, rr_sz, rr_sr, rr_al, rr_ld, rr_st, rr_rl, rr_rs, rr_ni, rr_nr, rr_z, rr_div, rr_rem, rr_lc, rr_mx, rr_mn, rr_ab, rr_no, gd_t, bc_t, bc_f, gd_tt, bc_tt, bc_ff, or_true, true_or, and_true, true_and, Nat.reduceAdd, mo_b_s e1, mo_b_s e2]
      · intro m h hM
        have mT := hM.1.1
        have e1 := q7_isVersion hM oV1 hu2
        rw [bc_t cu] at e1
        have e2 := q7_isVersion hM oV1 hv2
        rw [bc_f cv] at e2
        simp (disch := omega) only [X7_differ, rr_p, rr_bp, rr_bb, rr_0, rr_lt, rr_blt, rr_le, rr_ble, rr_eq, rr_beq, rr_nl_n, rr_nl_s, rr_bnl_n, rr_bnl_s, rr_cond_t, rr_cond_f, rr_bcond_t, rr_bcond_f, rr_bon, rr_bcv, rr_cv, rr_g, rr_gr, rr_si, rr_sz, rr_sr, rr_al, rr_ld, rr_st, rr_rl, rr_rs, rr_ni, rr_nr, rr_z, rr_div, rr_rem, rr_lc, rr_mx, rr_mn, rr_ab, rr_no, gd_t, bc_t, bc_f, gd_tt, bc_tt, bc_ff, or_true, true_or, and_true, true_and, Nat.reduceAdd, mo_b_s e1, mo_b_s e2]
  · refine CJ.same (-101) ho ?_ ?_
    · intro x h hK
      obtain ⟨hR, nD, hSc, A, B, hB⟩ := id hK
      obtain ⟨⟨o1, ⟨p0, p1, p2, p4, p6, p7, p8, p9, p10, p11, p12⟩, o3, o4, o5, o6, o7, o8, o9⟩, ⟨f3, f5, f13⟩, hA, hQ, hM, hX⟩ := id hB
      have e1 := q6_versionOrNull hB oV1 hu2
      rw [if_neg cu] at e1
      have e2 := q6_versionOrNull hB oV1 hv2
      simp (disch := omega) only [X6_differ, rr_p, rr_bp, rr_bb, rr_0, rr_lt, rr_blt, rr_le, rr_ble, rr_eq, rr_beq, rr_nl_n, rr_nl_s, rr_bnl_n, rr_bnl_s, rr_cond_t, rr_cond_f, rr_bcond_t, rr_bcond_f, rr_bon, rr_bcv, rr_cv, rr_g, rr_gr, rr_si, rr_sz, rr_sr, rr_al, rr_ld, rr_st, rr_rl, rr_rs, rr_ni, rr_nr, rr_z, rr_div, rr_rem, rr_lc, rr_mx, rr_mn, rr_ab, rr_no, gd_t, bc_t, bc_f, gd_tt, bc_tt, bc_ff, or_true, true_or, and_true, true_and, Nat.reduceAdd, mo_b_s e1, mo_b_s e2]
    · intro m h hM
      have mT := hM.1.1
      have e1 := q7_isVersion hM oV1 hu2
      rw [bc_f cu] at e1
      simp (disch := omega) only [X7_differ, rr_p, rr_bp, rr_bb, rr_0, rr_lt, rr_blt, rr_le, rr_ble, rr_eq, rr_beq, rr_nl_n, rr_nl_s, rr_bnl_n, rr_bnl_s, rr_cond_t, rr_cond_f, rr_bcond_t, rr_bcond_f, rr_bon, rr_bcv, rr_cv, rr_g, rr_gr, rr_si, rr_sz, rr_sr, rr_al, rr_ld, rr_st, rr_rl, rr_rs, rr_ni, rr_nr, rr_z, rr_div, rr_rem, rr_lc, rr_mx, rr_mn, rr_ab, rr_no, gd_t, bc_t, bc_f, gd_tt, bc_tt, bc_ff, or_true, true_or, and_true, true_and, Nat.reduceAdd, mo_b_s e1]
theorem c_kept (u v w : Int) (hu : am_r u) (hv : am_r v) (hw : am_r w) (s : SG) (ho : OKS s) : CJ (fun x => X6_kept x u v w) (fun m => X7_kept m u v w) s := by
  have oV1 := ho.2.1.1
  have hu2 := hu
  have hv2 := hv
  unfold am_r at hu hv hw
  by_cases cu : 0 ≤ u ∧ u < s.2.1.length
  · by_cases cv : 0 ≤ v ∧ v < s.2.1.length
    · obtain ⟨l1, l2, -⟩ := ho.2.1.2 u.toNat (by omega)
      obtain ⟨k1, k2, -⟩ := ho.2.1.2 v.toNat (by omega)
      by_cases cw : 0 ≤ w ∧ w < (vn s.2.1 u.toNat).1.length
      · refine ⟨(trc (vn s.2.1 u.toNat).1 (vn s.2.1 v.toNat).1 0).getD w.toNat 0, s, ho, ?_, ?_⟩
        · intro x h hK
          obtain ⟨hR, nD, hSc, A, B, hB⟩ := id hK
          obtain ⟨⟨o1, ⟨p0, p1, p2, p4, p6, p7, p8, p9, p10, p11, p12⟩, o3, o4, o5, o6, o7, o8, o9⟩, ⟨f3, f5, f13⟩, hA, hQ, hM, hX⟩ := id hB
          have e1 := q6_versionOrNull hB oV1 hu2
          rw [if_pos cu] at e1
          have e2 := q6_versionOrNull hB oV1 hv2
          rw [if_pos cv] at e2
          obtain ⟨a1, a2, a3, a4, a5⟩ := hA u.toNat (by omega)
          obtain ⟨b1, b2, b3, b4, b5⟩ := hA v.toNat (by omega)
          obtain ⟨u1, u2, u3, u4, u5, u6, u7, u8, u9, u10⟩ := a2
          obtain ⟨v1, v2, v3, v4, v5, v6, v7, v8, v9, v10⟩ := b2
          have hD := hSc.2.2.1
          obtain ⟨h1, e3, m3, g1⟩ := q1_find hD u9 v9 (by omega) (by omega) (wL_pL l2) (wL_pL k2) l1 k1
          have hD1 := kDs_fr hD g1
          have e4 := q1_mate hD1 (i := w) (by omega)
          have m4 := m3 w.toNat (by omega)
          rw [Int.toNat_of_nonneg cw.1] at m4
          rw [m4] at e4
          have e5 := q4_size u9
          have tu := u9.1
          have td := hD.1
          have td1 := hD1.1
          have tx : ah_T h1 x = 16 := by rw [g1.1]; exact o1
          have px : ah_P h1 x 7 = some (x + 8) := by rw [g1.2.2.1]; exact p7
          exact ⟨h1, by simp (disch := omega) only [X6_kept, rr_p, rr_bp, rr_bb, rr_0, rr_lt, rr_blt, rr_le, rr_ble, rr_eq, rr_beq, rr_nl_n, rr_nl_s, rr_bnl_n, rr_bnl_s, rr_cond_t, rr_cond_f, rr_bcond_t, rr_bcond_f, rr_bon, rr_bcv, rr_cv, rr_g, rr_gr, rr_si, rr_sz, rr_sr, rr_al, rr_ld, rr_st, rr_rl, rr_rs, rr_ni, rr_nr, rr_z, rr_div, rr_rem, rr_lc, rr_mx, rr_mn, rr_ab, rr_no, gd_t, bc_t, bc_f, gd_tt, bc_tt, bc_ff, or_true, true_or, and_true, true_and, Nat.reduceAdd, p7, px, u2, v2, mo_b_s e1, mo_b_s e2, mo_b_s e3, mo_b_s e4, mo_b_s e5], KI_scr hK g1 (by omega) (KSc_di hSc g1)⟩
        · intro m h hM
          have mT := hM.1.1
          obtain ⟨p2, t2, n2⟩ := ms2 hM.1
          have e1 := q7_isVersion hM oV1 hu2
          rw [bc_t cu] at e1
          have e2 := q7_isVersion hM oV1 hv2
          rw [bc_t cv] at e2
          have hl := (mVer_l hM.2.2.1 cu.1 cu.2).1
          obtain ⟨h', e3, w3, k3, s3, f3⟩ := q7_layDifference (MI_rows hM ho cu cv) (wL_pL l2) (wL_pL k2) l1 k1
          have mT' : ah_T h' m = 17 := by rw [f3.1]; exact mT
          obtain ⟨p19, t19, n19⟩ := ms19 (mS_fr hM.1 f3)
          have m4 := k3 w.toNat (by omega)
          rw [Int.toNat_of_nonneg cw.1] at m4
          exact ⟨h', by simp (disch := omega) only [X7_kept, X7_within, rr_p, rr_bp, rr_bb, rr_0, rr_lt, rr_blt, rr_le, rr_ble, rr_eq, rr_beq, rr_nl_n, rr_nl_s, rr_bnl_n, rr_bnl_s, rr_cond_t, rr_cond_f, rr_bcond_t, rr_bcond_f, rr_bon, rr_bcv, rr_cv, rr_g, rr_gr, rr_si, rr_sz, rr_sr, rr_al, rr_ld, rr_st, rr_rl, rr_rs, rr_ni, rr_nr, rr_z, rr_div, rr_rem, rr_lc, rr_mx, rr_mn, rr_ab, rr_no, gd_t, bc_t, bc_f, gd_tt, bc_tt, bc_ff, or_true, true_or, and_true, true_and, Nat.reduceAdd, p2, hl, p19, mo_b_s e1, mo_b_s e2, mo_b_s e3, m4], MI_fr hM f3 (by omega)⟩
      · refine CJ.same (-101) ho ?_ ?_
        · intro x h hK
          obtain ⟨hR, nD, hSc, A, B, hB⟩ := id hK
          obtain ⟨⟨o1, ⟨p0, p1, p2, p4, p6, p7, p8, p9, p10, p11, p12⟩, o3, o4, o5, o6, o7, o8, o9⟩, ⟨f3, f5, f13⟩, hA, hQ, hM, hX⟩ := id hB
          have e1 := q6_versionOrNull hB oV1 hu2
          rw [if_pos cu] at e1
          have e2 := q6_versionOrNull hB oV1 hv2
          rw [if_pos cv] at e2
          obtain ⟨a1, a2, a3, a4, a5⟩ := hA u.toNat (by omega)
          obtain ⟨u1, u2, u3, u4, u5, u6, u7, u8, u9, u10⟩ := a2
          have e5 := q4_size u9
          have tu := u9.1
          by_cases c0 : w < 0
          · simp (disch := omega) only [X6_kept, rr_p, rr_bp, rr_bb, rr_0, rr_lt, rr_blt, rr_le, rr_ble, rr_eq, rr_beq, rr_nl_n, rr_nl_s, rr_bnl_n, rr_bnl_s, rr_cond_t, rr_cond_f, rr_bcond_t, rr_bcond_f, rr_bon, rr_bcv, rr_cv, rr_g, rr_gr, rr_si, rr_sz, rr_sr, rr_al, rr_ld, rr_st, rr_rl, rr_rs, rr_ni, rr_nr, rr_z, rr_div, rr_rem, rr_lc, rr_mx, rr_mn, rr_ab, rr_no, gd_t, bc_t, bc_f, gd_tt, bc_tt, bc_ff, or_true, true_or, and_true, true_and, Nat.reduceAdd, u2, mo_b_s e1, mo_b_s e2, mo_b_s e5]
          · simp (disch := omega) only [X6_kept, rr_p, rr_bp, rr_bb, rr_0, rr_lt, rr_blt, rr_le, rr_ble, rr_eq, rr_beq, rr_nl_n, rr_nl_s, rr_bnl_n, rr_bnl_s, rr_cond_t, rr_cond_f, rr_bcond_t, rr_bcond_f, rr_bon, rr_bcv, rr_cv, rr_g, rr_gr, rr_si, rr_sz, rr_sr, rr_al, rr_ld, rr_st, rr_rl, rr_rs, rr_ni, rr_nr, rr_z, rr_div, rr_rem, rr_lc, rr_mx, rr_mn, rr_ab, rr_no, gd_t, bc_t, bc_f, gd_tt, bc_tt, bc_ff, or_true, true_or, and_true, true_and, Nat.reduceAdd, u2, mo_b_s e1, mo_b_s e2, mo_b_s e5]
        · intro m h hM
          have mT := hM.1.1
          obtain ⟨p2, t2, n2⟩ := ms2 hM.1
          have hl := (mVer_l hM.2.2.1 cu.1 cu.2).1
          have e1 := q7_isVersion hM oV1 hu2
          rw [bc_t cu] at e1
          have e2 := q7_isVersion hM oV1 hv2
          rw [bc_t cv] at e2
          by_cases c0 : w < 0
          · simp (disch := omega) only [X7_kept, X7_within, rr_p, rr_bp, rr_bb, rr_0, rr_lt, rr_blt, rr_le, rr_ble, rr_eq, rr_beq, rr_nl_n, rr_nl_s, rr_bnl_n, rr_bnl_s, rr_cond_t, rr_cond_f, rr_bcond_t, rr_bcond_f, rr_bon, rr_bcv, rr_cv, rr_g, rr_gr, rr_si, rr_sz, rr_sr, rr_al, rr_ld, rr_st, rr_rl, rr_rs, rr_ni, rr_nr, rr_z, rr_div, rr_rem, rr_lc, rr_mx, rr_mn, rr_ab, rr_no, gd_t, bc_t, bc_f, gd_tt, bc_tt, bc_ff, or_true, true_or, and_true, true_and, Nat.reduceAdd, p2, hl, mo_b_s e1, mo_b_s e2]
          · simp (disch := omega) only [X7_kept, X7_within, rr_p, rr_bp, rr_bb, rr_0, rr_lt, rr_blt, rr_le, rr_ble, rr_eq, rr_beq, rr_nl_n, rr_nl_s, rr_bnl_n, rr_bnl_s, rr_cond_t, rr_cond_f, rr_bcond_t, rr_bcond_f, rr_bon, rr_bcv, rr_cv, rr_g, rr_gr, rr_si, rr_sz, rr_sr, rr_al, rr_ld, rr_st, rr_rl, rr_rs, rr_ni, rr_nr, rr_z, rr_div, rr_rem, rr_lc, rr_mx, rr_mn, rr_ab, rr_no, gd_t, bc_t, bc_f, gd_tt, bc_tt, bc_ff, or_true, true_or, and_true, true_and, Nat.reduceAdd, p2, hl, mo_b_s e1, mo_b_s e2]
    · refine CJ.same (-101) ho ?_ ?_
      · intro x h hK
        obtain ⟨hR, nD, hSc, A, B, hB⟩ := id hK
        obtain ⟨⟨o1, ⟨p0, p1, p2, p4, p6, p7, p8, p9, p10, p11, p12⟩, o3, o4, o5, o6, o7, o8, o9⟩, ⟨f3, f5, f13⟩, hA, hQ, hM, hX⟩ := id hB
        have e1 := q6_versionOrNull hB oV1 hu2
        rw [if_pos cu] at e1
        have e2 := q6_versionOrNull hB oV1 hv2
        rw [if_neg cv] at e2
        simp (disch := omega) only [X6_kept, rr_p, rr_bp, rr_bb, rr_0, rr_lt, rr_blt, rr_le, rr_ble, rr_eq, rr_beq, rr_nl_n, rr_nl_s, rr_bnl_n, rr_bnl_s, rr_cond_t, rr_cond_f, rr_bcond_t, rr_bcond_f, rr_bon, rr_bcv, rr_cv, rr_g, rr_gr, rr_si, rr_sz, rr_sr, rr_al, rr_ld, rr_st, rr_rl, rr_rs, rr_ni, rr_nr, rr_z, rr_div, rr_rem, rr_lc, rr_mx, rr_mn, rr_ab, rr_no, gd_t, bc_t, bc_f, gd_tt, bc_tt, bc_ff, or_true, true_or, and_true, true_and, Nat.reduceAdd, mo_b_s e1, mo_b_s e2]
      · intro m h hM
        have mT := hM.1.1
        have e1 := q7_isVersion hM oV1 hu2
        rw [bc_t cu] at e1
        have e2 := q7_isVersion hM oV1 hv2
        rw [bc_f cv] at e2
        simp (disch := omega) only [X7_kept, rr_p, rr_bp, rr_bb, rr_0, rr_lt, rr_blt, rr_le, rr_ble, rr_eq, rr_beq, rr_nl_n, rr_nl_s, rr_bnl_n, rr_bnl_s, rr_cond_t, rr_cond_f, rr_bcond_t, rr_bcond_f, rr_bon, rr_bcv, rr_cv, rr_g, rr_gr, rr_si, rr_sz, rr_sr, rr_al, rr_ld, rr_st, rr_rl, rr_rs, rr_ni, rr_nr, rr_z, rr_div, rr_rem, rr_lc, rr_mx, rr_mn, rr_ab, rr_no, gd_t, bc_t, bc_f, gd_tt, bc_tt, bc_ff, or_true, true_or, and_true, true_and, Nat.reduceAdd, mo_b_s e1, mo_b_s e2]
  · refine CJ.same (-101) ho ?_ ?_
    · intro x h hK
      obtain ⟨hR, nD, hSc, A, B, hB⟩ := id hK
      obtain ⟨⟨o1, ⟨p0, p1, p2, p4, p6, p7, p8, p9, p10, p11, p12⟩, o3, o4, o5, o6, o7, o8, o9⟩, ⟨f3, f5, f13⟩, hA, hQ, hM, hX⟩ := id hB
      have e1 := q6_versionOrNull hB oV1 hu2
      rw [if_neg cu] at e1
      have e2 := q6_versionOrNull hB oV1 hv2
      simp (disch := omega) only [X6_kept, rr_p, rr_bp, rr_bb, rr_0, rr_lt, rr_blt, rr_le, rr_ble, rr_eq, rr_beq, rr_nl_n, rr_nl_s, rr_bnl_n, rr_bnl_s, rr_cond_t, rr_cond_f, rr_bcond_t, rr_bcond_f, rr_bon, rr_bcv, rr_cv, rr_g, rr_gr, rr_si, rr_sz, rr_sr, rr_al, rr_ld, rr_st, rr_rl, rr_rs, rr_ni, rr_nr, rr_z, rr_div, rr_rem, rr_lc, rr_mx, rr_mn, rr_ab, rr_no, gd_t, bc_t, bc_f, gd_tt, bc_tt, bc_ff, or_true, true_or, and_true, true_and, Nat.reduceAdd, mo_b_s e1, mo_b_s e2]
    · intro m h hM
      have mT := hM.1.1
      have e1 := q7_isVersion hM oV1 hu2
      rw [bc_f cu] at e1
      simp (disch := omega) only [X7_kept, rr_p, rr_bp, rr_bb, rr_0, rr_lt, rr_blt, rr_le, rr_ble, rr_eq, rr_beq, rr_nl_n, rr_nl_s, rr_bnl_n, rr_bnl_s, rr_cond_t, rr_cond_f, rr_bcond_t, rr_bcond_f, rr_bon, rr_bcv, rr_cv, rr_g, rr_gr, rr_si, rr_sz, rr_sr, rr_al, rr_ld, rr_st, rr_rl, rr_rs, rr_ni, rr_nr, rr_z, rr_div, rr_rem, rr_lc, rr_mx, rr_mn, rr_ab, rr_no, gd_t, bc_t, bc_f, gd_tt, bc_tt, bc_ff, or_true, true_or, and_true, true_and, Nat.reduceAdd, mo_b_s e1]
theorem OQ_b {Q : List (List HK)} (h : OQ Q) : ∀ p, p < Q.length → (pt Q p).length ≤ 10 ∧ (fG (pt Q p)).length ≤ 28 ∧ (fC (pt Q p)).length ≤ 28 := fun p hp => by
  have := h.2 p hp
  exact ⟨this.2.1, this.2.2.1, this.2.2.2.1⟩
theorem q6_hasRoom {h : AH} {x d : Nat} {V : List VR} {Q : List (List HK)} {A B : Nat → Nat} (hK : KB h x V Q d A B) (hl : Q.length ≤ 12) {n : Int} (hn : 0 ≤ n ∧ n ≤ 10) : X6_hasRoomForPatches x n h = some (br ((Q.length : Int) + n ≤ 12) 1 0, h) := by
  have t := hK.1.1
  have f5 := hK.2.1.2.1
  by_cases c : (Q.length : Int) + n ≤ 12
  · rw [bc_t c]; simp (disch := omega) only [X6_hasRoomForPatches, rr_p, rr_bp, rr_bb, rr_0, rr_lt, rr_blt, rr_le, rr_ble, rr_eq, rr_beq, rr_nl_n, rr_nl_s, rr_bnl_n, rr_bnl_s, rr_cond_t, rr_cond_f, rr_bcond_t, rr_bcond_f, rr_bon, rr_bcv, rr_cv, rr_g, rr_gr, rr_si, rr_sz, rr_sr, rr_al, rr_ld, rr_st, rr_rl, rr_rs, rr_ni, rr_nr, rr_z, rr_div, rr_rem, rr_lc, rr_mx, rr_mn, rr_ab, rr_no, gd_t, bc_t, bc_f, gd_tt, bc_tt, bc_ff, or_true, true_or, and_true, true_and, Nat.reduceAdd, f5]
  · rw [bc_f c]; simp (disch := omega) only [X6_hasRoomForPatches, rr_p, rr_bp, rr_bb, rr_0, rr_lt, rr_blt, rr_le, rr_ble, rr_eq, rr_beq, rr_nl_n, rr_nl_s, rr_bnl_n, rr_bnl_s, rr_cond_t, rr_cond_f, rr_bcond_t, rr_bcond_f, rr_bon, rr_bcv, rr_cv, rr_g, rr_gr, rr_si, rr_sz, rr_sr, rr_al, rr_ld, rr_st, rr_rl, rr_rs, rr_ni, rr_nr, rr_z, rr_div, rr_rem, rr_lc, rr_mx, rr_mn, rr_ab, rr_no, gd_t, bc_t, bc_f, gd_tt, bc_tt, bc_ff, or_true, true_or, and_true, true_and, Nat.reduceAdd, f5]
/-- a new patch, written into, is added -/
theorem k_added {h h2 : AH} {x : Nat} {D : List Int} {V : List VR} {Q : List (List HK)} {d : Nat} {A B : Nat → Nat} {W : List HK} (hB : KB h x V Q d A B) (hl : Q.length < 12) (s0 : SM h h2 x (x + 1)) (s1 : SM h h2 (x + 5) (x + 8)) (s2 : SM h h2 (x + 38) (ah_S h)) (hS : ah_S h + 6 ≤ ah_S h2) (hR : kR h2 (x + 1) D) (nD : ah_N h2 (x + 2) = 14) (hSc : KSc h2 x) (hP : kP h2 (ah_S h) 10 28 W) : ∃ h3, X6_addPatch x (some (ah_S h)) h2 = some ((Q.length : Int), h3) ∧ KI h3 x (D, V, Q ++ [W], d) := by
  have hB2 := KB_sm hB s0 s1 s2 (by omega)
  have o9 := hB.1.2.2.2.2.2.2.2.2
  obtain ⟨h3, e3, b3, q3, -⟩ := q6_addPatch hB2 hl hP (by omega) (by omega) (fun v hv => (hB.2.2.1 v hv).2.2.2.1) (fun p hp => (hB.2.2.2.1 p hp).2.2.2)
  exact ⟨h3, e3, kR_sm hR (q3 _ _ (by omega)), by rw [(q3 (x + 2) (x + 3) (by omega) (x + 2) (by omega) (by omega)).2.1]; exact nD, KSc_sm hSc (q3 _ _ (by omega)) (q3 _ _ (by omega)), A, _, b3⟩
theorem c_patch (u v : Int) (hu : am_r u) (hv : am_r v) (s : SG) (ho : OKS s) : CJ (fun x => X6_patch x u v) (fun m => X7_patch m u v) s := by
  obtain ⟨D, V, Q, d⟩ := s
  obtain ⟨⟨hD1, hD2⟩, oV, oQ, od⟩ := id ho
  dsimp only at hD1 hD2 oV oQ od
  have oV1 := oV.1
  have oQ1 := oQ.1
  have hu2 := hu
  have hv2 := hv
  unfold am_r at hu hv
  by_cases cu : 0 ≤ u ∧ u < V.length
  · by_cases cv : 0 ≤ v ∧ v < V.length
    · obtain ⟨l1, l2, -⟩ := oV.2 u.toNat (by omega)
      obtain ⟨k1, k2, -⟩ := oV.2 v.toNat (by omega)
      by_cases cq : Q.length < 12
      · have hOP := dW_OP l2 k2 l1 k1 (b := 14 + 28 * ((Q.length : Int) + 1)) (by omega)
        refine ⟨(Q.length : Int), (D, V, Q ++ [dW (vn V u.toNat).1 (vn V v.toNat).1], d), ⟨⟨hD1, hD2⟩, oV, OQ_add oQ cq hOP, od⟩, ?_, ?_⟩
        · intro x h hK
          obtain ⟨hR, nD, hSc, A, B, hB⟩ := id hK
          obtain ⟨⟨o1, ⟨p0, p1, p2, p4, p6, p7, p8, p9, p10, p11, p12⟩, o3, o4, o5, o6, o7, o8, o9⟩, ⟨f3, f5, f13⟩, hA, hQ, hM, hX⟩ := id hB
          dsimp only at hR hB hA hQ hM hX f3 f5 f13
          have e1 := q6_versionOrNull hB oV1 hu2
          rw [if_pos cu] at e1
          have e2 := q6_versionOrNull hB oV1 hv2
          rw [if_pos cv] at e2
          have e3 := q6_hasRoom hB oQ1 (n := 1) (by omega)
          rw [bc_t (by omega)] at e3
          obtain ⟨h1, e4, r4, s4, z4⟩ := q6_newPatch (h := h)
          obtain ⟨a1, a2, a3, a4, a5⟩ := hA u.toNat (by omega)
          obtain ⟨b1, b2, b3, b4, b5⟩ := hA v.toNat (by omega)
          have hSc1 := KSc_sm hSc (s4.mono (by omega) (by omega)) (s4.mono (by omega) (by omega))
          have cx := s4 x (by omega) (by omega)
          have tx1 : ah_T h1 x = 16 := by rw [cx.1]; exact o1
          have px1 : ah_P h1 x 7 = some (x + 8) := by rw [cx.2.2.2.1]; exact p7
          obtain ⟨h2, h3, e5, r5, g1, g2⟩ := q6_writeDifference tx1 px1 hSc1.2.2.1 r4 (kV_sm a2 (s4.mono (by omega) (by omega))) (kV_sm b2 (s4.mono (by omega) (by omega))) (by omega) (by omega) a3 b3 (by omega) (by omega) l1 k1 l2 k2
          have tx3 : ah_T h3 x = 16 := by rw [g2.1, g1.1]; exact tx1
          obtain ⟨h4, e6, K4⟩ := k_added (D := D) hB cq (((s4.mono (by omega) (by omega)).tr (SM.fr g1 (by omega))).tr (SM.fr g2 (by omega))) (((s4.mono (by omega) (by omega)).tr (SM.fr g1 (by omega))).tr (SM.fr g2 (by omega))) (((s4.mono (by omega) (by omega)).tr (SM.fr g1 (by omega))).tr (SM.fr g2 (by omega))) (by rw [g2.2.2.2.2.1, g1.2.2.2.2.1]; omega) (kR_sm hR (((s4.mono (by omega) (by omega)).tr (SM.fr g1 (by omega))).tr (SM.fr g2 (by omega)))) (by rw [g2.2.1, g1.2.1, (s4 (x + 2) (by omega) (by omega)).2.1]; exact nD) (KSc_sm (KSc_di hSc1 g1) (SM.fr g2 (by omega)) (SM.fr g2 (by omega))) r5
          exact ⟨h4, by simp (disch := omega) only [X6_patch, rr_p, rr_bp, rr_bb, rr_0, rr_lt, rr_blt, rr_le, rr_ble, rr_eq, rr_beq, rr_nl_n, rr_nl_s, rr_bnl_n, rr_bnl_s, rr_cond_t, rr_cond_f, rr_bcond_t, rr_bcond_f, rr_bon, rr_bcv, rr_cv, rr_g, rr_gr, rr_si, rr_sz, rr_sr, rr_al, rr_ld, rr_st, rr_rl, rr_rs, rr_ni, rr_nr, rr_z, rr_div, rr_rem, rr_lc, rr_mx, rr_mn, rr_ab, rr_no, gd_t, bc_t, bc_f, gd_tt, bc_tt, bc_ff, or_true, true_or, and_true, true_and, Nat.reduceAdd, mo_b_s e1, mo_b_s e2, mo_b_s e3, mo_b_s e4, mo_b_s e5, mo_b_s e6], K4⟩
        · intro m h hM
          have mT := hM.1.1
          have e1 := q7_isVersion hM oV1 hu2
          dsimp only at e1
          rw [bc_t cu] at e1
          have e2 := q7_isVersion hM oV1 hv2
          dsimp only at e2
          rw [bc_t cv] at e2
          have f8 := hM.2.2.2.1.1
          dsimp only at f8
          obtain ⟨h', e3, w3, k3, s3, f3⟩ := q7_layDifference (MI_rows hM ho cu cv) (wL_pL l2) (wL_pL k2) l1 k1
          have mT' : ah_T h' m = 17 := by rw [f3.1]; exact mT
          obtain ⟨h2, e4, m4, f4⟩ := q7_storeWork (MI_fr hM f3 (by omega)) w3 cq hOP.2.1 hOP.2.2.1 hOP.2.2.2.1 (OQ_b oQ)
          exact ⟨h2, by simp (disch := omega) only [X7_patch, rr_p, rr_bp, rr_bb, rr_0, rr_lt, rr_blt, rr_le, rr_ble, rr_eq, rr_beq, rr_nl_n, rr_nl_s, rr_bnl_n, rr_bnl_s, rr_cond_t, rr_cond_f, rr_bcond_t, rr_bcond_f, rr_bon, rr_bcv, rr_cv, rr_g, rr_gr, rr_si, rr_sz, rr_sr, rr_al, rr_ld, rr_st, rr_rl, rr_rs, rr_ni, rr_nr, rr_z, rr_div, rr_rem, rr_lc, rr_mx, rr_mn, rr_ab, rr_no, gd_t, bc_t, bc_f, gd_tt, bc_tt, bc_ff, or_true, true_or, and_true, true_and, Nat.reduceAdd, f8, mo_b_s e1, mo_b_s e2, mo_b_s e3, mo_b_s e4], m4⟩
      · refine CJ.same (-104) ho ?_ ?_
        · intro x h hK
          obtain ⟨hR, nD, hSc, A, B, hB⟩ := id hK
          obtain ⟨⟨o1, ⟨p0, p1, p2, p4, p6, p7, p8, p9, p10, p11, p12⟩, o3, o4, o5, o6, o7, o8, o9⟩, ⟨f3, f5, f13⟩, hA, hQ, hM, hX⟩ := id hB
          dsimp only at hB f5
          have e1 := q6_versionOrNull hB oV1 hu2
          rw [if_pos cu] at e1
          have e2 := q6_versionOrNull hB oV1 hv2
          rw [if_pos cv] at e2
          have e3 := q6_hasRoom hB oQ1 (n := 1) (by omega)
          rw [bc_f (by omega)] at e3
          simp (disch := omega) only [X6_patch, rr_p, rr_bp, rr_bb, rr_0, rr_lt, rr_blt, rr_le, rr_ble, rr_eq, rr_beq, rr_nl_n, rr_nl_s, rr_bnl_n, rr_bnl_s, rr_cond_t, rr_cond_f, rr_bcond_t, rr_bcond_f, rr_bon, rr_bcv, rr_cv, rr_g, rr_gr, rr_si, rr_sz, rr_sr, rr_al, rr_ld, rr_st, rr_rl, rr_rs, rr_ni, rr_nr, rr_z, rr_div, rr_rem, rr_lc, rr_mx, rr_mn, rr_ab, rr_no, gd_t, bc_t, bc_f, gd_tt, bc_tt, bc_ff, or_true, true_or, and_true, true_and, Nat.reduceAdd, mo_b_s e1, mo_b_s e2, mo_b_s e3]
        · intro m h hM
          have mT := hM.1.1
          have e1 := q7_isVersion hM oV1 hu2
          dsimp only at e1
          rw [bc_t cu] at e1
          have e2 := q7_isVersion hM oV1 hv2
          dsimp only at e2
          rw [bc_t cv] at e2
          have f8 := hM.2.2.2.1.1
          dsimp only at f8
          simp (disch := omega) only [X7_patch, rr_p, rr_bp, rr_bb, rr_0, rr_lt, rr_blt, rr_le, rr_ble, rr_eq, rr_beq, rr_nl_n, rr_nl_s, rr_bnl_n, rr_bnl_s, rr_cond_t, rr_cond_f, rr_bcond_t, rr_bcond_f, rr_bon, rr_bcv, rr_cv, rr_g, rr_gr, rr_si, rr_sz, rr_sr, rr_al, rr_ld, rr_st, rr_rl, rr_rs, rr_ni, rr_nr, rr_z, rr_div, rr_rem, rr_lc, rr_mx, rr_mn, rr_ab, rr_no, gd_t, bc_t, bc_f, gd_tt, bc_tt, bc_ff, or_true, true_or, and_true, true_and, Nat.reduceAdd, f8, mo_b_s e1, mo_b_s e2]
    · refine CJ.same (-101) ho ?_ ?_
      · intro x h hK
        obtain ⟨hR, nD, hSc, A, B, hB⟩ := id hK
        obtain ⟨⟨o1, ⟨p0, p1, p2, p4, p6, p7, p8, p9, p10, p11, p12⟩, o3, o4, o5, o6, o7, o8, o9⟩, ⟨f3, f5, f13⟩, hA, hQ, hM, hX⟩ := id hB
        have e1 := q6_versionOrNull hB oV1 hu2
        rw [if_pos cu] at e1
        have e2 := q6_versionOrNull hB oV1 hv2
        rw [if_neg cv] at e2
        simp (disch := omega) only [X6_patch, rr_p, rr_bp, rr_bb, rr_0, rr_lt, rr_blt, rr_le, rr_ble, rr_eq, rr_beq, rr_nl_n, rr_nl_s, rr_bnl_n, rr_bnl_s, rr_cond_t, rr_cond_f, rr_bcond_t, rr_bcond_f, rr_bon, rr_bcv, rr_cv, rr_g, rr_gr, rr_si, rr_sz, rr_sr, rr_al, rr_ld, rr_st, rr_rl, rr_rs, rr_ni, rr_nr, rr_z, rr_div, rr_rem, rr_lc, rr_mx, rr_mn, rr_ab, rr_no, gd_t, bc_t, bc_f, gd_tt, bc_tt, bc_ff, or_true, true_or, and_true, true_and, Nat.reduceAdd, mo_b_s e1, mo_b_s e2]
      · intro m h hM
        have mT := hM.1.1
        have e1 := q7_isVersion hM oV1 hu2
        dsimp only at e1
        rw [bc_t cu] at e1
        have e2 := q7_isVersion hM oV1 hv2
        dsimp only at e2
        rw [bc_f cv] at e2
        simp (disch := omega) only [X7_patch, rr_p, rr_bp, rr_bb, rr_0, rr_lt, rr_blt, rr_le, rr_ble, rr_eq, rr_beq, rr_nl_n, rr_nl_s, rr_bnl_n, rr_bnl_s, rr_cond_t, rr_cond_f, rr_bcond_t, rr_bcond_f, rr_bon, rr_bcv, rr_cv, rr_g, rr_gr, rr_si, rr_sz, rr_sr, rr_al, rr_ld, rr_st, rr_rl, rr_rs, rr_ni, rr_nr, rr_z, rr_div, rr_rem, rr_lc, rr_mx, rr_mn, rr_ab, rr_no, gd_t, bc_t, bc_f, gd_tt, bc_tt, bc_ff, or_true, true_or, and_true, true_and, Nat.reduceAdd, mo_b_s e1, mo_b_s e2]
  · refine CJ.same (-101) ho ?_ ?_
    · intro x h hK
      obtain ⟨hR, nD, hSc, A, B, hB⟩ := id hK
      obtain ⟨⟨o1, ⟨p0, p1, p2, p4, p6, p7, p8, p9, p10, p11, p12⟩, o3, o4, o5, o6, o7, o8, o9⟩, ⟨f3, f5, f13⟩, hA, hQ, hM, hX⟩ := id hB
      have e1 := q6_versionOrNull hB oV1 hu2
      rw [if_neg cu] at e1
      have e2 := q6_versionOrNull hB oV1 hv2
      simp (disch := omega) only [X6_patch, rr_p, rr_bp, rr_bb, rr_0, rr_lt, rr_blt, rr_le, rr_ble, rr_eq, rr_beq, rr_nl_n, rr_nl_s, rr_bnl_n, rr_bnl_s, rr_cond_t, rr_cond_f, rr_bcond_t, rr_bcond_f, rr_bon, rr_bcv, rr_cv, rr_g, rr_gr, rr_si, rr_sz, rr_sr, rr_al, rr_ld, rr_st, rr_rl, rr_rs, rr_ni, rr_nr, rr_z, rr_div, rr_rem, rr_lc, rr_mx, rr_mn, rr_ab, rr_no, gd_t, bc_t, bc_f, gd_tt, bc_tt, bc_ff, or_true, true_or, and_true, true_and, Nat.reduceAdd, mo_b_s e1, mo_b_s e2]
    · intro m h hM
      have mT := hM.1.1
      have e1 := q7_isVersion hM oV1 hu2
      dsimp only at e1
      rw [bc_f cu] at e1
      simp (disch := omega) only [X7_patch, rr_p, rr_bp, rr_bb, rr_0, rr_lt, rr_blt, rr_le, rr_ble, rr_eq, rr_beq, rr_nl_n, rr_nl_s, rr_bnl_n, rr_bnl_s, rr_cond_t, rr_cond_f, rr_bcond_t, rr_bcond_f, rr_bon, rr_bcv, rr_cv, rr_g, rr_gr, rr_si, rr_sz, rr_sr, rr_al, rr_ld, rr_st, rr_rl, rr_rs, rr_ni, rr_nr, rr_z, rr_div, rr_rem, rr_lc, rr_mx, rr_mn, rr_ab, rr_no, gd_t, bc_t, bc_f, gd_tt, bc_tt, bc_ff, or_true, true_or, and_true, true_and, Nat.reduceAdd, mo_b_s e1]
theorem OP_nil {b : Int} : OP b [] := ⟨⟨fun i hi => by simp at hi, fun i hi => by simp at hi⟩, by simp, by simp [fG], by simp [fC], fun i hi => by simp at hi⟩
theorem c_blank (s : SG) (ho : OKS s) : CJ (fun x => X6_blank x) (fun m => X7_blank m) s := by
  obtain ⟨D, V, Q, d⟩ := s
  obtain ⟨⟨hD1, hD2⟩, oV, oQ, od⟩ := id ho
  dsimp only at hD1 hD2 oV oQ od
  have oQ1 := oQ.1
  by_cases cq : Q.length < 12
  · refine ⟨(Q.length : Int), (D, V, Q ++ [[]], d), ⟨⟨hD1, hD2⟩, oV, OQ_add oQ cq OP_nil, od⟩, ?_, ?_⟩
    · intro x h hK
      obtain ⟨hR, nD, hSc, A, B, hB⟩ := id hK
      obtain ⟨⟨o1, ⟨p0, p1, p2, p4, p6, p7, p8, p9, p10, p11, p12⟩, o3, o4, o5, o6, o7, o8, o9⟩, ⟨f3, f5, f13⟩, hA, hQ, hM, hX⟩ := id hB
      dsimp only at hR hB hA hQ hM hX f3 f5 f13
      have e3 := q6_hasRoom hB oQ1 (n := 1) (by omega)
      rw [bc_t (by omega)] at e3
      obtain ⟨h1, e4, r4, s4, z4⟩ := q6_newPatch (h := h)
      have hSc1 := KSc_sm hSc (s4.mono (by omega) (by omega)) (s4.mono (by omega) (by omega))
      have cx := s4 x (by omega) (by omega)
      have tx1 : ah_T h1 x = 16 := by rw [cx.1]; exact o1
      obtain ⟨h4, e6, K4⟩ := k_added (D := D) hB cq (s4.mono (by omega) (by omega)) (s4.mono (by omega) (by omega)) (s4.mono (by omega) (by omega)) (by omega) (kR_sm hR (s4.mono (by omega) (by omega))) (by rw [(s4 (x + 2) (by omega) (by omega)).2.1]; exact nD) hSc1 r4
      exact ⟨h4, by simp (disch := omega) only [X6_blank, rr_p, rr_bp, rr_bb, rr_0, rr_lt, rr_blt, rr_le, rr_ble, rr_eq, rr_beq, rr_nl_n, rr_nl_s, rr_bnl_n, rr_bnl_s, rr_cond_t, rr_cond_f, rr_bcond_t, rr_bcond_f, rr_bon, rr_bcv, rr_cv, rr_g, rr_gr, rr_si, rr_sz, rr_sr, rr_al, rr_ld, rr_st, rr_rl, rr_rs, rr_ni, rr_nr, rr_z, rr_div, rr_rem, rr_lc, rr_mx, rr_mn, rr_ab, rr_no, gd_t, bc_t, bc_f, gd_tt, bc_tt, bc_ff, or_true, true_or, and_true, true_and, Nat.reduceAdd, mo_b_s e3, mo_b_s e4, mo_b_s e6], K4⟩
    · intro m h hM
      have mT := hM.1.1
      have f8 := hM.2.2.2.1.1
      dsimp only at f8
      obtain ⟨h', e3, w3, f3⟩ := q7_newWork hM.1
      have mT' : ah_T h' m = 17 := by rw [f3.1]; exact mT
      obtain ⟨h2, e4, m4, f4⟩ := q7_storeWork (MI_fr hM f3 (by omega)) w3 cq (by simp) (by simp [fG]) (by simp [fC]) (OQ_b oQ)
      exact ⟨h2, by simp (disch := omega) only [X7_blank, rr_p, rr_bp, rr_bb, rr_0, rr_lt, rr_blt, rr_le, rr_ble, rr_eq, rr_beq, rr_nl_n, rr_nl_s, rr_bnl_n, rr_bnl_s, rr_cond_t, rr_cond_f, rr_bcond_t, rr_bcond_f, rr_bon, rr_bcv, rr_cv, rr_g, rr_gr, rr_si, rr_sz, rr_sr, rr_al, rr_ld, rr_st, rr_rl, rr_rs, rr_ni, rr_nr, rr_z, rr_div, rr_rem, rr_lc, rr_mx, rr_mn, rr_ab, rr_no, gd_t, bc_t, bc_f, gd_tt, bc_tt, bc_ff, or_true, true_or, and_true, true_and, Nat.reduceAdd, f8, mo_b_s e3, mo_b_s e4], m4⟩
  · refine CJ.same (-104) ho ?_ ?_
    · intro x h hK
      obtain ⟨hR, nD, hSc, A, B, hB⟩ := id hK
      obtain ⟨⟨o1, ⟨p0, p1, p2, p4, p6, p7, p8, p9, p10, p11, p12⟩, o3, o4, o5, o6, o7, o8, o9⟩, ⟨f3, f5, f13⟩, hA, hQ, hM, hX⟩ := id hB
      dsimp only at hB f5
      have e3 := q6_hasRoom hB oQ1 (n := 1) (by omega)
      rw [bc_f (by omega)] at e3
      simp (disch := omega) only [X6_blank, rr_p, rr_bp, rr_bb, rr_0, rr_lt, rr_blt, rr_le, rr_ble, rr_eq, rr_beq, rr_nl_n, rr_nl_s, rr_bnl_n, rr_bnl_s, rr_cond_t, rr_cond_f, rr_bcond_t, rr_bcond_f, rr_bon, rr_bcv, rr_cv, rr_g, rr_gr, rr_si, rr_sz, rr_sr, rr_al, rr_ld, rr_st, rr_rl, rr_rs, rr_ni, rr_nr, rr_z, rr_div, rr_rem, rr_lc, rr_mx, rr_mn, rr_ab, rr_no, gd_t, bc_t, bc_f, gd_tt, bc_tt, bc_ff, or_true, true_or, and_true, true_and, Nat.reduceAdd, mo_b_s e3]
    · intro m h hM
      have mT := hM.1.1
      have f8 := hM.2.2.2.1.1
      dsimp only at f8
      simp (disch := omega) only [X7_blank, rr_p, rr_bp, rr_bb, rr_0, rr_lt, rr_blt, rr_le, rr_ble, rr_eq, rr_beq, rr_nl_n, rr_nl_s, rr_bnl_n, rr_bnl_s, rr_cond_t, rr_cond_f, rr_bcond_t, rr_bcond_f, rr_bon, rr_bcv, rr_cv, rr_g, rr_gr, rr_si, rr_sz, rr_sr, rr_al, rr_ld, rr_st, rr_rl, rr_rs, rr_ni, rr_nr, rr_z, rr_div, rr_rem, rr_lc, rr_mx, rr_mn, rr_ab, rr_no, gd_t, bc_t, bc_f, gd_tt, bc_tt, bc_ff, or_true, true_or, and_true, true_and, Nat.reduceAdd, f8]
