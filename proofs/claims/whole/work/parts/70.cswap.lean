def aT (P Q : List HK) : Prop := ∃ i : Nat, i < P.length ∧ tch Q (hB P i) (hB P i + (hk P i).2.2.length)
theorem aT_nT {P Q : List HK} (h : ¬ aT P Q) : nT P Q := fun i j hi hj ⟨h1, h2⟩ => h ⟨i, hi, j, hj, h2, h1⟩
theorem q0_anyTouch {h : AH} {a b c mh ml mh2 ml2 : Nat} {P Q : List HK} (hP : kP h a mh ml P) (vP : pV P) (hQ : kP h b mh2 ml2 Q) (vQ : pV Q) : X0_anyTouch c (some a) (some b) h = some (br (aT P Q) 1 0, h) := by
  have t0 := hP.1.1.1
  have t1 := hQ.1.1.1
  have hl := hP.2.2.1
  have hm := hP.1.2.2.2
  have e0 := q3_hunks hP
  have hs := lp_sr (F := X0_anyTouch_L2 (some a) (some b)) (h := h) (fun i => tch Q (hB P i) (hB P i + (hk P i).2.2.length)) (fun _ => 1) 0 P.length ?_ ?_ ?_ P.length 0 mo_N (by omega) (by rw [mo_N_v]; omega)
  · rw [sr_c] at hs
    have e : (∃ j, 0 ≤ j ∧ j < 0 + P.length ∧ tch Q (hB P j) (hB P j + (hk P j).2.2.length)) ↔ aT P Q := ⟨fun ⟨j, _, h2, h3⟩ => ⟨j, by omega, h3⟩, fun ⟨j, h2, h3⟩ => ⟨j, by omega, by omega, h3⟩⟩
    rw [propext e] at hs
    exact hs
  · intro i hi hn
    have e1 := q3_beginsBehind hP (i := (i : Int)) (by omega) (by omega)
    have e2 := q3_endsBehind hP (i := (i : Int)) (by omega) (by omega)
    rw [Int.toNat_natCast] at e1 e2
    have r1 := hB_r hP vP i
    have g1 := @hcs_le P (i + 1)
    have g2 := @hcs_s P i hi
    have e3 := q3_touches hQ vQ (f := hB P i) (t := hB P i + (hk P i).2.2.length) (by omega) (by omega)
    rw [bc_f hn] at e3
    simp (disch := omega) only [X0_anyTouch_L2, rr_p, rr_bp, rr_bb, rr_0, rr_lt, rr_blt, rr_le, rr_ble, rr_eq, rr_beq, rr_nl_n, rr_nl_s, rr_bnl_n, rr_bnl_s, rr_cond_t, rr_cond_f, rr_bcond_t, rr_bcond_f, rr_bon, rr_bcv, rr_cv, rr_g, rr_gr, rr_si, rr_sz, rr_sr, rr_al, rr_ld, rr_st, rr_rl, rr_rs, rr_ni, rr_nr, rr_z, rr_div, rr_rem, rr_lc, rr_mx, rr_mn, rr_ab, rr_no, gd_t, bc_t, bc_f, gd_tt, bc_tt, bc_ff, or_true, true_or, and_true, true_and, Nat.reduceAdd, mo_b_s e0, mo_b_s e1, mo_b_s e2, mo_b_s e3]
  · intro i hi hn
    have e1 := q3_beginsBehind hP (i := (i : Int)) (by omega) (by omega)
    have e2 := q3_endsBehind hP (i := (i : Int)) (by omega) (by omega)
    rw [Int.toNat_natCast] at e1 e2
    have r1 := hB_r hP vP i
    have g1 := @hcs_le P (i + 1)
    have g2 := @hcs_s P i hi
    have e3 := q3_touches hQ vQ (f := hB P i) (t := hB P i + (hk P i).2.2.length) (by omega) (by omega)
    rw [bc_t hn] at e3
    simp (disch := omega) only [X0_anyTouch_L2, rr_p, rr_bp, rr_bb, rr_0, rr_lt, rr_blt, rr_le, rr_ble, rr_eq, rr_beq, rr_nl_n, rr_nl_s, rr_bnl_n, rr_bnl_s, rr_cond_t, rr_cond_f, rr_bcond_t, rr_bcond_f, rr_bon, rr_bcv, rr_cv, rr_g, rr_gr, rr_si, rr_sz, rr_sr, rr_al, rr_ld, rr_st, rr_rl, rr_rs, rr_ni, rr_nr, rr_z, rr_div, rr_rem, rr_lc, rr_mx, rr_mn, rr_ab, rr_no, gd_t, bc_t, bc_f, gd_tt, bc_tt, bc_ff, or_true, true_or, and_true, true_and, Nat.reduceAdd, mo_b_s e0, mo_b_s e1, mo_b_s e2, mo_b_s e3]
  · simp (disch := omega) only [X0_anyTouch_L2, rr_p, rr_bp, rr_bb, rr_0, rr_lt, rr_blt, rr_le, rr_ble, rr_eq, rr_beq, rr_nl_n, rr_nl_s, rr_bnl_n, rr_bnl_s, rr_cond_t, rr_cond_f, rr_bcond_t, rr_bcond_f, rr_bon, rr_bcv, rr_cv, rr_g, rr_gr, rr_si, rr_sz, rr_sr, rr_al, rr_ld, rr_st, rr_rl, rr_rs, rr_ni, rr_nr, rr_z, rr_div, rr_rem, rr_lc, rr_mx, rr_mn, rr_ab, rr_no, gd_t, bc_t, bc_f, gd_tt, bc_tt, bc_ff, or_true, true_or, and_true, true_and, Nat.reduceAdd, mo_b_s e0]
theorem cB_c {f : Nat → Int} {b : Int} {n : Nat} : (cB f b (n + 1) : Int) = (cB f b n : Int) + (if f n < b then 1 else 0) := by
  show ((cB f b n + (if f n < b then 1 else 0) : Nat) : Int) = _
  by_cases c : f n < b
  · rw [if_pos c, if_pos c]; omega
  · rw [if_neg c, if_neg c]; omega
theorem q0_cntA {h : AH} {a b mh ml mh2 ml2 i : Nat} {P Q : List HK} (hP : kP h a mh ml P) (vP : pV P) (hQ : kP h b mh2 ml2 Q) (vQ : pV Q) (hi : i < Q.length) : mo_lp mo_N (X0_moveAhead_L18 (some a) (some b) (i : Int)) (0, 0) h = some ((cB (hB P) (hk Q i).1 P.length : Int), h) := by
  have t0 := hP.1.1.1
  have t1 := hQ.1.1.1
  have hl := hP.2.2.1
  have hm := hP.1.2.2.2
  have e0 := q3_hunks hP
  have e4 := q3_begins hQ (i := (i : Int)) (by omega) (by omega)
  rw [Int.toNat_natCast] at e4
  have v4 := (vQ i).1
  have hs := lp_seq (F := X0_moveAhead_L18 (some a) (some b) (i : Int)) (fun j : Nat => ((cB (hB P) (hk Q i).1 j : Int), (j : Int))) (fun _ => h) P.length (b := (cB (hB P) (hk Q i).1 P.length : Int)) (hE := h) ?_ ?_ mo_N (by rw [mo_N_v]; omega)
  · exact hs
  · intro j hj
    have e1 := q3_beginsBehind hP (i := (j : Int)) (by omega) (by omega)
    rw [Int.toNat_natCast] at e1
    have r1 := hB_r hP vP j
    rw [cB_c]
    by_cases c : hB P j < (hk Q i).1
    · simp (disch := omega) only [X0_moveAhead_L18, rr_p, rr_bp, rr_bb, rr_0, rr_lt, rr_blt, rr_le, rr_ble, rr_eq, rr_beq, rr_nl_n, rr_nl_s, rr_bnl_n, rr_bnl_s, rr_cond_t, rr_cond_f, rr_bcond_t, rr_bcond_f, rr_bon, rr_bcv, rr_cv, rr_g, rr_gr, rr_si, rr_sz, rr_sr, rr_al, rr_ld, rr_st, rr_rl, rr_rs, rr_ni, rr_nr, rr_z, rr_div, rr_rem, rr_lc, rr_mx, rr_mn, rr_ab, rr_no, gd_t, bc_t, bc_f, gd_tt, bc_tt, bc_ff, or_true, true_or, and_true, true_and, Nat.reduceAdd, mo_b_s e0, mo_b_s e1, mo_b_s e4, if_pos c, Int.natCast_add, Int.natCast_one]
    · simp (disch := omega) only [X0_moveAhead_L18, rr_p, rr_bp, rr_bb, rr_0, rr_lt, rr_blt, rr_le, rr_ble, rr_eq, rr_beq, rr_nl_n, rr_nl_s, rr_bnl_n, rr_bnl_s, rr_cond_t, rr_cond_f, rr_bcond_t, rr_bcond_f, rr_bon, rr_bcv, rr_cv, rr_g, rr_gr, rr_si, rr_sz, rr_sr, rr_al, rr_ld, rr_st, rr_rl, rr_rs, rr_ni, rr_nr, rr_z, rr_div, rr_rem, rr_lc, rr_mx, rr_mn, rr_ab, rr_no, gd_t, bc_t, bc_f, gd_tt, bc_tt, bc_ff, or_true, true_or, and_true, true_and, Nat.reduceAdd, mo_b_s e0, mo_b_s e1, mo_b_s e4, if_neg c, Int.natCast_add, Int.natCast_one]
  · simp (disch := omega) only [X0_moveAhead_L18, rr_p, rr_bp, rr_bb, rr_0, rr_lt, rr_blt, rr_le, rr_ble, rr_eq, rr_beq, rr_nl_n, rr_nl_s, rr_bnl_n, rr_bnl_s, rr_cond_t, rr_cond_f, rr_bcond_t, rr_bcond_f, rr_bon, rr_bcv, rr_cv, rr_g, rr_gr, rr_si, rr_sz, rr_sr, rr_al, rr_ld, rr_st, rr_rl, rr_rs, rr_ni, rr_nr, rr_z, rr_div, rr_rem, rr_lc, rr_mx, rr_mn, rr_ab, rr_no, gd_t, bc_t, bc_f, gd_tt, bc_tt, bc_ff, or_true, true_or, and_true, true_and, Nat.reduceAdd, mo_b_s e0]
theorem q0_cntB {h : AH} {a b mh ml mh2 ml2 i : Nat} {P Q : List HK} (hP : kP h a mh ml P) (vP : pV P) (hQ : kP h b mh2 ml2 Q) (vQ : pV Q) (hi : i < P.length) : mo_lp mo_N (X0_moveBehind_L18 (some a) (some b) (i : Int)) (0, 0) h = some ((cB (fun j => (hk Q j).1) (hB P i) Q.length : Int), h) := by
  have t0 := hP.1.1.1
  have t1 := hQ.1.1.1
  have hl := hQ.2.2.1
  have hm := hQ.1.2.2.2
  have e0 := q3_hunks hQ
  have e4 := q3_beginsBehind hP (i := (i : Int)) (by omega) (by omega)
  rw [Int.toNat_natCast] at e4
  have v4 := hB_r hP vP i
  have hs := lp_seq (F := X0_moveBehind_L18 (some a) (some b) (i : Int)) (fun j : Nat => ((cB (fun j => (hk Q j).1) (hB P i) j : Int), (j : Int))) (fun _ => h) Q.length (b := (cB (fun j => (hk Q j).1) (hB P i) Q.length : Int)) (hE := h) ?_ ?_ mo_N (by rw [mo_N_v]; omega)
  · exact hs
  · intro j hj
    have e1 := q3_begins hQ (i := (j : Int)) (by omega) (by omega)
    rw [Int.toNat_natCast] at e1
    have r1 := (vQ j).1
    rw [cB_c]
    by_cases c : (hk Q j).1 < hB P i
    · simp (disch := omega) only [X0_moveBehind_L18, rr_p, rr_bp, rr_bb, rr_0, rr_lt, rr_blt, rr_le, rr_ble, rr_eq, rr_beq, rr_nl_n, rr_nl_s, rr_bnl_n, rr_bnl_s, rr_cond_t, rr_cond_f, rr_bcond_t, rr_bcond_f, rr_bon, rr_bcv, rr_cv, rr_g, rr_gr, rr_si, rr_sz, rr_sr, rr_al, rr_ld, rr_st, rr_rl, rr_rs, rr_ni, rr_nr, rr_z, rr_div, rr_rem, rr_lc, rr_mx, rr_mn, rr_ab, rr_no, gd_t, bc_t, bc_f, gd_tt, bc_tt, bc_ff, or_true, true_or, and_true, true_and, Nat.reduceAdd, mo_b_s e0, mo_b_s e1, mo_b_s e4, if_pos c, Int.natCast_add, Int.natCast_one]
    · simp (disch := omega) only [X0_moveBehind_L18, rr_p, rr_bp, rr_bb, rr_0, rr_lt, rr_blt, rr_le, rr_ble, rr_eq, rr_beq, rr_nl_n, rr_nl_s, rr_bnl_n, rr_bnl_s, rr_cond_t, rr_cond_f, rr_bcond_t, rr_bcond_f, rr_bon, rr_bcv, rr_cv, rr_g, rr_gr, rr_si, rr_sz, rr_sr, rr_al, rr_ld, rr_st, rr_rl, rr_rs, rr_ni, rr_nr, rr_z, rr_div, rr_rem, rr_lc, rr_mx, rr_mn, rr_ab, rr_no, gd_t, bc_t, bc_f, gd_tt, bc_tt, bc_ff, or_true, true_or, and_true, true_and, Nat.reduceAdd, mo_b_s e0, mo_b_s e1, mo_b_s e4, if_neg c, Int.natCast_add, Int.natCast_one]
  · simp (disch := omega) only [X0_moveBehind_L18, rr_p, rr_bp, rr_bb, rr_0, rr_lt, rr_blt, rr_le, rr_ble, rr_eq, rr_beq, rr_nl_n, rr_nl_s, rr_bnl_n, rr_bnl_s, rr_cond_t, rr_cond_f, rr_bcond_t, rr_bcond_f, rr_bon, rr_bcv, rr_cv, rr_g, rr_gr, rr_si, rr_sz, rr_sr, rr_al, rr_ld, rr_st, rr_rl, rr_rs, rr_ni, rr_nr, rr_z, rr_div, rr_rem, rr_lc, rr_mx, rr_mn, rr_ab, rr_no, gd_t, bc_t, bc_f, gd_tt, bc_tt, bc_ff, or_true, true_or, and_true, true_and, Nat.reduceAdd, mo_b_s e0]
theorem q0_moveAhead {h : AH} {a b c x mh ml mh2 ml2 : Nat} {P Q : List HK} (hP : kP h a mh ml P) (sP : sW P) (vP : pV P) (hQ : kP h b mh2 ml2 Q) (vQ : pV Q) (hC : kP h c 10 28 []) (ca : c + 6 ≤ a ∨ a + 6 ≤ c) (cb : c + 6 ≤ b ∨ b + 6 ≤ c) (l1 : Q.length ≤ 10) (l2 : (fG Q).length ≤ 28) (l3 : (fC Q).length ≤ 28) : ∃ h', X0_moveAhead x (some a) (some b) (some c) h = some ((), h') ∧ kP h' c 10 28 (mvW Q (eA P Q)) ∧ FRM h h' c (c + 6) := by
  have hL := lp_inv (F := X0_moveAhead_L3 (some a) (some b) (some c)) (fun k h' => ∃ n : Nat, k = (n : Int) ∧ n ≤ Q.length ∧ kP h' c 10 28 (mvP Q (eA P Q) n) ∧ FRM h h' c (c + 6)) (fun k => ((Q.length : Int) - k).toNat) (fun _ h' => kP h' c 10 28 (mvW Q (eA P Q)) ∧ FRM h h' c (c + 6)) ?_ mo_N 0 h ⟨0, rfl, by omega, hC, FRM.rf⟩ (by rw [mo_N_v]; omega)
  · obtain ⟨_, h', e, q⟩ := hL
    exact ⟨h', by simp (disch := omega) only [X0_moveAhead, rr_p, rr_bp, rr_bb, rr_0, rr_lt, rr_blt, rr_le, rr_ble, rr_eq, rr_beq, rr_nl_n, rr_nl_s, rr_bnl_n, rr_bnl_s, rr_cond_t, rr_cond_f, rr_bcond_t, rr_bcond_f, rr_bon, rr_bcv, rr_cv, rr_g, rr_gr, rr_si, rr_sz, rr_sr, rr_al, rr_ld, rr_st, rr_rl, rr_rs, rr_ni, rr_nr, rr_z, rr_div, rr_rem, rr_lc, rr_mx, rr_mn, rr_ab, rr_no, gd_t, bc_t, bc_f, gd_tt, bc_tt, bc_ff, or_true, true_or, and_true, true_and, Nat.reduceAdd, mo_b_s e], q⟩
  · rintro k h' ⟨n, rfl, n1, n2, n3⟩
    have hP' := kP_fr hP n3 (by omega)
    have hQ' := kP_fr hQ n3 (by omega)
    have t0 := hP'.1.1.1
    have t1 := hQ'.1.1.1
    have t2 := n2.1.1.1
    have e0 := q3_hunks hQ'
    by_cases hn : n < Q.length
    · left
      have e1 := q0_cntA hP' vP hQ' vQ hn
      have e2 := q3_begins hQ' (i := (n : Int)) (by omega) (by omega)
      rw [Int.toNat_natCast] at e2
      have c1 := (cB_f (f := hB P) (b := (hk Q n).1) (n := P.length) (hB_mono sP)).1
      have e3 := q3_shift hP' (i := (cB (hB P) (hk Q n).1 P.length : Int)) (by omega) (by omega)
      rw [Int.toNat_natCast] at e3
      have g1 := @hgs_s Q n hn
      have g2 := @hgs_le Q (n + 1)
      have g3 := @hcs_s Q n hn
      have g4 := @hcs_le Q (n + 1)
      obtain ⟨h2, e4, r4, f4⟩ := q3_addHunk n2 hQ' (by omega) (i := (n : Int)) (p := (hk Q n).1 - ((hcs P (cB (hB P) (hk Q n).1 P.length) : Int) - (hgs P (cB (hB P) (hk Q n).1 P.length) : Int))) (by omega) (by omega) (by simp [mvP]; omega) (by rw [mvP_fG (by omega), Int.toNat_natCast]; omega) (by rw [mvP_fC (by omega), Int.toNat_natCast]; omega)
      rw [Int.toNat_natCast] at r4
      refine ⟨(n : Int) + 1, h2, by simp (disch := omega) only [X0_moveAhead_L3, rr_p, rr_bp, rr_bb, rr_0, rr_lt, rr_blt, rr_le, rr_ble, rr_eq, rr_beq, rr_nl_n, rr_nl_s, rr_bnl_n, rr_bnl_s, rr_cond_t, rr_cond_f, rr_bcond_t, rr_bcond_f, rr_bon, rr_bcv, rr_cv, rr_g, rr_gr, rr_si, rr_sz, rr_sr, rr_al, rr_ld, rr_st, rr_rl, rr_rs, rr_ni, rr_nr, rr_z, rr_div, rr_rem, rr_lc, rr_mx, rr_mn, rr_ab, rr_no, gd_t, bc_t, bc_f, gd_tt, bc_tt, bc_ff, or_true, true_or, and_true, true_and, Nat.reduceAdd, mo_b_s e0, mo_b_s e1, mo_b_s e2, mo_b_s e3, mo_b_s e4], ⟨n + 1, by simp, by omega, ?_, n3.tr f4 (Nat.le_refl _) (Nat.le_refl _) (Nat.le_refl _) (Nat.le_refl _)⟩, by omega⟩
      rw [mvP_s]; exact r4
    · right
      have : n = Q.length := by omega
      subst this
      exact ⟨(), h', by simp (disch := omega) only [X0_moveAhead_L3, rr_p, rr_bp, rr_bb, rr_0, rr_lt, rr_blt, rr_le, rr_ble, rr_eq, rr_beq, rr_nl_n, rr_nl_s, rr_bnl_n, rr_bnl_s, rr_cond_t, rr_cond_f, rr_bcond_t, rr_bcond_f, rr_bon, rr_bcv, rr_cv, rr_g, rr_gr, rr_si, rr_sz, rr_sr, rr_al, rr_ld, rr_st, rr_rl, rr_rs, rr_ni, rr_nr, rr_z, rr_div, rr_rem, rr_lc, rr_mx, rr_mn, rr_ab, rr_no, gd_t, bc_t, bc_f, gd_tt, bc_tt, bc_ff, or_true, true_or, and_true, true_and, Nat.reduceAdd, mo_b_s e0], n2, n3⟩
theorem q0_moveBehind {h : AH} {a b c x mh ml mh2 ml2 : Nat} {P Q : List HK} (hP : kP h a mh ml P) (vP : pV P) (hQ : kP h b mh2 ml2 Q) (sQ : sW Q) (vQ : pV Q) (hC : kP h c 10 28 []) (ca : c + 6 ≤ a ∨ a + 6 ≤ c) (cb : c + 6 ≤ b ∨ b + 6 ≤ c) (l1 : P.length ≤ 10) (l2 : (fG P).length ≤ 28) (l3 : (fC P).length ≤ 28) : ∃ h', X0_moveBehind x (some a) (some b) (some c) h = some ((), h') ∧ kP h' c 10 28 (mvW P (eB P Q)) ∧ FRM h h' c (c + 6) := by
  have hL := lp_inv (F := X0_moveBehind_L3 (some a) (some b) (some c)) (fun k h' => ∃ n : Nat, k = (n : Int) ∧ n ≤ P.length ∧ kP h' c 10 28 (mvP P (eB P Q) n) ∧ FRM h h' c (c + 6)) (fun k => ((P.length : Int) - k).toNat) (fun _ h' => kP h' c 10 28 (mvW P (eB P Q)) ∧ FRM h h' c (c + 6)) ?_ mo_N 0 h ⟨0, rfl, by omega, hC, FRM.rf⟩ (by rw [mo_N_v]; omega)
  · obtain ⟨_, h', e, q⟩ := hL
    exact ⟨h', by simp (disch := omega) only [X0_moveBehind, rr_p, rr_bp, rr_bb, rr_0, rr_lt, rr_blt, rr_le, rr_ble, rr_eq, rr_beq, rr_nl_n, rr_nl_s, rr_bnl_n, rr_bnl_s, rr_cond_t, rr_cond_f, rr_bcond_t, rr_bcond_f, rr_bon, rr_bcv, rr_cv, rr_g, rr_gr, rr_si, rr_sz, rr_sr, rr_al, rr_ld, rr_st, rr_rl, rr_rs, rr_ni, rr_nr, rr_z, rr_div, rr_rem, rr_lc, rr_mx, rr_mn, rr_ab, rr_no, gd_t, bc_t, bc_f, gd_tt, bc_tt, bc_ff, or_true, true_or, and_true, true_and, Nat.reduceAdd, mo_b_s e], q⟩
  · rintro k h' ⟨n, rfl, n1, n2, n3⟩
    have hP' := kP_fr hP n3 (by omega)
    have hQ' := kP_fr hQ n3 (by omega)
    have t0 := hP'.1.1.1
    have t1 := hQ'.1.1.1
    have t2 := n2.1.1.1
    have e0 := q3_hunks hP'
    by_cases hn : n < P.length
    · left
      have e1 := q0_cntB hP' vP hQ' vQ hn
      have e2 := q3_begins hP' (i := (n : Int)) (by omega) (by omega)
      rw [Int.toNat_natCast] at e2
      have c1 := (cB_f (f := fun j => (hk Q j).1) (b := hB P n) (n := Q.length) (at_mono sQ)).1
      have e3 := q3_shift hQ' (i := (cB (fun j => (hk Q j).1) (hB P n) Q.length : Int)) (by omega) (by omega)
      rw [Int.toNat_natCast] at e3
      have g1 := @hgs_s P n hn
      have g2 := @hgs_le P (n + 1)
      have g3 := @hcs_s P n hn
      have g4 := @hcs_le P (n + 1)
      obtain ⟨h2, e4, r4, f4⟩ := q3_addHunk n2 hP' (by omega) (i := (n : Int)) (p := (hk P n).1 + ((hcs Q (cB (fun j => (hk Q j).1) (hB P n) Q.length) : Int) - (hgs Q (cB (fun j => (hk Q j).1) (hB P n) Q.length) : Int))) (by omega) (by omega) (by simp [mvP]; omega) (by rw [mvP_fG (by omega), Int.toNat_natCast]; omega) (by rw [mvP_fC (by omega), Int.toNat_natCast]; omega)
      rw [Int.toNat_natCast] at r4
      refine ⟨(n : Int) + 1, h2, by simp (disch := omega) only [X0_moveBehind_L3, rr_p, rr_bp, rr_bb, rr_0, rr_lt, rr_blt, rr_le, rr_ble, rr_eq, rr_beq, rr_nl_n, rr_nl_s, rr_bnl_n, rr_bnl_s, rr_cond_t, rr_cond_f, rr_bcond_t, rr_bcond_f, rr_bon, rr_bcv, rr_cv, rr_g, rr_gr, rr_si, rr_sz, rr_sr, rr_al, rr_ld, rr_st, rr_rl, rr_rs, rr_ni, rr_nr, rr_z, rr_div, rr_rem, rr_lc, rr_mx, rr_mn, rr_ab, rr_no, gd_t, bc_t, bc_f, gd_tt, bc_tt, bc_ff, or_true, true_or, and_true, true_and, Nat.reduceAdd, mo_b_s e0, mo_b_s e1, mo_b_s e2, mo_b_s e3, mo_b_s e4], ⟨n + 1, by simp, by omega, ?_, n3.tr f4 (Nat.le_refl _) (Nat.le_refl _) (Nat.le_refl _) (Nat.le_refl _)⟩, by omega⟩
      rw [mvP_s]; exact r4
    · right
      have : n = P.length := by omega
      subst this
      exact ⟨(), h', by simp (disch := omega) only [X0_moveBehind_L3, rr_p, rr_bp, rr_bb, rr_0, rr_lt, rr_blt, rr_le, rr_ble, rr_eq, rr_beq, rr_nl_n, rr_nl_s, rr_bnl_n, rr_bnl_s, rr_cond_t, rr_cond_f, rr_bcond_t, rr_bcond_f, rr_bon, rr_bcv, rr_cv, rr_g, rr_gr, rr_si, rr_sz, rr_sr, rr_al, rr_ld, rr_st, rr_rl, rr_rs, rr_ni, rr_nr, rr_z, rr_div, rr_rem, rr_lc, rr_mx, rr_mn, rr_ab, rr_no, gd_t, bc_t, bc_f, gd_tt, bc_tt, bc_ff, or_true, true_or, and_true, true_and, Nat.reduceAdd, mo_b_s e0], n2, n3⟩
theorem hB_rM {h : AH} {m p : Nat} {W : List HK} (hQ : mQ h m p W) (hV : pV W) (i : Nat) : -100056 ≤ hB W i ∧ hB W i ≤ 100056 := by
  have h1 := (hV i).1
  have h2 := @hgs_le W i
  have h3 := @hcs_le W i
  have h4 := hQ.2.2.2.2.1
  have h5 := hQ.2.2.2.2.2
  unfold hB; omega
theorem q7_touches {h : AH} {m p q i j : Nat} {P Q : List HK} (hP : mQ h m p P) (hQ : mQ h m q Q) (vP : pV P) (vQ : pV Q) (hi : i < P.length) (hj : j < Q.length) : X7_touches m (p : Int) (i : Int) (q : Int) (j : Int) h = some (br (hB P i ≤ (hk Q j).1 + (hk Q j).2.1.length ∧ (hk Q j).1 ≤ hB P i + (hk P i).2.2.length) 1 0, h) := by
  have mT := hP.1.1
  obtain ⟨p8, t8, n8⟩ := ms8 hP.1
  obtain ⟨p9, t9, n9⟩ := ms9 hP.1
  obtain ⟨p10, t10, n10⟩ := ms10 hP.1
  obtain ⟨-, -, pl, l1, l2, l3⟩ := id hP
  obtain ⟨-, -, ql, k1, k2, k3⟩ := id hQ
  have e1 := q7_standsAt hP hi
  obtain ⟨a1, a2, a3⟩ := mQ_a hP (i := (i : Int)) (by omega) (by omega)
  obtain ⟨b1, b2, b3⟩ := mQ_a hQ (i := (j : Int)) (by omega) (by omega)
  rw [Int.toNat_natCast] at a1 a2 a3 b1 b2 b3
  have r1 := hB_rM hP vP i
  have r2 := (vQ j).1
  have g1 := @hgs_s Q j hj
  have g2 := @hgs_le Q (j + 1)
  have g3 := @hcs_s P i hi
  have g4 := @hcs_le P (i + 1)
  by_cases c1 : hB P i ≤ (hk Q j).1 + (hk Q j).2.1.length
  · by_cases c2 : (hk Q j).1 ≤ hB P i + (hk P i).2.2.length
    · rw [bc_t ⟨c1, c2⟩]
      simp (disch := omega) only [X7_touches, rr_p, rr_bp, rr_bb, rr_0, rr_lt, rr_blt, rr_le, rr_ble, rr_eq, rr_beq, rr_nl_n, rr_nl_s, rr_bnl_n, rr_bnl_s, rr_cond_t, rr_cond_f, rr_bcond_t, rr_bcond_f, rr_bon, rr_bcv, rr_cv, rr_g, rr_gr, rr_si, rr_sz, rr_sr, rr_al, rr_ld, rr_st, rr_rl, rr_rs, rr_ni, rr_nr, rr_z, rr_div, rr_rem, rr_lc, rr_mx, rr_mn, rr_ab, rr_no, gd_t, bc_t, bc_f, gd_tt, bc_tt, bc_ff, or_true, true_or, and_true, true_and, Nat.reduceAdd, p8, p9, p10, mo_b_s e1, b1, b2, a3]
    · rw [bc_f (fun z => c2 z.2)]
      simp (disch := omega) only [X7_touches, rr_p, rr_bp, rr_bb, rr_0, rr_lt, rr_blt, rr_le, rr_ble, rr_eq, rr_beq, rr_nl_n, rr_nl_s, rr_bnl_n, rr_bnl_s, rr_cond_t, rr_cond_f, rr_bcond_t, rr_bcond_f, rr_bon, rr_bcv, rr_cv, rr_g, rr_gr, rr_si, rr_sz, rr_sr, rr_al, rr_ld, rr_st, rr_rl, rr_rs, rr_ni, rr_nr, rr_z, rr_div, rr_rem, rr_lc, rr_mx, rr_mn, rr_ab, rr_no, gd_t, bc_t, bc_f, gd_tt, bc_tt, bc_ff, or_true, true_or, and_true, true_and, Nat.reduceAdd, p8, p9, p10, mo_b_s e1, b1, b2, a3]
  · rw [bc_f (fun z => c1 z.1)]
    simp (disch := omega) only [X7_touches, rr_p, rr_bp, rr_bb, rr_0, rr_lt, rr_blt, rr_le, rr_ble, rr_eq, rr_beq, rr_nl_n, rr_nl_s, rr_bnl_n, rr_bnl_s, rr_cond_t, rr_cond_f, rr_bcond_t, rr_bcond_f, rr_bon, rr_bcv, rr_cv, rr_g, rr_gr, rr_si, rr_sz, rr_sr, rr_al, rr_ld, rr_st, rr_rl, rr_rs, rr_ni, rr_nr, rr_z, rr_div, rr_rem, rr_lc, rr_mx, rr_mn, rr_ab, rr_no, gd_t, bc_t, bc_f, gd_tt, bc_tt, bc_ff, or_true, true_or, and_true, true_and, Nat.reduceAdd, p8, p9, p10, mo_b_s e1, b1, b2, a3]
theorem sB_s {W : List HK} {f : Nat → Int} {b : Int} {n : Nat} : sB W f b (n + 1) = sB W f b n + (if f n < b then ((hk W n).2.2.length : Int) - ((hk W n).2.1.length : Int) else 0) := rfl
theorem q7_mvA {h : AH} {m p q i : Nat} {P Q : List HK} (hP : mQ h m p P) (hQ : mQ h m q Q) (sP : sW P) (vP : pV P) (vQ : pV Q) (hi : i < Q.length) : mo_lp mo_N (X7_layMoved_L39 (hk Q i).1 m (q : Int) (p : Int) 1 (i : Int)) ((hk Q i).1, 0) h = some (eA P Q i, h) := by
  have mT := hP.1.1
  obtain ⟨p7, t7, n7⟩ := ms7 hP.1
  obtain ⟨p8, t8, n8⟩ := ms8 hP.1
  obtain ⟨p9, t9, n9⟩ := ms9 hP.1
  obtain ⟨p10, t10, n10⟩ := ms10 hP.1
  obtain ⟨-, hPt, pl, l1, l2, l3⟩ := id hP
  have w1 := hPt.1
  have v4 := (vQ i).1
  have he : (hk Q i).1 - sB P (hB P) (hk Q i).1 P.length = eA P Q i := by
    rw [sB_eq (Nat.le_refl _) (hB_mono sP)]; rfl
  have hs := lp_seq (F := X7_layMoved_L39 (hk Q i).1 m (q : Int) (p : Int) 1 (i : Int)) (fun j : Nat => ((hk Q i).1 - sB P (hB P) (hk Q i).1 j, (j : Int))) (fun _ => h) P.length (b := eA P Q i) (hE := h) ?_ ?_ mo_N (by rw [mo_N_v]; omega)
  · have z : (hk Q i).1 - sB P (hB P) (hk Q i).1 0 = (hk Q i).1 := by show (hk Q i).1 - 0 = _; omega
    rw [z] at hs
    exact hs
  · intro j hj
    obtain ⟨a1, a2, a3⟩ := mQ_a hP (i := (j : Int)) (by omega) (by omega)
    rw [Int.toNat_natCast] at a1 a2 a3
    have e1 := q7_standsAt hP hj
    have r1 := hB_rM hP vP j
    rw [sB_s]
    by_cases c : hB P j < (hk Q i).1
    · simp (disch := omega) only [X7_layMoved_L39, rr_p, rr_bp, rr_bb, rr_0, rr_lt, rr_blt, rr_le, rr_ble, rr_eq, rr_beq, rr_nl_n, rr_nl_s, rr_bnl_n, rr_bnl_s, rr_cond_t, rr_cond_f, rr_bcond_t, rr_bcond_f, rr_bon, rr_bcv, rr_cv, rr_g, rr_gr, rr_si, rr_sz, rr_sr, rr_al, rr_ld, rr_st, rr_rl, rr_rs, rr_ni, rr_nr, rr_z, rr_div, rr_rem, rr_lc, rr_mx, rr_mn, rr_ab, rr_no, gd_t, bc_t, bc_f, gd_tt, bc_tt, bc_ff, or_true, true_or, and_true, true_and, Nat.reduceAdd, p7, p8, p9, p10, w1, a2, a3, mo_b_s e1, if_pos c, Int.natCast_add, Int.natCast_one]
      rw [show (hk Q i).1 - sB P (hB P) (hk Q i).1 j + -(((hk P j).2.2.length : Int) - ((hk P j).2.1.length : Int)) = (hk Q i).1 - (sB P (hB P) (hk Q i).1 j + (((hk P j).2.2.length : Int) - ((hk P j).2.1.length : Int))) by omega]
    · simp (disch := omega) only [X7_layMoved_L39, rr_p, rr_bp, rr_bb, rr_0, rr_lt, rr_blt, rr_le, rr_ble, rr_eq, rr_beq, rr_nl_n, rr_nl_s, rr_bnl_n, rr_bnl_s, rr_cond_t, rr_cond_f, rr_bcond_t, rr_bcond_f, rr_bon, rr_bcv, rr_cv, rr_g, rr_gr, rr_si, rr_sz, rr_sr, rr_al, rr_ld, rr_st, rr_rl, rr_rs, rr_ni, rr_nr, rr_z, rr_div, rr_rem, rr_lc, rr_mx, rr_mn, rr_ab, rr_no, gd_t, bc_t, bc_f, gd_tt, bc_tt, bc_ff, or_true, true_or, and_true, true_and, Nat.reduceAdd, p7, p8, p9, p10, w1, a2, a3, mo_b_s e1, if_neg c, Int.natCast_add, Int.natCast_one, Int.add_zero]
  · simp (disch := omega) only [X7_layMoved_L39, rr_p, rr_bp, rr_bb, rr_0, rr_lt, rr_blt, rr_le, rr_ble, rr_eq, rr_beq, rr_nl_n, rr_nl_s, rr_bnl_n, rr_bnl_s, rr_cond_t, rr_cond_f, rr_bcond_t, rr_bcond_f, rr_bon, rr_bcv, rr_cv, rr_g, rr_gr, rr_si, rr_sz, rr_sr, rr_al, rr_ld, rr_st, rr_rl, rr_rs, rr_ni, rr_nr, rr_z, rr_div, rr_rem, rr_lc, rr_mx, rr_mn, rr_ab, rr_no, gd_t, bc_t, bc_f, gd_tt, bc_tt, bc_ff, or_true, true_or, and_true, true_and, Nat.reduceAdd, p7, w1, he]
theorem q7_mvB {h : AH} {m p q i : Nat} {P Q : List HK} (hP : mQ h m p P) (hQ : mQ h m q Q) (sQ : sW Q) (vP : pV P) (vQ : pV Q) (hi : i < P.length) (t : Int) : mo_lp mo_N (X7_layMoved_L39 t m (p : Int) (q : Int) 0 (i : Int)) ((hk P i).1, 0) h = some (eB P Q i, h) := by
  have mT := hP.1.1
  obtain ⟨p7, t7, n7⟩ := ms7 hP.1
  obtain ⟨p8, t8, n8⟩ := ms8 hP.1
  obtain ⟨p9, t9, n9⟩ := ms9 hP.1
  obtain ⟨p10, t10, n10⟩ := ms10 hP.1
  obtain ⟨-, hPt, pl, l1, l2, l3⟩ := id hQ
  have w1 := hPt.1
  have e1 := q7_standsAt hP hi
  have r1 := hB_rM hP vP i
  have he : (hk P i).1 + sB Q (fun j => (hk Q j).1) (hB P i) Q.length = eB P Q i := by
    rw [sB_eq (Nat.le_refl _) (at_mono sQ)]; rfl
  have hs := lp_seq (F := X7_layMoved_L39 t m (p : Int) (q : Int) 0 (i : Int)) (fun j : Nat => ((hk P i).1 + sB Q (fun j => (hk Q j).1) (hB P i) j, (j : Int))) (fun _ => h) Q.length (b := eB P Q i) (hE := h) ?_ ?_ mo_N (by rw [mo_N_v]; omega)
  · have z : (hk P i).1 + sB Q (fun j => (hk Q j).1) (hB P i) 0 = (hk P i).1 := by show (hk P i).1 + 0 = _; omega
    rw [z] at hs
    exact hs
  · intro j hj
    obtain ⟨a1, a2, a3⟩ := mQ_a hQ (i := (j : Int)) (by omega) (by omega)
    rw [Int.toNat_natCast] at a1 a2 a3
    have v4 := (vQ j).1
    rw [sB_s]
    by_cases c : (hk Q j).1 < hB P i
    · simp (disch := omega) only [X7_layMoved_L39, rr_p, rr_bp, rr_bb, rr_0, rr_lt, rr_blt, rr_le, rr_ble, rr_eq, rr_beq, rr_nl_n, rr_nl_s, rr_bnl_n, rr_bnl_s, rr_cond_t, rr_cond_f, rr_bcond_t, rr_bcond_f, rr_bon, rr_bcv, rr_cv, rr_g, rr_gr, rr_si, rr_sz, rr_sr, rr_al, rr_ld, rr_st, rr_rl, rr_rs, rr_ni, rr_nr, rr_z, rr_div, rr_rem, rr_lc, rr_mx, rr_mn, rr_ab, rr_no, gd_t, bc_t, bc_f, gd_tt, bc_tt, bc_ff, or_true, true_or, and_true, true_and, Nat.reduceAdd, p7, p8, p9, p10, w1, a1, a2, a3, mo_b_s e1, if_pos c, Int.natCast_add, Int.natCast_one]
      rw [Int.add_assoc]
    · simp (disch := omega) only [X7_layMoved_L39, rr_p, rr_bp, rr_bb, rr_0, rr_lt, rr_blt, rr_le, rr_ble, rr_eq, rr_beq, rr_nl_n, rr_nl_s, rr_bnl_n, rr_bnl_s, rr_cond_t, rr_cond_f, rr_bcond_t, rr_bcond_f, rr_bon, rr_bcv, rr_cv, rr_g, rr_gr, rr_si, rr_sz, rr_sr, rr_al, rr_ld, rr_st, rr_rl, rr_rs, rr_ni, rr_nr, rr_z, rr_div, rr_rem, rr_lc, rr_mx, rr_mn, rr_ab, rr_no, gd_t, bc_t, bc_f, gd_tt, bc_tt, bc_ff, or_true, true_or, and_true, true_and, Nat.reduceAdd, p7, p8, p9, p10, w1, a1, a2, a3, mo_b_s e1, if_neg c, Int.natCast_add, Int.natCast_one, Int.add_zero]
  · simp (disch := omega) only [X7_layMoved_L39, rr_p, rr_bp, rr_bb, rr_0, rr_lt, rr_blt, rr_le, rr_ble, rr_eq, rr_beq, rr_nl_n, rr_nl_s, rr_bnl_n, rr_bnl_s, rr_cond_t, rr_cond_f, rr_bcond_t, rr_bcond_f, rr_bon, rr_bcv, rr_cv, rr_g, rr_gr, rr_si, rr_sz, rr_sr, rr_al, rr_ld, rr_st, rr_rl, rr_rs, rr_ni, rr_nr, rr_z, rr_div, rr_rem, rr_lc, rr_mx, rr_mn, rr_ab, rr_no, gd_t, bc_t, bc_f, gd_tt, bc_tt, bc_ff, or_true, true_or, and_true, true_and, Nat.reduceAdd, p7, w1, he]
theorem q7_layMoved {h : AH} {m q : Nat} {x2 x3 : Int} {W : List HK} {e : Nat → Int} (hQ : mQ h m q W) (hloop : ∀ (i : Nat) (h' : AH), i < W.length → MF m 13 18 16 23 h h' → mo_lp mo_N (X7_layMoved_L39 (hk W i).1 m (q : Int) x2 x3 (i : Int)) ((hk W i).1, 0) h' = some (e i, h')) : ∃ h', X7_layMoved m (q : Int) x2 x3 h = some ((), h') ∧ mW h' m (mvW W e) ∧ MF m 13 18 16 23 h h' := by
  obtain ⟨hS, hPt, hp, l1, l2, l3⟩ := id hQ
  have mT0 := hS.1
  obtain ⟨h0, e0, w0, f0⟩ := q7_newWork hS
  have mT00 := (mS_fr hS f0).1
  have hL := lp_inv (F := X7_layMoved_L7 m (q : Int) x2 x3) (fun s h' => ∃ n : Nat, s = (n : Int) ∧ n ≤ W.length ∧ mW h' m (mvP W e n) ∧ MF m 13 18 16 23 h h') (fun s => ((W.length : Int) - s).toNat) (fun _ h' => mW h' m (mvW W e) ∧ MF m 13 18 16 23 h h') ?_ mo_N 0 h0 ⟨0, rfl, by omega, w0, f0⟩ (by rw [mo_N_v]; omega)
  · obtain ⟨_, h', e1, q⟩ := hL
    exact ⟨h', by simp (disch := omega) only [X7_layMoved, rr_p, rr_bp, rr_bb, rr_0, rr_lt, rr_blt, rr_le, rr_ble, rr_eq, rr_beq, rr_nl_n, rr_nl_s, rr_bnl_n, rr_bnl_s, rr_cond_t, rr_cond_f, rr_bcond_t, rr_bcond_f, rr_bon, rr_bcv, rr_cv, rr_g, rr_gr, rr_si, rr_sz, rr_sr, rr_al, rr_ld, rr_st, rr_rl, rr_rs, rr_ni, rr_nr, rr_z, rr_div, rr_rem, rr_lc, rr_mx, rr_mn, rr_ab, rr_no, gd_t, bc_t, bc_f, gd_tt, bc_tt, bc_ff, or_true, true_or, and_true, true_and, Nat.reduceAdd, mo_b_s e0, mo_b_s e1], q⟩
  · rintro s h' ⟨n, rfl, n1, n2, n3⟩
    have hQ' := mQ_fr hQ n3 (by omega)
    have mT := hQ'.1.1
    have w1 := hQ'.2.1.1
    obtain ⟨p7, t7, n7⟩ := ms7 hQ'.1
    obtain ⟨p8, t8, n8⟩ := ms8 hQ'.1
    by_cases hn : n < W.length
    · left
      obtain ⟨b1, b2, b3⟩ := mQ_a hQ' (i := (n : Int)) (by omega) (by omega)
      rw [Int.toNat_natCast] at b1 b2 b3
      have s1 := @hgs_s W n hn
      have s2 := @hgs_le W (n + 1)
      have s3 := @hcs_s W n hn
      have s4 := @hcs_le W (n + 1)
      have t1 := mvP_fG (W := W) (e := e) (n := n) (by omega)
      have t2 := mvP_fC (W := W) (e := e) (n := n) (by omega)
      have tl : (mvP W e n).length = n := by simp [mvP]
      have e9 := hloop n h' hn n3
      obtain ⟨h1, e1, v1, f1⟩ := q7_newHunk hQ'.1 n2 (p := e n) (by omega)
      have hQ1 := mQ_fr hQ' f1 (by omega)
      obtain ⟨h2, e2, v2, f2⟩ := lp_goes (F := X7_layMoved_L171 m (q : Int) (n : Int)) (hk W n).2.1 hQ1.1 v1 (by rw [t1]; simp only [List.length_nil]; omega) (by omega) (by
          intro k g1 g2 hk1 hf hg
          have hQg := mQ_fr hQ1 hf (by omega)
          have mTg := hQg.1.1
          obtain ⟨p9, t9, n9⟩ := ms9 hQg.1
          obtain ⟨p11, t11, n11⟩ := ms11 hQg.1
          obtain ⟨c1, c2, c3⟩ := mQ_a hQg (i := (n : Int)) (by omega) (by omega)
          rw [Int.toNat_natCast] at c1 c2 c3
          have e3 := q7_goFrom hQg (i := n) (by omega)
          have a3 := mQ_gl hQg hn hk1
          simp (disch := omega) only [X7_layMoved_L171, rr_p, rr_bp, rr_bb, rr_0, rr_lt, rr_blt, rr_le, rr_ble, rr_eq, rr_beq, rr_nl_n, rr_nl_s, rr_bnl_n, rr_bnl_s, rr_cond_t, rr_cond_f, rr_bcond_t, rr_bcond_f, rr_bon, rr_bcv, rr_cv, rr_g, rr_gr, rr_si, rr_sz, rr_sr, rr_al, rr_ld, rr_st, rr_rl, rr_rs, rr_ni, rr_nr, rr_z, rr_div, rr_rem, rr_lc, rr_mx, rr_mn, rr_ab, rr_no, gd_t, bc_t, bc_f, gd_tt, bc_tt, bc_ff, or_true, true_or, and_true, true_and, Nat.reduceAdd, p9, p11, c2, mo_b_s e3, a3, mo_b_s hg]) (by
          intro g1 hf
          have hQg := mQ_fr hQ1 hf (by omega)
          have mTg := hQg.1.1
          obtain ⟨p9, t9, n9⟩ := ms9 hQg.1
          obtain ⟨c1, c2, c3⟩ := mQ_a hQg (i := (n : Int)) (by omega) (by omega)
          rw [Int.toNat_natCast] at c1 c2 c3
          simp (disch := omega) only [X7_layMoved_L171, rr_p, rr_bp, rr_bb, rr_0, rr_lt, rr_blt, rr_le, rr_ble, rr_eq, rr_beq, rr_nl_n, rr_nl_s, rr_bnl_n, rr_bnl_s, rr_cond_t, rr_cond_f, rr_bcond_t, rr_bcond_f, rr_bon, rr_bcv, rr_cv, rr_g, rr_gr, rr_si, rr_sz, rr_sr, rr_al, rr_ld, rr_st, rr_rl, rr_rs, rr_ni, rr_nr, rr_z, rr_div, rr_rem, rr_lc, rr_mx, rr_mn, rr_ab, rr_no, gd_t, bc_t, bc_f, gd_tt, bc_tt, bc_ff, or_true, true_or, and_true, true_and, Nat.reduceAdd, p9, c2])
      have hQ2 := mQ_fr hQ1 f2 (by omega)
      obtain ⟨h3, e3, v3, f3⟩ := lp_comes (F := X7_layMoved_L216 m (q : Int) (n : Int)) (hk W n).2.2 hQ2.1 v2 (by rw [t2]; simp only [List.length_nil]; omega) (by omega) (by
          intro k g1 g2 hk1 hf hg
          have hQg := mQ_fr hQ2 hf (by omega)
          have mTg := hQg.1.1
          obtain ⟨p10, t10, n10⟩ := ms10 hQg.1
          obtain ⟨p12, t12, n12⟩ := ms12 hQg.1
          obtain ⟨c1, c2, c3⟩ := mQ_a hQg (i := (n : Int)) (by omega) (by omega)
          rw [Int.toNat_natCast] at c1 c2 c3
          have e3 := q7_comeFrom hQg (i := n) (by omega)
          have a3 := mQ_cl hQg hn hk1
          simp (disch := omega) only [X7_layMoved_L216, rr_p, rr_bp, rr_bb, rr_0, rr_lt, rr_blt, rr_le, rr_ble, rr_eq, rr_beq, rr_nl_n, rr_nl_s, rr_bnl_n, rr_bnl_s, rr_cond_t, rr_cond_f, rr_bcond_t, rr_bcond_f, rr_bon, rr_bcv, rr_cv, rr_g, rr_gr, rr_si, rr_sz, rr_sr, rr_al, rr_ld, rr_st, rr_rl, rr_rs, rr_ni, rr_nr, rr_z, rr_div, rr_rem, rr_lc, rr_mx, rr_mn, rr_ab, rr_no, gd_t, bc_t, bc_f, gd_tt, bc_tt, bc_ff, or_true, true_or, and_true, true_and, Nat.reduceAdd, p10, p12, c3, mo_b_s e3, a3, mo_b_s hg]) (by
          intro g1 hf
          have hQg := mQ_fr hQ2 hf (by omega)
          have mTg := hQg.1.1
          obtain ⟨p10, t10, n10⟩ := ms10 hQg.1
          obtain ⟨c1, c2, c3⟩ := mQ_a hQg (i := (n : Int)) (by omega) (by omega)
          rw [Int.toNat_natCast] at c1 c2 c3
          simp (disch := omega) only [X7_layMoved_L216, rr_p, rr_bp, rr_bb, rr_0, rr_lt, rr_blt, rr_le, rr_ble, rr_eq, rr_beq, rr_nl_n, rr_nl_s, rr_bnl_n, rr_bnl_s, rr_cond_t, rr_cond_f, rr_bcond_t, rr_bcond_f, rr_bon, rr_bcv, rr_cv, rr_g, rr_gr, rr_si, rr_sz, rr_sr, rr_al, rr_ld, rr_st, rr_rl, rr_rs, rr_ni, rr_nr, rr_z, rr_div, rr_rem, rr_lc, rr_mx, rr_mn, rr_ab, rr_no, gd_t, bc_t, bc_f, gd_tt, bc_tt, bc_ff, or_true, true_or, and_true, true_and, Nat.reduceAdd, p10, c3])
      refine ⟨(n : Int) + 1, h3, by simp (disch := omega) only [X7_layMoved_L7, rr_p, rr_bp, rr_bb, rr_0, rr_lt, rr_blt, rr_le, rr_ble, rr_eq, rr_beq, rr_nl_n, rr_nl_s, rr_bnl_n, rr_bnl_s, rr_cond_t, rr_cond_f, rr_bcond_t, rr_bcond_f, rr_bon, rr_bcv, rr_cv, rr_g, rr_gr, rr_si, rr_sz, rr_sr, rr_al, rr_ld, rr_st, rr_rl, rr_rs, rr_ni, rr_nr, rr_z, rr_div, rr_rem, rr_lc, rr_mx, rr_mn, rr_ab, rr_no, gd_t, bc_t, bc_f, gd_tt, bc_tt, bc_ff, or_true, true_or, and_true, true_and, Nat.reduceAdd, p7, p8, w1, b1, mo_b_s e9, mo_b_s e1, mo_b_s e2, mo_b_s e3], ⟨n + 1, by simp, by omega, ?_, (n3.tr f1 (a3 := 13) (b3 := 18) (c3 := 16) (d3 := 23) (by omega)).tr (f2.tr f3 (a3 := 13) (b3 := 18) (c3 := 16) (d3 := 23) (by omega)) (by omega)⟩, by omega⟩
      rw [mvP_s]
      rw [List.nil_append, List.nil_append] at v3
      exact v3
    · right
      have : n = W.length := by omega
      subst this
      exact ⟨(), h', by simp (disch := omega) only [X7_layMoved_L7, rr_p, rr_bp, rr_bb, rr_0, rr_lt, rr_blt, rr_le, rr_ble, rr_eq, rr_beq, rr_nl_n, rr_nl_s, rr_bnl_n, rr_bnl_s, rr_cond_t, rr_cond_f, rr_bcond_t, rr_bcond_f, rr_bon, rr_bcv, rr_cv, rr_g, rr_gr, rr_si, rr_sz, rr_sr, rr_al, rr_ld, rr_st, rr_rl, rr_rs, rr_ni, rr_nr, rr_z, rr_div, rr_rem, rr_lc, rr_mx, rr_mn, rr_ab, rr_no, gd_t, bc_t, bc_f, gd_tt, bc_tt, bc_ff, or_true, true_or, and_true, true_and, Nat.reduceAdd, p7, w1], n2, n3⟩
theorem q7_sw34 {h : AH} {m p q i : Nat} {P Q : List HK} (hP : mQ h m p P) (hQ : mQ h m q Q) (vP : pV P) (vQ : pV Q) (hi : i < P.length) : mo_lp mo_N (X7_swap_L34 m (p : Int) (q : Int) (i : Int)) 0 h = some (br (tch Q (hB P i) (hB P i + (hk P i).2.2.length)) (.inr (-103)) (.inl ((i : Int) + 1)), h) := by
  have mT := hP.1.1
  obtain ⟨p7, t7, n7⟩ := ms7 hP.1
  have w1 := hQ.2.1.1
  have ql := hQ.2.2.1
  have l1 := hQ.2.2.2.1
  have hs := lp_sr (F := X7_swap_L34 m (p : Int) (q : Int) (i : Int)) (h := h) (fun j => hB P i ≤ (hk Q j).1 + (hk Q j).2.1.length ∧ (hk Q j).1 ≤ hB P i + (hk P i).2.2.length) (fun _ => .inr (-103)) (.inl ((i : Int) + 1)) Q.length ?_ ?_ ?_ Q.length 0 mo_N (by omega) (by rw [mo_N_v]; omega)
  · rw [sr_c] at hs
    have e : (∃ j, 0 ≤ j ∧ j < 0 + Q.length ∧ (hB P i ≤ (hk Q j).1 + (hk Q j).2.1.length ∧ (hk Q j).1 ≤ hB P i + (hk P i).2.2.length)) ↔ tch Q (hB P i) (hB P i + (hk P i).2.2.length) := ⟨fun ⟨j, _, h2, h3⟩ => ⟨j, by omega, h3.2, h3.1⟩, fun ⟨j, h2, h3⟩ => ⟨j, by omega, by omega, h3.2, h3.1⟩⟩
    rw [propext e] at hs
    exact hs
  · intro j hj hn
    have e1 := q7_touches hP hQ vP vQ hi hj
    rw [bc_f hn] at e1
    simp (disch := omega) only [X7_swap_L34, rr_p, rr_bp, rr_bb, rr_0, rr_lt, rr_blt, rr_le, rr_ble, rr_eq, rr_beq, rr_nl_n, rr_nl_s, rr_bnl_n, rr_bnl_s, rr_cond_t, rr_cond_f, rr_bcond_t, rr_bcond_f, rr_bon, rr_bcv, rr_cv, rr_g, rr_gr, rr_si, rr_sz, rr_sr, rr_al, rr_ld, rr_st, rr_rl, rr_rs, rr_ni, rr_nr, rr_z, rr_div, rr_rem, rr_lc, rr_mx, rr_mn, rr_ab, rr_no, gd_t, bc_t, bc_f, gd_tt, bc_tt, bc_ff, or_true, true_or, and_true, true_and, Nat.reduceAdd, p7, w1, mo_b_s e1]
  · intro j hj hn
    have e1 := q7_touches hP hQ vP vQ hi hj
    rw [bc_t hn] at e1
    simp (disch := omega) only [X7_swap_L34, rr_p, rr_bp, rr_bb, rr_0, rr_lt, rr_blt, rr_le, rr_ble, rr_eq, rr_beq, rr_nl_n, rr_nl_s, rr_bnl_n, rr_bnl_s, rr_cond_t, rr_cond_f, rr_bcond_t, rr_bcond_f, rr_bon, rr_bcv, rr_cv, rr_g, rr_gr, rr_si, rr_sz, rr_sr, rr_al, rr_ld, rr_st, rr_rl, rr_rs, rr_ni, rr_nr, rr_z, rr_div, rr_rem, rr_lc, rr_mx, rr_mn, rr_ab, rr_no, gd_t, bc_t, bc_f, gd_tt, bc_tt, bc_ff, or_true, true_or, and_true, true_and, Nat.reduceAdd, p7, w1, mo_b_s e1]
  · simp (disch := omega) only [X7_swap_L34, rr_p, rr_bp, rr_bb, rr_0, rr_lt, rr_blt, rr_le, rr_ble, rr_eq, rr_beq, rr_nl_n, rr_nl_s, rr_bnl_n, rr_bnl_s, rr_cond_t, rr_cond_f, rr_bcond_t, rr_bcond_f, rr_bon, rr_bcv, rr_cv, rr_g, rr_gr, rr_si, rr_sz, rr_sr, rr_al, rr_ld, rr_st, rr_rl, rr_rs, rr_ni, rr_nr, rr_z, rr_div, rr_rem, rr_lc, rr_mx, rr_mn, rr_ab, rr_no, gd_t, bc_t, bc_f, gd_tt, bc_tt, bc_ff, or_true, true_or, and_true, true_and, Nat.reduceAdd, p7, w1]
theorem c_swap (p q : Int) (hp : am_r p) (hq : am_r q) (s : SG) (ho : OKS s) : CJ (fun x => X6_swap x p q) (fun m => X7_swap m p q) s := by
  obtain ⟨D, V, Q, d⟩ := s
  obtain ⟨⟨hD1, hD2⟩, oV, oQ, od⟩ := id ho
  dsimp only at hD1 hD2 oV oQ od
  have oQ1 := oQ.1
  have hp2 := hp
  have hq2 := hq
  unfold am_r at hp hq
  by_cases c1 : 0 ≤ p ∧ p < Q.length
  · by_cases c2 : 0 ≤ q ∧ q < Q.length
    · obtain ⟨pn, rfl⟩ := Int.eq_ofNat_of_zero_le c1.1
      obtain ⟨qn, rfl⟩ := Int.eq_ofNat_of_zero_le c2.1
      have hpl : pn < Q.length := by omega
      have hql : qn < Q.length := by omega
      have oP := OP_mono (oQ.2 pn hpl) (b2 := 14 + 28 * (Q.length : Int)) (by omega)
      have oR := OP_mono (oQ.2 qn hql) (b2 := 14 + 28 * (Q.length : Int)) (by omega)
      have vP := OP_pV oP (by omega)
      have vR := OP_pV oR (by omega)
      have K1 : ∀ x h, KI h x (D, V, Q, d) → ∃ A B, KB h x V Q d A B ∧ X6_patchOrNull x (pn : Int) h = some (some (B pn), h) ∧ X6_patchOrNull x (qn : Int) h = some (some (B qn), h) ∧ X0_anyTouch (x + 29) (some (B pn)) (some (B qn)) h = some (br (aT (pt Q pn) (pt Q qn)) 1 0, h) := by
        intro x h hK
        obtain ⟨-, -, -, A, B, hB⟩ := id hK
        have e1 := q6_patchOrNull hB oQ1 hp2
        dsimp only at e1
        rw [if_pos c1, Int.toNat_natCast] at e1
        have e2 := q6_patchOrNull hB oQ1 hq2
        dsimp only at e2
        rw [if_pos c2, Int.toNat_natCast] at e2
        have hQ := hB.2.2.2.1
        exact ⟨A, B, hB, e1, e2, q0_anyTouch (hQ pn hpl).2.1 vP (hQ qn hql).2.1 vR⟩
      have M1 : ∀ m h, MI h m (D, V, Q, d) → ah_T h m = 17 ∧ X7_isPatch m (pn : Int) h = some (1, h) ∧ X7_isPatch m (qn : Int) h = some (1, h) ∧ mQ h m pn (pt Q pn) ∧ mQ h m qn (pt Q qn) ∧ ah_F h m 8 = (Q.length : Int) := by
        intro m h hM
        have e1 := q7_isPatch hM oQ1 hp2
        dsimp only at e1
        rw [bc_t c1] at e1
        have e2 := q7_isPatch hM oQ1 hq2
        dsimp only at e2
        rw [bc_t c2] at e2
        exact ⟨hM.1.1, e1, e2, MI_Q hM ho (p := pn) hpl, MI_Q hM ho (p := qn) hql, hM.2.2.2.1.1⟩
      by_cases ct : aT (pt Q pn) (pt Q qn)
      · refine CJ.same (-103) ho ?_ ?_
        · intro x h hK
          obtain ⟨A, B, hB, e1, e2, e3⟩ := K1 x h hK
          have o1 := hB.1.1
          have p11 := hB.1.2.1.2.2.2.2.2.2.2.2.2.1
          have to := hK.2.2.1.2.2.2.2.2.2.1
          rw [bc_t ct] at e3
          simp (disch := omega) only [X6_swap, rr_p, rr_bp, rr_bb, rr_0, rr_lt, rr_blt, rr_le, rr_ble, rr_eq, rr_beq, rr_nl_n, rr_nl_s, rr_bnl_n, rr_bnl_s, rr_cond_t, rr_cond_f, rr_bcond_t, rr_bcond_f, rr_bon, rr_bcv, rr_cv, rr_g, rr_gr, rr_si, rr_sz, rr_sr, rr_al, rr_ld, rr_st, rr_rl, rr_rs, rr_ni, rr_nr, rr_z, rr_div, rr_rem, rr_lc, rr_mx, rr_mn, rr_ab, rr_no, gd_t, bc_t, bc_f, gd_tt, bc_tt, bc_ff, or_true, true_or, and_true, true_and, Nat.reduceAdd, mo_b_s e1, mo_b_s e2, p11, mo_b_s e3]
        · intro m h hM
          obtain ⟨mT, e1, e2, qP, qR, f8⟩ := M1 m h hM
          obtain ⟨p7, t7, n7⟩ := ms7 qP.1
          have w1 := qP.2.1.1
          have l1 := qP.2.2.2.1
          have pl := qP.2.2.1
          obtain ⟨i0, hi0, hy, hno⟩ : ∃ i0 : Nat, i0 < (pt Q pn).length ∧ tch (pt Q qn) (hB (pt Q pn) i0) (hB (pt Q pn) i0 + (hk (pt Q pn) i0).2.2.length) ∧ ∀ i, i < i0 → ¬ tch (pt Q qn) (hB (pt Q pn) i) (hB (pt Q pn) i + (hk (pt Q pn) i).2.2.length) := by
            have key : ∀ n : Nat, (∃ i, i < n ∧ i < (pt Q pn).length ∧ tch (pt Q qn) (hB (pt Q pn) i) (hB (pt Q pn) i + (hk (pt Q pn) i).2.2.length)) → ∃ i0 : Nat, i0 < (pt Q pn).length ∧ tch (pt Q qn) (hB (pt Q pn) i0) (hB (pt Q pn) i0 + (hk (pt Q pn) i0).2.2.length) ∧ ∀ i, i < i0 → ¬ tch (pt Q qn) (hB (pt Q pn) i) (hB (pt Q pn) i + (hk (pt Q pn) i).2.2.length) := by
              intro n
              induction n with
              | zero => rintro ⟨i, hi, _⟩; omega
              | succ n ih =>
                rintro ⟨i, hi, h2, h3⟩
                by_cases c : ∃ i, i < n ∧ i < (pt Q pn).length ∧ tch (pt Q qn) (hB (pt Q pn) i) (hB (pt Q pn) i + (hk (pt Q pn) i).2.2.length)
                · exact ih c
                · have : i = n := by
                    by_cases z : i = n
                    · exact z
                    · exact absurd ⟨i, by omega, h2, h3⟩ c
                  subst this
                  exact ⟨i, h2, h3, fun j hj ht => c ⟨j, hj, by omega, ht⟩⟩
            obtain ⟨i, hi, ht⟩ := ct
            exact key (i + 1) ⟨i, by omega, hi, ht⟩
          have hs := lp_seq (F := X7_swap_L21 m (pn : Int) (qn : Int)) (fun j : Nat => (j : Int)) (fun _ => h) i0 (b := -103) (hE := h) ?_ ?_ mo_N (by rw [mo_N_v]; omega)
          · have hs : mo_lp mo_N (X7_swap_L21 m (pn : Int) (qn : Int)) 0 h = some (-103, h) := hs
            simp (disch := omega) only [X7_swap, rr_p, rr_bp, rr_bb, rr_0, rr_lt, rr_blt, rr_le, rr_ble, rr_eq, rr_beq, rr_nl_n, rr_nl_s, rr_bnl_n, rr_bnl_s, rr_cond_t, rr_cond_f, rr_bcond_t, rr_bcond_f, rr_bon, rr_bcv, rr_cv, rr_g, rr_gr, rr_si, rr_sz, rr_sr, rr_al, rr_ld, rr_st, rr_rl, rr_rs, rr_ni, rr_nr, rr_z, rr_div, rr_rem, rr_lc, rr_mx, rr_mn, rr_ab, rr_no, gd_t, bc_t, bc_f, gd_tt, bc_tt, bc_ff, or_true, true_or, and_true, true_and, Nat.reduceAdd, mo_b_s e1, mo_b_s e2, hs]
          · intro j hj
            have e3 := q7_sw34 qP qR vP vR (i := j) (by omega)
            rw [bc_f (hno j hj)] at e3
            simp (disch := omega) only [X7_swap_L21, rr_p, rr_bp, rr_bb, rr_0, rr_lt, rr_blt, rr_le, rr_ble, rr_eq, rr_beq, rr_nl_n, rr_nl_s, rr_bnl_n, rr_bnl_s, rr_cond_t, rr_cond_f, rr_bcond_t, rr_bcond_f, rr_bon, rr_bcv, rr_cv, rr_g, rr_gr, rr_si, rr_sz, rr_sr, rr_al, rr_ld, rr_st, rr_rl, rr_rs, rr_ni, rr_nr, rr_z, rr_div, rr_rem, rr_lc, rr_mx, rr_mn, rr_ab, rr_no, gd_t, bc_t, bc_f, gd_tt, bc_tt, bc_ff, or_true, true_or, and_true, true_and, Nat.reduceAdd, p7, w1, e3, Int.natCast_add, Int.natCast_one]
          · have e3 := q7_sw34 qP qR vP vR (i := i0) (by omega)
            rw [bc_t hy] at e3
            simp (disch := omega) only [X7_swap_L21, rr_p, rr_bp, rr_bb, rr_0, rr_lt, rr_blt, rr_le, rr_ble, rr_eq, rr_beq, rr_nl_n, rr_nl_s, rr_bnl_n, rr_bnl_s, rr_cond_t, rr_cond_f, rr_bcond_t, rr_bcond_f, rr_bon, rr_bcv, rr_cv, rr_g, rr_gr, rr_si, rr_sz, rr_sr, rr_al, rr_ld, rr_st, rr_rl, rr_rs, rr_ni, rr_nr, rr_z, rr_div, rr_rem, rr_lc, rr_mx, rr_mn, rr_ab, rr_no, gd_t, bc_t, bc_f, gd_tt, bc_tt, bc_ff, or_true, true_or, and_true, true_and, Nat.reduceAdd, p7, w1, e3]
      · have hn := aT_nT ct
        have M2 : ∀ m h h' (r : Int), MI h m (D, V, Q, d) → X7_swap_L21 m (pn : Int) (qn : Int) ((pt Q pn).length : Int) h = some (.inr r, h') → X7_swap m (pn : Int) (qn : Int) h = some (r, h') := by
          intro m h h' r hM he
          obtain ⟨mT, e1, e2, qP, qR, f8⟩ := M1 m h hM
          obtain ⟨p7, t7, n7⟩ := ms7 qP.1
          have w1 := qP.2.1.1
          have l1 := qP.2.2.2.1
          have pl := qP.2.2.1
          have hs := lp_seq (F := X7_swap_L21 m (pn : Int) (qn : Int)) (fun j : Nat => (j : Int)) (fun _ => h) (pt Q pn).length (b := r) (hE := h') ?_ he mo_N (by rw [mo_N_v]; omega)
          · have hs : mo_lp mo_N (X7_swap_L21 m (pn : Int) (qn : Int)) 0 h = some (r, h') := hs
            simp (disch := omega) only [X7_swap, rr_p, rr_bp, rr_bb, rr_0, rr_lt, rr_blt, rr_le, rr_ble, rr_eq, rr_beq, rr_nl_n, rr_nl_s, rr_bnl_n, rr_bnl_s, rr_cond_t, rr_cond_f, rr_bcond_t, rr_bcond_f, rr_bon, rr_bcv, rr_cv, rr_g, rr_gr, rr_si, rr_sz, rr_sr, rr_al, rr_ld, rr_st, rr_rl, rr_rs, rr_ni, rr_nr, rr_z, rr_div, rr_rem, rr_lc, rr_mx, rr_mn, rr_ab, rr_no, gd_t, bc_t, bc_f, gd_tt, bc_tt, bc_ff, or_true, true_or, and_true, true_and, Nat.reduceAdd, mo_b_s e1, mo_b_s e2, hs]
          · intro j hj
            have e3 := q7_sw34 qP qR vP vR (i := j) (by omega)
            rw [bc_f (fun z => ct ⟨j, hj, z⟩)] at e3
            simp (disch := omega) only [X7_swap_L21, rr_p, rr_bp, rr_bb, rr_0, rr_lt, rr_blt, rr_le, rr_ble, rr_eq, rr_beq, rr_nl_n, rr_nl_s, rr_bnl_n, rr_bnl_s, rr_cond_t, rr_cond_f, rr_bcond_t, rr_bcond_f, rr_bon, rr_bcv, rr_cv, rr_g, rr_gr, rr_si, rr_sz, rr_sr, rr_al, rr_ld, rr_st, rr_rl, rr_rs, rr_ni, rr_nr, rr_z, rr_div, rr_rem, rr_lc, rr_mx, rr_mn, rr_ab, rr_no, gd_t, bc_t, bc_f, gd_tt, bc_tt, bc_ff, or_true, true_or, and_true, true_and, Nat.reduceAdd, p7, w1, e3, Int.natCast_add, Int.natCast_one]
        by_cases cq : Q.length + 2 ≤ 12
        · have oA := eA_OP oP oR hn (b2 := 14 + 28 * ((Q.length : Int) + 1)) (by omega)
          have oB := eB_OP oP oR hn (b2 := 14 + 28 * (((Q ++ [mvW (pt Q qn) (eA (pt Q pn) (pt Q qn))]).length : Int) + 1)) (by simp; omega)
          have oQ2 := OQ_add oQ (by omega) oA
          have lQ2 : (Q ++ [mvW (pt Q qn) (eA (pt Q pn) (pt Q qn))]).length = Q.length + 1 := by simp
          have oQ3 := OQ_add oQ2 (by omega) oB
          refine ⟨(Q.length : Int), (D, V, Q ++ [mvW (pt Q qn) (eA (pt Q pn) (pt Q qn))] ++ [mvW (pt Q pn) (eB (pt Q pn) (pt Q qn))], d), ⟨⟨hD1, hD2⟩, oV, oQ3, od⟩, ?_, ?_⟩
          · intro x h hK
            obtain ⟨A, B, hB, e1, e2, e3⟩ := K1 x h hK
            rw [bc_f ct] at e3
            have hR := hK.1
            have nD := hK.2.1
            have hSc := hK.2.2.1
            have o1 := hB.1.1
            have o9 := hB.1.2.2.2.2.2.2.2.2
            have p11 := hB.1.2.1.2.2.2.2.2.2.2.2.2.1
            have to := hSc.2.2.2.2.2.2.1
            have hQ := hB.2.2.2.1
            obtain ⟨-, y2, y3, y4⟩ := hQ pn hpl
            obtain ⟨-, z2, z3, z4⟩ := hQ qn hql
            dsimp only at hR nD
            have e5 := q6_hasRoom hB oQ1 (n := 2) (by omega)
            rw [bc_t (by omega)] at e5
            obtain ⟨h1, e6, r6, s6, v6⟩ := q6_newPatch (h := h)
            have cx := s6 x (by omega) (by omega)
            have co := s6 (x + 29) (by omega) (by omega)
            have y21 := kP_sm y2 (s6.mono (by omega) (by omega))
            have z21 := kP_sm z2 (s6.mono (by omega) (by omega))
            obtain ⟨h2, e7, r7, g7⟩ := q0_moveAhead (x := x + 29) y21 oP.1 vP z21 vR r6 (by omega) (by omega) oR.2.1 oR.2.2.1 oR.2.2.2.1
            obtain ⟨h3, e8, r8, s8, v8⟩ := q6_newPatch (h := h2)
            have v7 := g7.2.2.2.2.1
            have s7 : SM h h2 0 (ah_S h) := s6.tr (SM.fr g7 (by omega))
            have s83 : SM h h3 0 (ah_S h) := s7.tr (s8.mono (by omega) (by omega))
            have r73 := kP_sm r7 (s8.mono (by omega) (by omega))
            obtain ⟨h4, e9, r9, g9⟩ := q0_moveBehind (x := x + 29) (kP_sm y2 (s83.mono (by omega) (by omega))) vP (kP_sm z2 (s83.mono (by omega) (by omega))) oR.1 vR r8 (by omega) (by omega) oP.2.1 oP.2.2.1 oP.2.2.2.1
            have v9 := g9.2.2.2.2.1
            have s9 : SM h h4 0 (ah_S h) := s83.tr (SM.fr g9 (by omega))
            have r74 := kP_fr r73 g9 (by omega)
            have hB4 := KB_sm hB (s9.mono (by omega) (by omega)) (s9.mono (by omega) (by omega)) (s9.mono (by omega) (by omega)) (by omega)
            obtain ⟨h5, ea, Ba, qa, va, ta, pa⟩ := q6_addPatch hB4 (by omega) r74 (by omega) (by omega) (fun v hv => (hB.2.2.1 v hv).2.2.2.1) (fun p hp => (hB.2.2.2.1 p hp).2.2.2)
            have r95 := kP_sm r9 (qa _ _ (by omega))
            obtain ⟨h6, eb, Bb, qb, vb, tb, pb⟩ := q6_addPatch Ba (by omega) r95 (by omega) (by omega) (fun v hv => by have := (hB.2.2.1 v hv).2.2.2.1; omega) (fun p hp => by
              by_cases c : p = Q.length
              · rw [if_pos c]; omega
              · rw [if_neg c]; have := (hB.2.2.2.1 p (by omega)).2.2.2; omega)
            have sF : ∀ lo hi, hi ≤ ah_S h → ((x < lo ∧ hi ≤ x + 6) ∨ x + 6 < lo) → SM h h6 lo hi := fun lo hi a1 a2 => ((s9.mono (by omega) a1).tr (qa lo hi a2)).tr (qb lo hi a2)
            have tx1 : ah_T h1 x = 16 := by rw [cx.1]; exact o1
            have px1 : ah_P h1 x 11 = some (x + 29) := by rw [cx.2.2.2.1]; exact p11
            have to1 : ah_T h1 (x + 29) = 10 := by rw [co.1]; exact to
            have cx3 := s83 x (by omega) (by omega)
            have co3 := s83 (x + 29) (by omega) (by omega)
            have tx3 : ah_T h3 x = 16 := by rw [cx3.1]; exact o1
            have px3 : ah_P h3 x 11 = some (x + 29) := by rw [cx3.2.2.2.1]; exact p11
            have to3 : ah_T h3 (x + 29) = 10 := by rw [co3.1]; exact to
            have tx4 := hB4.1.1
            have tx5 := Ba.1.1
            refine ⟨h6, by simp (disch := omega) only [X6_swap, rr_p, rr_bp, rr_bb, rr_0, rr_lt, rr_blt, rr_le, rr_ble, rr_eq, rr_beq, rr_nl_n, rr_nl_s, rr_bnl_n, rr_bnl_s, rr_cond_t, rr_cond_f, rr_bcond_t, rr_bcond_f, rr_bon, rr_bcv, rr_cv, rr_g, rr_gr, rr_si, rr_sz, rr_sr, rr_al, rr_ld, rr_st, rr_rl, rr_rs, rr_ni, rr_nr, rr_z, rr_div, rr_rem, rr_lc, rr_mx, rr_mn, rr_ab, rr_no, gd_t, bc_t, bc_f, gd_tt, bc_tt, bc_ff, or_true, true_or, and_true, true_and, Nat.reduceAdd, mo_b_s e1, mo_b_s e2, p11, mo_b_s e3, mo_b_s e5, mo_b_s e6, px1, mo_b_s e7, mo_b_s e8, px3, mo_b_s e9, mo_b_s ea, mo_b_s eb], kR_sm hR (sF _ _ (by omega) (by omega)), ?_, KSc_sm hSc (sF _ _ (by omega) (by omega)) (sF _ _ (by omega) (by omega)), A, _, Bb⟩
            rw [(sF (x + 2) (x + 3) (by omega) (by omega) (x + 2) (by omega) (by omega)).2.1]; exact nD
          · intro m h hM
            obtain ⟨mT, e1, e2, qP, qR, f8⟩ := M1 m h hM
            obtain ⟨p7, t7, n7⟩ := ms7 qP.1
            have w1 := qP.2.1.1
            have l1 := qP.2.2.2.1
            have pl := qP.2.2.1
            obtain ⟨h1, e3, w3, f3⟩ := q7_layMoved (x2 := (pn : Int)) (x3 := 1) (e := eA (pt Q pn) (pt Q qn)) qR (fun i h' hi hf => q7_mvA (mQ_fr qP hf (by omega)) (mQ_fr qR hf (by omega)) oP.1 vP vR hi)
            have hM1 := MI_fr hM f3 (by omega)
            have mT1 := hM1.1.1
            obtain ⟨h2, e4, M4, f4⟩ := q7_storeWork hM1 w3 (by omega) oA.2.1 oA.2.2.1 oA.2.2.2.1 (OQ_b oQ)
            have mT2 := M4.1.1
            have ho2 : OKS (D, V, Q ++ [mvW (pt Q qn) (eA (pt Q pn) (pt Q qn))], d) := ⟨⟨hD1, hD2⟩, oV, oQ2, od⟩
            have qP2 := MI_Q M4 ho2 (p := pn) (by dsimp only; omega)
            have qR2 := MI_Q M4 ho2 (p := qn) (by dsimp only; omega)
            dsimp only at qP2 qR2
            rw [pt_app_l hpl] at qP2
            rw [pt_app_l hql] at qR2
            obtain ⟨h3, e5, w5, f5⟩ := q7_layMoved (x2 := (qn : Int)) (x3 := 0) (e := eB (pt Q pn) (pt Q qn)) qP2 (fun i h' hi hf => q7_mvB (mQ_fr qP2 hf (by omega)) (mQ_fr qR2 hf (by omega)) oR.1 vP vR hi _)
            have hM3 := MI_fr M4 f5 (by omega)
            have mT3 := hM3.1.1
            obtain ⟨h4, e6, M6, f6⟩ := q7_storeWork hM3 w5 (by omega) oB.2.1 oB.2.2.1 oB.2.2.2.1 (OQ_b oQ2)
            exact ⟨h4, M2 m h h4 _ hM (by simp (disch := omega) only [X7_swap_L21, rr_p, rr_bp, rr_bb, rr_0, rr_lt, rr_blt, rr_le, rr_ble, rr_eq, rr_beq, rr_nl_n, rr_nl_s, rr_bnl_n, rr_bnl_s, rr_cond_t, rr_cond_f, rr_bcond_t, rr_bcond_f, rr_bon, rr_bcv, rr_cv, rr_g, rr_gr, rr_si, rr_sz, rr_sr, rr_al, rr_ld, rr_st, rr_rl, rr_rs, rr_ni, rr_nr, rr_z, rr_div, rr_rem, rr_lc, rr_mx, rr_mn, rr_ab, rr_no, gd_t, bc_t, bc_f, gd_tt, bc_tt, bc_ff, or_true, true_or, and_true, true_and, Nat.reduceAdd, p7, w1, f8, mo_b_s e3, mo_b_s e4, mo_b_s e5, mo_b_s e6]), M6⟩
        · refine CJ.same (-104) ho ?_ ?_
          · intro x h hK
            obtain ⟨A, B, hB, e1, e2, e3⟩ := K1 x h hK
            have o1 := hB.1.1
            have p11 := hB.1.2.1.2.2.2.2.2.2.2.2.2.1
            have to := hK.2.2.1.2.2.2.2.2.2.1
            rw [bc_f ct] at e3
            have e5 := q6_hasRoom hB oQ1 (n := 2) (by omega)
            rw [bc_f (by omega)] at e5
            simp (disch := omega) only [X6_swap, rr_p, rr_bp, rr_bb, rr_0, rr_lt, rr_blt, rr_le, rr_ble, rr_eq, rr_beq, rr_nl_n, rr_nl_s, rr_bnl_n, rr_bnl_s, rr_cond_t, rr_cond_f, rr_bcond_t, rr_bcond_f, rr_bon, rr_bcv, rr_cv, rr_g, rr_gr, rr_si, rr_sz, rr_sr, rr_al, rr_ld, rr_st, rr_rl, rr_rs, rr_ni, rr_nr, rr_z, rr_div, rr_rem, rr_lc, rr_mx, rr_mn, rr_ab, rr_no, gd_t, bc_t, bc_f, gd_tt, bc_tt, bc_ff, or_true, true_or, and_true, true_and, Nat.reduceAdd, mo_b_s e1, mo_b_s e2, p11, mo_b_s e3, mo_b_s e5]
          · intro m h hM
            obtain ⟨mT, e1, e2, qP, qR, f8⟩ := M1 m h hM
            obtain ⟨p7, t7, n7⟩ := ms7 qP.1
            have w1 := qP.2.1.1
            have l1 := qP.2.2.2.1
            have pl := qP.2.2.1
            exact M2 m h h _ hM (by simp (disch := omega) only [X7_swap_L21, rr_p, rr_bp, rr_bb, rr_0, rr_lt, rr_blt, rr_le, rr_ble, rr_eq, rr_beq, rr_nl_n, rr_nl_s, rr_bnl_n, rr_bnl_s, rr_cond_t, rr_cond_f, rr_bcond_t, rr_bcond_f, rr_bon, rr_bcv, rr_cv, rr_g, rr_gr, rr_si, rr_sz, rr_sr, rr_al, rr_ld, rr_st, rr_rl, rr_rs, rr_ni, rr_nr, rr_z, rr_div, rr_rem, rr_lc, rr_mx, rr_mn, rr_ab, rr_no, gd_t, bc_t, bc_f, gd_tt, bc_tt, bc_ff, or_true, true_or, and_true, true_and, Nat.reduceAdd, p7, w1, f8])
    · refine CJ.same (-101) ho ?_ ?_
      · intro x h hK
        obtain ⟨hR, nD, hSc, A, B, hB⟩ := id hK
        obtain ⟨⟨o1, ⟨p0, p1, p2, p4, p6, p7, p8, p9, p10, p11, p12⟩, o3, o4, o5, o6, o7, o8, o9⟩, ⟨f3, f5, f13⟩, hA, hQ, hM, hX⟩ := id hB
        have e1 := q6_patchOrNull hB oQ1 hp2
        dsimp only at e1
        rw [if_pos c1] at e1
        have e2 := q6_patchOrNull hB oQ1 hq2
        dsimp only at e2
        rw [if_neg c2] at e2
        simp (disch := omega) only [X6_swap, rr_p, rr_bp, rr_bb, rr_0, rr_lt, rr_blt, rr_le, rr_ble, rr_eq, rr_beq, rr_nl_n, rr_nl_s, rr_bnl_n, rr_bnl_s, rr_cond_t, rr_cond_f, rr_bcond_t, rr_bcond_f, rr_bon, rr_bcv, rr_cv, rr_g, rr_gr, rr_si, rr_sz, rr_sr, rr_al, rr_ld, rr_st, rr_rl, rr_rs, rr_ni, rr_nr, rr_z, rr_div, rr_rem, rr_lc, rr_mx, rr_mn, rr_ab, rr_no, gd_t, bc_t, bc_f, gd_tt, bc_tt, bc_ff, or_true, true_or, and_true, true_and, Nat.reduceAdd, mo_b_s e1, mo_b_s e2]
      · intro m h hM
        have mT := hM.1.1
        have e1 := q7_isPatch hM oQ1 hp2
        dsimp only at e1
        rw [bc_t c1] at e1
        have e2 := q7_isPatch hM oQ1 hq2
        dsimp only at e2
        rw [bc_f c2] at e2
        simp (disch := omega) only [X7_swap, rr_p, rr_bp, rr_bb, rr_0, rr_lt, rr_blt, rr_le, rr_ble, rr_eq, rr_beq, rr_nl_n, rr_nl_s, rr_bnl_n, rr_bnl_s, rr_cond_t, rr_cond_f, rr_bcond_t, rr_bcond_f, rr_bon, rr_bcv, rr_cv, rr_g, rr_gr, rr_si, rr_sz, rr_sr, rr_al, rr_ld, rr_st, rr_rl, rr_rs, rr_ni, rr_nr, rr_z, rr_div, rr_rem, rr_lc, rr_mx, rr_mn, rr_ab, rr_no, gd_t, bc_t, bc_f, gd_tt, bc_tt, bc_ff, or_true, true_or, and_true, true_and, Nat.reduceAdd, mo_b_s e1, mo_b_s e2]
  · refine CJ.same (-101) ho ?_ ?_
    · intro x h hK
      obtain ⟨hR, nD, hSc, A, B, hB⟩ := id hK
      obtain ⟨⟨o1, ⟨p0, p1, p2, p4, p6, p7, p8, p9, p10, p11, p12⟩, o3, o4, o5, o6, o7, o8, o9⟩, ⟨f3, f5, f13⟩, hA, hQ, hM, hX⟩ := id hB
      have e1 := q6_patchOrNull hB oQ1 hp2
      dsimp only at e1
      rw [if_neg c1] at e1
      by_cases c2 : 0 ≤ q ∧ q < Q.length
      · have e2 := q6_patchOrNull hB oQ1 hq2
        dsimp only at e2
        rw [if_pos c2] at e2
        simp (disch := omega) only [X6_swap, rr_p, rr_bp, rr_bb, rr_0, rr_lt, rr_blt, rr_le, rr_ble, rr_eq, rr_beq, rr_nl_n, rr_nl_s, rr_bnl_n, rr_bnl_s, rr_cond_t, rr_cond_f, rr_bcond_t, rr_bcond_f, rr_bon, rr_bcv, rr_cv, rr_g, rr_gr, rr_si, rr_sz, rr_sr, rr_al, rr_ld, rr_st, rr_rl, rr_rs, rr_ni, rr_nr, rr_z, rr_div, rr_rem, rr_lc, rr_mx, rr_mn, rr_ab, rr_no, gd_t, bc_t, bc_f, gd_tt, bc_tt, bc_ff, or_true, true_or, and_true, true_and, Nat.reduceAdd, mo_b_s e1, mo_b_s e2]
      · have e2 := q6_patchOrNull hB oQ1 hq2
        dsimp only at e2
        rw [if_neg c2] at e2
        simp (disch := omega) only [X6_swap, rr_p, rr_bp, rr_bb, rr_0, rr_lt, rr_blt, rr_le, rr_ble, rr_eq, rr_beq, rr_nl_n, rr_nl_s, rr_bnl_n, rr_bnl_s, rr_cond_t, rr_cond_f, rr_bcond_t, rr_bcond_f, rr_bon, rr_bcv, rr_cv, rr_g, rr_gr, rr_si, rr_sz, rr_sr, rr_al, rr_ld, rr_st, rr_rl, rr_rs, rr_ni, rr_nr, rr_z, rr_div, rr_rem, rr_lc, rr_mx, rr_mn, rr_ab, rr_no, gd_t, bc_t, bc_f, gd_tt, bc_tt, bc_ff, or_true, true_or, and_true, true_and, Nat.reduceAdd, mo_b_s e1, mo_b_s e2]
    · intro m h hM
      have mT := hM.1.1
      have e1 := q7_isPatch hM oQ1 hp2
      dsimp only at e1
      rw [bc_f c1] at e1
      simp (disch := omega) only [X7_swap, rr_p, rr_bp, rr_bb, rr_0, rr_lt, rr_blt, rr_le, rr_ble, rr_eq, rr_beq, rr_nl_n, rr_nl_s, rr_bnl_n, rr_bnl_s, rr_cond_t, rr_cond_f, rr_bcond_t, rr_bcond_f, rr_bon, rr_bcv, rr_cv, rr_g, rr_gr, rr_si, rr_sz, rr_sr, rr_al, rr_ld, rr_st, rr_rl, rr_rs, rr_ni, rr_nr, rr_z, rr_div, rr_rem, rr_lc, rr_mx, rr_mn, rr_ab, rr_no, gd_t, bc_t, bc_f, gd_tt, bc_tt, bc_ff, or_true, true_or, and_true, true_and, Nat.reduceAdd, mo_b_s e1]
