/-- both find the same store -/
theorem st_both {D : List Int} {V : List VR} {Q : List (List HK)} {d k : Nat} {bd : Int} (ho : OKS (D, V, Q, d)) (hk1 : 1 ≤ k ∧ k ≤ 6 ∧ k ≤ V.length) (hb : 1 ≤ bd ∧ bd ≤ 999) (cd : d < 30) : ∃ b : BS, okB (stE V k bd) b ∧ (∀ x h, KI h x (D, V, Q, d) → ∃ h1, X6_findStore x (k : Int) bd h = some ((), h1) ∧ KI h1 x (D, V, Q, d + 1) ∧ kE h1 (x + 30) (stE V k bd) ∧ kBst h1 (x + 30) (stE V k bd) b ∧ ah_T h1 x = 16 ∧ ah_P h1 x 12 = some (x + 30)) ∧ ∀ m h, MI h m (D, V, Q, d) → ∃ h1, X7_layStore m (k : Int) bd (ah_sF h m 15 ((d : Int) + 1)) = some ((), h1) ∧ MI h1 m (D, V, Q, d + 1) ∧ mE h1 m (stE V k bd) ∧ mBst h1 m (stE V k bd) b ∧ ah_T (ah_sF h m 15 ((d : Int) + 1)) m = 17 := by
  obtain ⟨⟨hD1, hD2⟩, oV, oQ, od⟩ := id ho
  dsimp only at hD1 hD2 oV oQ od
  refine ⟨ev (stE V k bd) (stE V k bd).1 [] none, ev_ok0, ?_, ?_⟩
  · intro x h hK
    obtain ⟨h1, e1, q1, q2, q3⟩ := q6_findStore hK oV hk1 hb od
    obtain ⟨-, -, -, A, B, hB⟩ := id q1
    exact ⟨h1, e1, q1, q2, q3, hB.1.1, hB.1.2.1.2.2.2.2.2.2.2.2.2.2⟩
  · intro m h hM
    have hM1 := MI_done hM
    obtain ⟨h1, e1, q1, q2, q3⟩ := q7_layStore hM1 (⟨⟨hD1, hD2⟩, oV, oQ, by dsimp only; omega⟩ : OKS (D, V, Q, d + 1)) hk1 hb
    exact ⟨h1, e1, q1, q2, q3, hM1.1.1⟩
theorem q2_none {h : AH} {l : Nat} (t0 : ah_T h l = 12) (f10 : ah_F h l 9 = 0) : (∀ c : Int, X2_worstPiece l c h = some (-1, h)) ∧ ∀ r : Int, X2_bestCopy l r h = some (-1, h) := by
  refine ⟨fun c => ?_, fun r => ?_⟩
  · have e : mo_lp mo_N (X2_worstPiece_L4 l c) (-1, 0) h = some (-1, h) := lp_r (by simp (disch := omega) only [X2_worstPiece_L4, rr_p, rr_bp, rr_bb, rr_0, rr_lt, rr_blt, rr_le, rr_ble, rr_eq, rr_beq, rr_nl_n, rr_nl_s, rr_bnl_n, rr_bnl_s, rr_cond_t, rr_cond_f, rr_bcond_t, rr_bcond_f, rr_bon, rr_bcv, rr_cv, rr_g, rr_gr, rr_si, rr_sz, rr_sr, rr_al, rr_ld, rr_st, rr_rl, rr_rs, rr_ni, rr_nr, rr_z, rr_div, rr_rem, rr_lc, rr_mx, rr_mn, rr_ab, rr_no, gd_t, bc_t, bc_f, gd_tt, bc_tt, bc_ff, or_true, true_or, and_true, true_and, Nat.reduceAdd, f10]) (by rw [mo_N_v]; omega)
    simp (disch := omega) only [X2_worstPiece, rr_p, rr_bp, rr_bb, rr_0, rr_lt, rr_blt, rr_le, rr_ble, rr_eq, rr_beq, rr_nl_n, rr_nl_s, rr_bnl_n, rr_bnl_s, rr_cond_t, rr_cond_f, rr_bcond_t, rr_bcond_f, rr_bon, rr_bcv, rr_cv, rr_g, rr_gr, rr_si, rr_sz, rr_sr, rr_al, rr_ld, rr_st, rr_rl, rr_rs, rr_ni, rr_nr, rr_z, rr_div, rr_rem, rr_lc, rr_mx, rr_mn, rr_ab, rr_no, gd_t, bc_t, bc_f, gd_tt, bc_tt, bc_ff, or_true, true_or, and_true, true_and, Nat.reduceAdd, mo_b_s e]
  · have e : mo_lp mo_N (X2_bestCopy_L4 l r) (-1, 0) h = some (-1, h) := lp_r (by simp (disch := omega) only [X2_bestCopy_L4, rr_p, rr_bp, rr_bb, rr_0, rr_lt, rr_blt, rr_le, rr_ble, rr_eq, rr_beq, rr_nl_n, rr_nl_s, rr_bnl_n, rr_bnl_s, rr_cond_t, rr_cond_f, rr_bcond_t, rr_bcond_f, rr_bon, rr_bcv, rr_cv, rr_g, rr_gr, rr_si, rr_sz, rr_sr, rr_al, rr_ld, rr_st, rr_rl, rr_rs, rr_ni, rr_nr, rr_z, rr_div, rr_rem, rr_lc, rr_mx, rr_mn, rr_ab, rr_no, gd_t, bc_t, bc_f, gd_tt, bc_tt, bc_ff, or_true, true_or, and_true, true_and, Nat.reduceAdd, f10]) (by rw [mo_N_v]; omega)
    simp (disch := omega) only [X2_bestCopy, rr_p, rr_bp, rr_bb, rr_0, rr_lt, rr_blt, rr_le, rr_ble, rr_eq, rr_beq, rr_nl_n, rr_nl_s, rr_bnl_n, rr_bnl_s, rr_cond_t, rr_cond_f, rr_bcond_t, rr_bcond_f, rr_bon, rr_bcv, rr_cv, rr_g, rr_gr, rr_si, rr_sz, rr_sr, rr_al, rr_ld, rr_st, rr_rl, rr_rs, rr_ni, rr_nr, rr_z, rr_div, rr_rem, rr_lc, rr_mx, rr_mn, rr_ab, rr_no, gd_t, bc_t, bc_f, gd_tt, bc_tt, bc_ff, or_true, true_or, and_true, true_and, Nat.reduceAdd, mo_b_s e]
theorem wp_pos {E : SE} {s : List Int} : ∀ k : Nat, 1 ≤ k → wpN E s (-1) k ≠ -1 := by
  intro k
  induction k with
  | zero => intro h; omega
  | succ k ih =>
    intro _
    show br _ _ _ ≠ _
    by_cases z : (k : Int) ≠ -1 ∧ (wpN E s (-1) k = -1 ∨ lw E s (wpN E s (-1) k) < lw E s (k : Int))
    · rw [bc_t z]; omega
    · rw [bc_f z]
      intro y
      exact z ⟨by omega, Or.inl y⟩
noncomputable def woA (E : SE) (b : BS) (w : Int) : Int := match b with
  | none => -1
  | some (_, _, s) => if w = 0 then wpN E s (-1) E.1 else lw E s (wpN E s (-1) E.1)
theorem c_worst (n bd w : Int) (hn : am_r n) (hb : am_r bd) (hw : am_r w) (s : SG) (ho : OKS s) : CJ (fun x => X6_worst x n bd w) (fun m => X7_worst m n bd w) s := by
  obtain ⟨D, V, Q, d⟩ := s
  obtain ⟨⟨hD1, hD2⟩, oV, oQ, od⟩ := id ho
  dsimp only at hD1 hD2 oV oQ od
  have oV1 := oV.1
  have hw2 := hw
  unfold am_r at hw
  have K0 : ∀ x h, KI h x (D, V, Q, d) → ah_T h x = 16 ∧ ah_F h x 13 = (d : Int) ∧ X6_isStore x n bd h = some (br (isA V n bd) 1 0, h) := by
    intro x h hK
    obtain ⟨-, -, -, A, B, hB⟩ := id hK
    exact ⟨hB.1.1, hB.2.1.2.2, q6_isStore hB.1.1 hB.2.1.1 oV1 hn hb⟩
  have M0 : ∀ m h, MI h m (D, V, Q, d) → ah_T h m = 17 ∧ ah_F h m 15 = (d : Int) ∧ X7_isAsk m n bd h = some (br (isA V n bd) 1 0, h) := fun m h hM => ⟨hM.1.1, hM.2.2.2.2, q7_isAsk hM.1.1 hM.2.2.1.1 oV1 hn hb⟩
  have W1 : ∀ h : AH, X7_within w 0 1 h = some (br (0 ≤ w ∧ w ≤ 1) 1 0, h) := fun h => q7_within hw2 (by unfold am_r; omega) (by unfold am_r; omega)
  by_cases cA : isA V n bd
  · by_cases cw : 0 ≤ w ∧ w ≤ 1
    · by_cases cd : d < 30
      · obtain ⟨k, rfl⟩ := Int.eq_ofNat_of_zero_le (show 0 ≤ n by have := cA.1; omega)
        have hk1 : 1 ≤ k ∧ k ≤ 6 ∧ k ≤ V.length := by have := cA.1; omega
        have ok := stE_ok (bd := bd) oV hk1 cA.2
        obtain ⟨b, hoB, K1, M1⟩ := st_both ho hk1 cA.2 cd
        have hE1 : (stE V k bd).1 = k := rfl
        refine ⟨woA (stE V k bd) b w, (D, V, Q, d + 1), ⟨⟨hD1, hD2⟩, oV, oQ, by dsimp only; omega⟩, ?_, ?_⟩
        · intro x h hK
          obtain ⟨tx, f13, e0⟩ := K0 x h hK
          rw [bc_t cA] at e0
          obtain ⟨h1, e1, q1, q2, q3, tx1, p12⟩ := K1 x h hK
          have tl := q2.1.1
          refine ⟨h1, ?_, q1⟩
          match b, q3, hoB with
          | none, q3, _ =>
            have q3 : ah_F h1 (x + 30) 9 = 0 := q3
            have r0 := (q2_none tl q3).1 (-1)
            show X6_worst x (k : Int) bd w h = some (-1, h1)
            by_cases c0 : w = 0
            · simp (disch := omega) only [X6_worst, rr_p, rr_bp, rr_bb, rr_0, rr_lt, rr_blt, rr_le, rr_ble, rr_eq, rr_beq, rr_nl_n, rr_nl_s, rr_bnl_n, rr_bnl_s, rr_cond_t, rr_cond_f, rr_bcond_t, rr_bcond_f, rr_bon, rr_bcv, rr_cv, rr_g, rr_gr, rr_si, rr_sz, rr_sr, rr_al, rr_ld, rr_st, rr_rl, rr_rs, rr_ni, rr_nr, rr_z, rr_div, rr_rem, rr_lc, rr_mx, rr_mn, rr_ab, rr_no, gd_t, bc_t, bc_f, gd_tt, bc_tt, bc_ff, or_true, true_or, and_true, true_and, Nat.reduceAdd, mo_b_s e0, f13, mo_b_s e1, p12, mo_b_s r0]
            · simp (disch := omega) only [X6_worst, rr_p, rr_bp, rr_bb, rr_0, rr_lt, rr_blt, rr_le, rr_ble, rr_eq, rr_beq, rr_nl_n, rr_nl_s, rr_bnl_n, rr_bnl_s, rr_cond_t, rr_cond_f, rr_bcond_t, rr_bcond_f, rr_bon, rr_bcv, rr_cv, rr_g, rr_gr, rr_si, rr_sz, rr_sr, rr_al, rr_ld, rr_st, rr_rl, rr_rs, rr_ni, rr_nr, rr_z, rr_div, rr_rem, rr_lc, rr_mx, rr_mn, rr_ab, rr_no, gd_t, bc_t, bc_f, gd_tt, bc_tt, bc_ff, or_true, true_or, and_true, true_and, Nat.reduceAdd, mo_b_s e0, f13, mo_b_s e1, p12, mo_b_s r0]
          | some (r, z, s), q3, hoB =>
            obtain ⟨hfs, hsR, -, -⟩ := hoB r z s rfl
            have hF := kFd_of q2 q3 hsR
            have r0 := q2_worstPiece hF ok (c := -1) (by omega)
            have wr := @wpN_r (stE V k bd) s (-1) (stE V k bd).1
            have wp := @wp_pos (stE V k bd) s (stE V k bd).1 (by rw [hE1]; omega)
            have r1 := q2_lostWith hF ok (p := wpN (stE V k bd) s (-1) (stE V k bd).1) (by omega)
            show X6_worst x (k : Int) bd w h = some (if w = 0 then wpN (stE V k bd) s (-1) (stE V k bd).1 else lw (stE V k bd) s (wpN (stE V k bd) s (-1) (stE V k bd).1), h1)
            have hk7 : ((stE V k bd).1 : Int) ≤ 6 := by rw [hE1]; omega
            by_cases c0 : w = 0
            · rw [if_pos c0]
              simp (disch := omega) only [X6_worst, rr_p, rr_bp, rr_bb, rr_0, rr_lt, rr_blt, rr_le, rr_ble, rr_eq, rr_beq, rr_nl_n, rr_nl_s, rr_bnl_n, rr_bnl_s, rr_cond_t, rr_cond_f, rr_bcond_t, rr_bcond_f, rr_bon, rr_bcv, rr_cv, rr_g, rr_gr, rr_si, rr_sz, rr_sr, rr_al, rr_ld, rr_st, rr_rl, rr_rs, rr_ni, rr_nr, rr_z, rr_div, rr_rem, rr_lc, rr_mx, rr_mn, rr_ab, rr_no, gd_t, bc_t, bc_f, gd_tt, bc_tt, bc_ff, or_true, true_or, and_true, true_and, Nat.reduceAdd, mo_b_s e0, f13, mo_b_s e1, p12, mo_b_s r0]
            · rw [if_neg c0]
              simp (disch := omega) only [X6_worst, rr_p, rr_bp, rr_bb, rr_0, rr_lt, rr_blt, rr_le, rr_ble, rr_eq, rr_beq, rr_nl_n, rr_nl_s, rr_bnl_n, rr_bnl_s, rr_cond_t, rr_cond_f, rr_bcond_t, rr_bcond_f, rr_bon, rr_bcv, rr_cv, rr_g, rr_gr, rr_si, rr_sz, rr_sr, rr_al, rr_ld, rr_st, rr_rl, rr_rs, rr_ni, rr_nr, rr_z, rr_div, rr_rem, rr_lc, rr_mx, rr_mn, rr_ab, rr_no, gd_t, bc_t, bc_f, gd_tt, bc_tt, bc_ff, or_true, true_or, and_true, true_and, Nat.reduceAdd, mo_b_s e0, f13, mo_b_s e1, p12, mo_b_s r0, mo_b_s r1]
        · intro m h hM
          obtain ⟨mT, f15, e0⟩ := M0 m h hM
          rw [bc_t cA] at e0
          obtain ⟨h1, e1, q1, q2, q3, mTs⟩ := M1 m h hM
          have mT1 := q1.1.1
          have w1 := W1 h
          rw [bc_t cw] at w1
          refine ⟨h1, ?_, q1⟩
          match b, q3, hoB with
          | none, q3, _ =>
            have q3 : ah_F h1 m 41 = 0 := q3
            show X7_worst m (k : Int) bd w h = some (-1, h1)
            simp (disch := omega) only [X7_worst, rr_p, rr_bp, rr_bb, rr_0, rr_lt, rr_blt, rr_le, rr_ble, rr_eq, rr_beq, rr_nl_n, rr_nl_s, rr_bnl_n, rr_bnl_s, rr_cond_t, rr_cond_f, rr_bcond_t, rr_bcond_f, rr_bon, rr_bcv, rr_cv, rr_g, rr_gr, rr_si, rr_sz, rr_sr, rr_al, rr_ld, rr_st, rr_rl, rr_rs, rr_ni, rr_nr, rr_z, rr_div, rr_rem, rr_lc, rr_mx, rr_mn, rr_ab, rr_no, gd_t, bc_t, bc_f, gd_tt, bc_tt, bc_ff, or_true, true_or, and_true, true_and, Nat.reduceAdd, mo_b_s e0, mo_b_s w1, f15, mo_b_s e1, q3]
          | some (r, z, s), q3, hoB =>
            obtain ⟨hfs, hsR, -, -⟩ := hoB r z s rfl
            have hF := mFd_of q2 q3 hsR hfs.1
            have f41 := hF.2.1
            have r0 := q7_worstPiece hF ok (c := -1) (by omega)
            have wr := @wpN_r (stE V k bd) s (-1) (stE V k bd).1
            have wp := @wp_pos (stE V k bd) s (stE V k bd).1 (by rw [hE1]; omega)
            have r1 := q7_lostBy hF ok (p := wpN (stE V k bd) s (-1) (stE V k bd).1) (by omega)
            have r0 : X7_worstPiece m (k : Int) (-1) h1 = some (wpN (stE V k bd) s (-1) (stE V k bd).1, h1) := r0
            have r1 : X7_lostBy m (wpN (stE V k bd) s (-1) (stE V k bd).1) (k : Int) h1 = some (lw (stE V k bd) s (wpN (stE V k bd) s (-1) (stE V k bd).1), h1) := r1
            show X7_worst m (k : Int) bd w h = some (if w = 0 then wpN (stE V k bd) s (-1) (stE V k bd).1 else lw (stE V k bd) s (wpN (stE V k bd) s (-1) (stE V k bd).1), h1)
            by_cases c0 : w = 0
            · rw [if_pos c0]
              simp (disch := omega) only [X7_worst, rr_p, rr_bp, rr_bb, rr_0, rr_lt, rr_blt, rr_le, rr_ble, rr_eq, rr_beq, rr_nl_n, rr_nl_s, rr_bnl_n, rr_bnl_s, rr_cond_t, rr_cond_f, rr_bcond_t, rr_bcond_f, rr_bon, rr_bcv, rr_cv, rr_g, rr_gr, rr_si, rr_sz, rr_sr, rr_al, rr_ld, rr_st, rr_rl, rr_rs, rr_ni, rr_nr, rr_z, rr_div, rr_rem, rr_lc, rr_mx, rr_mn, rr_ab, rr_no, gd_t, bc_t, bc_f, gd_tt, bc_tt, bc_ff, or_true, true_or, and_true, true_and, Nat.reduceAdd, mo_b_s e0, mo_b_s w1, f15, mo_b_s e1, f41, mo_b_s r0]
            · rw [if_neg c0]
              simp (disch := omega) only [X7_worst, rr_p, rr_bp, rr_bb, rr_0, rr_lt, rr_blt, rr_le, rr_ble, rr_eq, rr_beq, rr_nl_n, rr_nl_s, rr_bnl_n, rr_bnl_s, rr_cond_t, rr_cond_f, rr_bcond_t, rr_bcond_f, rr_bon, rr_bcv, rr_cv, rr_g, rr_gr, rr_si, rr_sz, rr_sr, rr_al, rr_ld, rr_st, rr_rl, rr_rs, rr_ni, rr_nr, rr_z, rr_div, rr_rem, rr_lc, rr_mx, rr_mn, rr_ab, rr_no, gd_t, bc_t, bc_f, gd_tt, bc_tt, bc_ff, or_true, true_or, and_true, true_and, Nat.reduceAdd, mo_b_s e0, mo_b_s w1, f15, mo_b_s e1, f41, mo_b_s r0, mo_b_s r1]
      · refine CJ.same (-103) ho ?_ ?_
        · intro x h hK
          obtain ⟨tx, f13, e0⟩ := K0 x h hK
          rw [bc_t cA] at e0
          simp (disch := omega) only [X6_worst, rr_p, rr_bp, rr_bb, rr_0, rr_lt, rr_blt, rr_le, rr_ble, rr_eq, rr_beq, rr_nl_n, rr_nl_s, rr_bnl_n, rr_bnl_s, rr_cond_t, rr_cond_f, rr_bcond_t, rr_bcond_f, rr_bon, rr_bcv, rr_cv, rr_g, rr_gr, rr_si, rr_sz, rr_sr, rr_al, rr_ld, rr_st, rr_rl, rr_rs, rr_ni, rr_nr, rr_z, rr_div, rr_rem, rr_lc, rr_mx, rr_mn, rr_ab, rr_no, gd_t, bc_t, bc_f, gd_tt, bc_tt, bc_ff, or_true, true_or, and_true, true_and, Nat.reduceAdd, mo_b_s e0, f13]
        · intro m h hM
          obtain ⟨mT, f15, e0⟩ := M0 m h hM
          rw [bc_t cA] at e0
          have w1 := W1 h
          rw [bc_t cw] at w1
          simp (disch := omega) only [X7_worst, rr_p, rr_bp, rr_bb, rr_0, rr_lt, rr_blt, rr_le, rr_ble, rr_eq, rr_beq, rr_nl_n, rr_nl_s, rr_bnl_n, rr_bnl_s, rr_cond_t, rr_cond_f, rr_bcond_t, rr_bcond_f, rr_bon, rr_bcv, rr_cv, rr_g, rr_gr, rr_si, rr_sz, rr_sr, rr_al, rr_ld, rr_st, rr_rl, rr_rs, rr_ni, rr_nr, rr_z, rr_div, rr_rem, rr_lc, rr_mx, rr_mn, rr_ab, rr_no, gd_t, bc_t, bc_f, gd_tt, bc_tt, bc_ff, or_true, true_or, and_true, true_and, Nat.reduceAdd, mo_b_s e0, mo_b_s w1, f15]
    · refine CJ.same (-102) ho ?_ ?_
      · intro x h hK
        obtain ⟨tx, f13, e0⟩ := K0 x h hK
        rw [bc_t cA] at e0
        by_cases c2 : w < 0
        · simp (disch := omega) only [X6_worst, rr_p, rr_bp, rr_bb, rr_0, rr_lt, rr_blt, rr_le, rr_ble, rr_eq, rr_beq, rr_nl_n, rr_nl_s, rr_bnl_n, rr_bnl_s, rr_cond_t, rr_cond_f, rr_bcond_t, rr_bcond_f, rr_bon, rr_bcv, rr_cv, rr_g, rr_gr, rr_si, rr_sz, rr_sr, rr_al, rr_ld, rr_st, rr_rl, rr_rs, rr_ni, rr_nr, rr_z, rr_div, rr_rem, rr_lc, rr_mx, rr_mn, rr_ab, rr_no, gd_t, bc_t, bc_f, gd_tt, bc_tt, bc_ff, or_true, true_or, and_true, true_and, Nat.reduceAdd, mo_b_s e0]
        · simp (disch := omega) only [X6_worst, rr_p, rr_bp, rr_bb, rr_0, rr_lt, rr_blt, rr_le, rr_ble, rr_eq, rr_beq, rr_nl_n, rr_nl_s, rr_bnl_n, rr_bnl_s, rr_cond_t, rr_cond_f, rr_bcond_t, rr_bcond_f, rr_bon, rr_bcv, rr_cv, rr_g, rr_gr, rr_si, rr_sz, rr_sr, rr_al, rr_ld, rr_st, rr_rl, rr_rs, rr_ni, rr_nr, rr_z, rr_div, rr_rem, rr_lc, rr_mx, rr_mn, rr_ab, rr_no, gd_t, bc_t, bc_f, gd_tt, bc_tt, bc_ff, or_true, true_or, and_true, true_and, Nat.reduceAdd, mo_b_s e0]
      · intro m h hM
        obtain ⟨mT, f15, e0⟩ := M0 m h hM
        rw [bc_t cA] at e0
        have w1 := W1 h
        rw [bc_f cw] at w1
        simp (disch := omega) only [X7_worst, rr_p, rr_bp, rr_bb, rr_0, rr_lt, rr_blt, rr_le, rr_ble, rr_eq, rr_beq, rr_nl_n, rr_nl_s, rr_bnl_n, rr_bnl_s, rr_cond_t, rr_cond_f, rr_bcond_t, rr_bcond_f, rr_bon, rr_bcv, rr_cv, rr_g, rr_gr, rr_si, rr_sz, rr_sr, rr_al, rr_ld, rr_st, rr_rl, rr_rs, rr_ni, rr_nr, rr_z, rr_div, rr_rem, rr_lc, rr_mx, rr_mn, rr_ab, rr_no, gd_t, bc_t, bc_f, gd_tt, bc_tt, bc_ff, or_true, true_or, and_true, true_and, Nat.reduceAdd, mo_b_s e0, mo_b_s w1]
  · refine CJ.same (-102) ho ?_ ?_
    · intro x h hK
      obtain ⟨tx, f13, e0⟩ := K0 x h hK
      rw [bc_f cA] at e0
      simp (disch := omega) only [X6_worst, rr_p, rr_bp, rr_bb, rr_0, rr_lt, rr_blt, rr_le, rr_ble, rr_eq, rr_beq, rr_nl_n, rr_nl_s, rr_bnl_n, rr_bnl_s, rr_cond_t, rr_cond_f, rr_bcond_t, rr_bcond_f, rr_bon, rr_bcv, rr_cv, rr_g, rr_gr, rr_si, rr_sz, rr_sr, rr_al, rr_ld, rr_st, rr_rl, rr_rs, rr_ni, rr_nr, rr_z, rr_div, rr_rem, rr_lc, rr_mx, rr_mn, rr_ab, rr_no, gd_t, bc_t, bc_f, gd_tt, bc_tt, bc_ff, or_true, true_or, and_true, true_and, Nat.reduceAdd, mo_b_s e0]
    · intro m h hM
      obtain ⟨mT, f15, e0⟩ := M0 m h hM
      rw [bc_f cA] at e0
      simp (disch := omega) only [X7_worst, rr_p, rr_bp, rr_bb, rr_0, rr_lt, rr_blt, rr_le, rr_ble, rr_eq, rr_beq, rr_nl_n, rr_nl_s, rr_bnl_n, rr_bnl_s, rr_cond_t, rr_cond_f, rr_bcond_t, rr_bcond_f, rr_bon, rr_bcv, rr_cv, rr_g, rr_gr, rr_si, rr_sz, rr_sr, rr_al, rr_ld, rr_st, rr_rl, rr_rs, rr_ni, rr_nr, rr_z, rr_div, rr_rem, rr_lc, rr_mx, rr_mn, rr_ab, rr_no, gd_t, bc_t, bc_f, gd_tt, bc_tt, bc_ff, or_true, true_or, and_true, true_and, Nat.reduceAdd, mo_b_s e0]
noncomputable def saA (E : SE) (b : BS) (r w : Int) : Int := match b with
  | none => -1
  | some (_, _, s) => br (bcN E s r E.1 = -1) (-1) (if w = 0 then bcN E s r E.1 else wl E s (bcN E s r E.1))
theorem c_saved (n bd r w : Int) (hn : am_r n) (hb : am_r bd) (hr : am_r r) (hw : am_r w) (s : SG) (ho : OKS s) : CJ (fun x => X6_saved x n bd r w) (fun m => X7_saved m n bd r w) s := by
  obtain ⟨D, V, Q, d⟩ := s
  obtain ⟨⟨hD1, hD2⟩, oV, oQ, od⟩ := id ho
  dsimp only at hD1 hD2 oV oQ od
  have oV1 := oV.1
  have hw2 := hw
  have hr2 := hr
  unfold am_r at hw hr
  have K0 : ∀ x h, KI h x (D, V, Q, d) → ah_T h x = 16 ∧ ah_F h x 13 = (d : Int) ∧ X6_isStore x n bd h = some (br (isA V n bd) 1 0, h) := by
    intro x h hK
    obtain ⟨-, -, -, A, B, hB⟩ := id hK
    exact ⟨hB.1.1, hB.2.1.2.2, q6_isStore hB.1.1 hB.2.1.1 oV1 hn hb⟩
  have M0 : ∀ m h, MI h m (D, V, Q, d) → ah_T h m = 17 ∧ ah_F h m 15 = (d : Int) ∧ X7_isAsk m n bd h = some (br (isA V n bd) 1 0, h) := fun m h hM => ⟨hM.1.1, hM.2.2.2.2, q7_isAsk hM.1.1 hM.2.2.1.1 oV1 hn hb⟩
  have W1 : ∀ h : AH, X7_within r 0 99 h = some (br (0 ≤ r ∧ r ≤ 99) 1 0, h) := fun h => q7_within hr2 (by unfold am_r; omega) (by unfold am_r; omega)
  have W2 : ∀ h : AH, X7_within w 0 1 h = some (br (0 ≤ w ∧ w ≤ 1) 1 0, h) := fun h => q7_within hw2 (by unfold am_r; omega) (by unfold am_r; omega)
  by_cases cA : isA V n bd
  · by_cases cr : 0 ≤ r ∧ r ≤ 99
    · by_cases cw : 0 ≤ w ∧ w ≤ 1
      · by_cases cd : d < 30
        · obtain ⟨k, rfl⟩ := Int.eq_ofNat_of_zero_le (show 0 ≤ n by have := cA.1; omega)
          have hk1 : 1 ≤ k ∧ k ≤ 6 ∧ k ≤ V.length := by have := cA.1; omega
          have ok := stE_ok (bd := bd) oV hk1 cA.2
          obtain ⟨b, hoB, K1, M1⟩ := st_both ho hk1 cA.2 cd
          have hE1 : (stE V k bd).1 = k := rfl
          refine ⟨saA (stE V k bd) b r w, (D, V, Q, d + 1), ⟨⟨hD1, hD2⟩, oV, oQ, by dsimp only; omega⟩, ?_, ?_⟩
          · intro x h hK
            obtain ⟨tx, f13, e0⟩ := K0 x h hK
            rw [bc_t cA] at e0
            obtain ⟨h1, e1, q1, q2, q3, tx1, p12⟩ := K1 x h hK
            have tl := q2.1.1
            refine ⟨h1, ?_, q1⟩
            match b, q3, hoB with
            | none, q3, _ =>
              have q3 : ah_F h1 (x + 30) 9 = 0 := q3
              have r0 := (q2_none tl q3).2 r
              show X6_saved x (k : Int) bd r w h = some (-1, h1)
              by_cases c0 : w = 0
              · simp (disch := omega) only [X6_saved, rr_p, rr_bp, rr_bb, rr_0, rr_lt, rr_blt, rr_le, rr_ble, rr_eq, rr_beq, rr_nl_n, rr_nl_s, rr_bnl_n, rr_bnl_s, rr_cond_t, rr_cond_f, rr_bcond_t, rr_bcond_f, rr_bon, rr_bcv, rr_cv, rr_g, rr_gr, rr_si, rr_sz, rr_sr, rr_al, rr_ld, rr_st, rr_rl, rr_rs, rr_ni, rr_nr, rr_z, rr_div, rr_rem, rr_lc, rr_mx, rr_mn, rr_ab, rr_no, gd_t, bc_t, bc_f, gd_tt, bc_tt, bc_ff, or_true, true_or, and_true, true_and, Nat.reduceAdd, mo_b_s e0, f13, mo_b_s e1, p12, mo_b_s r0]
              · simp (disch := omega) only [X6_saved, rr_p, rr_bp, rr_bb, rr_0, rr_lt, rr_blt, rr_le, rr_ble, rr_eq, rr_beq, rr_nl_n, rr_nl_s, rr_bnl_n, rr_bnl_s, rr_cond_t, rr_cond_f, rr_bcond_t, rr_bcond_f, rr_bon, rr_bcv, rr_cv, rr_g, rr_gr, rr_si, rr_sz, rr_sr, rr_al, rr_ld, rr_st, rr_rl, rr_rs, rr_ni, rr_nr, rr_z, rr_div, rr_rem, rr_lc, rr_mx, rr_mn, rr_ab, rr_no, gd_t, bc_t, bc_f, gd_tt, bc_tt, bc_ff, or_true, true_or, and_true, true_and, Nat.reduceAdd, mo_b_s e0, f13, mo_b_s e1, p12, mo_b_s r0]
            | some (r', z, s), q3, hoB =>
              obtain ⟨hfs, hsR, -, -⟩ := hoB r' z s rfl
              have hF := kFd_of q2 q3 hsR
              have r0 := q2_bestCopy hF ok cr
              have wr := @bcN_r (stE V k bd) s r (stE V k bd).1
              show X6_saved x (k : Int) bd r w h = some (br (bcN (stE V k bd) s r (stE V k bd).1 = -1) (-1) (if w = 0 then bcN (stE V k bd) s r (stE V k bd).1 else wl (stE V k bd) s (bcN (stE V k bd) s r (stE V k bd).1)), h1)
              have hk7 : ((stE V k bd).1 : Int) ≤ 6 := by rw [hE1]; omega
              by_cases cn : bcN (stE V k bd) s r (stE V k bd).1 = -1
              · rw [bc_t cn]
                rw [cn] at r0
                by_cases c0 : w = 0
                · simp (disch := omega) only [X6_saved, rr_p, rr_bp, rr_bb, rr_0, rr_lt, rr_blt, rr_le, rr_ble, rr_eq, rr_beq, rr_nl_n, rr_nl_s, rr_bnl_n, rr_bnl_s, rr_cond_t, rr_cond_f, rr_bcond_t, rr_bcond_f, rr_bon, rr_bcv, rr_cv, rr_g, rr_gr, rr_si, rr_sz, rr_sr, rr_al, rr_ld, rr_st, rr_rl, rr_rs, rr_ni, rr_nr, rr_z, rr_div, rr_rem, rr_lc, rr_mx, rr_mn, rr_ab, rr_no, gd_t, bc_t, bc_f, gd_tt, bc_tt, bc_ff, or_true, true_or, and_true, true_and, Nat.reduceAdd, mo_b_s e0, f13, mo_b_s e1, p12, mo_b_s r0]
                · simp (disch := omega) only [X6_saved, rr_p, rr_bp, rr_bb, rr_0, rr_lt, rr_blt, rr_le, rr_ble, rr_eq, rr_beq, rr_nl_n, rr_nl_s, rr_bnl_n, rr_bnl_s, rr_cond_t, rr_cond_f, rr_bcond_t, rr_bcond_f, rr_bon, rr_bcv, rr_cv, rr_g, rr_gr, rr_si, rr_sz, rr_sr, rr_al, rr_ld, rr_st, rr_rl, rr_rs, rr_ni, rr_nr, rr_z, rr_div, rr_rem, rr_lc, rr_mx, rr_mn, rr_ab, rr_no, gd_t, bc_t, bc_f, gd_tt, bc_tt, bc_ff, or_true, true_or, and_true, true_and, Nat.reduceAdd, mo_b_s e0, f13, mo_b_s e1, p12, mo_b_s r0]
              · rw [bc_f cn]
                have r1 := q2_worstLossBut hF ok (c := bcN (stE V k bd) s r (stE V k bd).1) (by omega)
                by_cases c0 : w = 0
                · rw [if_pos c0]
                  simp (disch := omega) only [X6_saved, rr_p, rr_bp, rr_bb, rr_0, rr_lt, rr_blt, rr_le, rr_ble, rr_eq, rr_beq, rr_nl_n, rr_nl_s, rr_bnl_n, rr_bnl_s, rr_cond_t, rr_cond_f, rr_bcond_t, rr_bcond_f, rr_bon, rr_bcv, rr_cv, rr_g, rr_gr, rr_si, rr_sz, rr_sr, rr_al, rr_ld, rr_st, rr_rl, rr_rs, rr_ni, rr_nr, rr_z, rr_div, rr_rem, rr_lc, rr_mx, rr_mn, rr_ab, rr_no, gd_t, bc_t, bc_f, gd_tt, bc_tt, bc_ff, or_true, true_or, and_true, true_and, Nat.reduceAdd, mo_b_s e0, f13, mo_b_s e1, p12, mo_b_s r0]
                · rw [if_neg c0]
                  simp (disch := omega) only [X6_saved, rr_p, rr_bp, rr_bb, rr_0, rr_lt, rr_blt, rr_le, rr_ble, rr_eq, rr_beq, rr_nl_n, rr_nl_s, rr_bnl_n, rr_bnl_s, rr_cond_t, rr_cond_f, rr_bcond_t, rr_bcond_f, rr_bon, rr_bcv, rr_cv, rr_g, rr_gr, rr_si, rr_sz, rr_sr, rr_al, rr_ld, rr_st, rr_rl, rr_rs, rr_ni, rr_nr, rr_z, rr_div, rr_rem, rr_lc, rr_mx, rr_mn, rr_ab, rr_no, gd_t, bc_t, bc_f, gd_tt, bc_tt, bc_ff, or_true, true_or, and_true, true_and, Nat.reduceAdd, mo_b_s e0, f13, mo_b_s e1, p12, mo_b_s r0, mo_b_s r1]
          · intro m h hM
            obtain ⟨mT, f15, e0⟩ := M0 m h hM
            rw [bc_t cA] at e0
            obtain ⟨h1, e1, q1, q2, q3, mTs⟩ := M1 m h hM
            have mT1 := q1.1.1
            have w1 := W1 h
            rw [bc_t cr] at w1
            have w2 := W2 h
            rw [bc_t cw] at w2
            refine ⟨h1, ?_, q1⟩
            match b, q3, hoB with
            | none, q3, _ =>
              have q3 : ah_F h1 m 41 = 0 := q3
              have r0 : mo_lp mo_N (X7_saved_L66 m (k : Int) r) (-1, 0) h1 = some (-1, h1) := lp_r (by simp (disch := omega) only [X7_saved_L66, rr_p, rr_bp, rr_bb, rr_0, rr_lt, rr_blt, rr_le, rr_ble, rr_eq, rr_beq, rr_nl_n, rr_nl_s, rr_bnl_n, rr_bnl_s, rr_cond_t, rr_cond_f, rr_bcond_t, rr_bcond_f, rr_bon, rr_bcv, rr_cv, rr_g, rr_gr, rr_si, rr_sz, rr_sr, rr_al, rr_ld, rr_st, rr_rl, rr_rs, rr_ni, rr_nr, rr_z, rr_div, rr_rem, rr_lc, rr_mx, rr_mn, rr_ab, rr_no, gd_t, bc_t, bc_f, gd_tt, bc_tt, bc_ff, or_true, true_or, and_true, true_and, Nat.reduceAdd, q3]) (by rw [mo_N_v]; omega)
              show X7_saved m (k : Int) bd r w h = some (-1, h1)
              simp (disch := omega) only [X7_saved, rr_p, rr_bp, rr_bb, rr_0, rr_lt, rr_blt, rr_le, rr_ble, rr_eq, rr_beq, rr_nl_n, rr_nl_s, rr_bnl_n, rr_bnl_s, rr_cond_t, rr_cond_f, rr_bcond_t, rr_bcond_f, rr_bon, rr_bcv, rr_cv, rr_g, rr_gr, rr_si, rr_sz, rr_sr, rr_al, rr_ld, rr_st, rr_rl, rr_rs, rr_ni, rr_nr, rr_z, rr_div, rr_rem, rr_lc, rr_mx, rr_mn, rr_ab, rr_no, gd_t, bc_t, bc_f, gd_tt, bc_tt, bc_ff, or_true, true_or, and_true, true_and, Nat.reduceAdd, mo_b_s e0, mo_b_s w1, mo_b_s w2, f15, mo_b_s e1, mo_b_s r0]
            | some (r', z, s), q3, hoB =>
              obtain ⟨hfs, hsR, -, -⟩ := hoB r' z s rfl
              have hF := mFd_of q2 q3 hsR hfs.1
              have r0 : mo_lp mo_N (X7_saved_L66 m (k : Int) r) (-1, 0) h1 = some (bcN (stE V k bd) s r (stE V k bd).1, h1) := q7_savedLoop hF ok cr
              have wr := @bcN_r (stE V k bd) s r (stE V k bd).1
              show X7_saved m (k : Int) bd r w h = some (br (bcN (stE V k bd) s r (stE V k bd).1 = -1) (-1) (if w = 0 then bcN (stE V k bd) s r (stE V k bd).1 else wl (stE V k bd) s (bcN (stE V k bd) s r (stE V k bd).1)), h1)
              have hk7 : ((stE V k bd).1 : Int) ≤ 6 := by rw [hE1]; omega
              by_cases cn : bcN (stE V k bd) s r (stE V k bd).1 = -1
              · rw [bc_t cn]
                rw [cn] at r0
                simp (disch := omega) only [X7_saved, rr_p, rr_bp, rr_bb, rr_0, rr_lt, rr_blt, rr_le, rr_ble, rr_eq, rr_beq, rr_nl_n, rr_nl_s, rr_bnl_n, rr_bnl_s, rr_cond_t, rr_cond_f, rr_bcond_t, rr_bcond_f, rr_bon, rr_bcv, rr_cv, rr_g, rr_gr, rr_si, rr_sz, rr_sr, rr_al, rr_ld, rr_st, rr_rl, rr_rs, rr_ni, rr_nr, rr_z, rr_div, rr_rem, rr_lc, rr_mx, rr_mn, rr_ab, rr_no, gd_t, bc_t, bc_f, gd_tt, bc_tt, bc_ff, or_true, true_or, and_true, true_and, Nat.reduceAdd, mo_b_s e0, mo_b_s w1, mo_b_s w2, f15, mo_b_s e1, mo_b_s r0]
              · rw [bc_f cn]
                have r1 : X7_worstThen m (k : Int) (bcN (stE V k bd) s r (stE V k bd).1) h1 = some (wl (stE V k bd) s (bcN (stE V k bd) s r (stE V k bd).1), h1) := q7_worstThen hF ok (c := bcN (stE V k bd) s r (stE V k bd).1) (by omega)
                by_cases c0 : w = 0
                · rw [if_pos c0]
                  simp (disch := omega) only [X7_saved, rr_p, rr_bp, rr_bb, rr_0, rr_lt, rr_blt, rr_le, rr_ble, rr_eq, rr_beq, rr_nl_n, rr_nl_s, rr_bnl_n, rr_bnl_s, rr_cond_t, rr_cond_f, rr_bcond_t, rr_bcond_f, rr_bon, rr_bcv, rr_cv, rr_g, rr_gr, rr_si, rr_sz, rr_sr, rr_al, rr_ld, rr_st, rr_rl, rr_rs, rr_ni, rr_nr, rr_z, rr_div, rr_rem, rr_lc, rr_mx, rr_mn, rr_ab, rr_no, gd_t, bc_t, bc_f, gd_tt, bc_tt, bc_ff, or_true, true_or, and_true, true_and, Nat.reduceAdd, mo_b_s e0, mo_b_s w1, mo_b_s w2, f15, mo_b_s e1, mo_b_s r0]
                · rw [if_neg c0]
                  simp (disch := omega) only [X7_saved, rr_p, rr_bp, rr_bb, rr_0, rr_lt, rr_blt, rr_le, rr_ble, rr_eq, rr_beq, rr_nl_n, rr_nl_s, rr_bnl_n, rr_bnl_s, rr_cond_t, rr_cond_f, rr_bcond_t, rr_bcond_f, rr_bon, rr_bcv, rr_cv, rr_g, rr_gr, rr_si, rr_sz, rr_sr, rr_al, rr_ld, rr_st, rr_rl, rr_rs, rr_ni, rr_nr, rr_z, rr_div, rr_rem, rr_lc, rr_mx, rr_mn, rr_ab, rr_no, gd_t, bc_t, bc_f, gd_tt, bc_tt, bc_ff, or_true, true_or, and_true, true_and, Nat.reduceAdd, mo_b_s e0, mo_b_s w1, mo_b_s w2, f15, mo_b_s e1, mo_b_s r0, mo_b_s r1]
        · refine CJ.same (-103) ho ?_ ?_
          · intro x h hK
            obtain ⟨tx, f13, e0⟩ := K0 x h hK
            rw [bc_t cA] at e0
            simp (disch := omega) only [X6_saved, rr_p, rr_bp, rr_bb, rr_0, rr_lt, rr_blt, rr_le, rr_ble, rr_eq, rr_beq, rr_nl_n, rr_nl_s, rr_bnl_n, rr_bnl_s, rr_cond_t, rr_cond_f, rr_bcond_t, rr_bcond_f, rr_bon, rr_bcv, rr_cv, rr_g, rr_gr, rr_si, rr_sz, rr_sr, rr_al, rr_ld, rr_st, rr_rl, rr_rs, rr_ni, rr_nr, rr_z, rr_div, rr_rem, rr_lc, rr_mx, rr_mn, rr_ab, rr_no, gd_t, bc_t, bc_f, gd_tt, bc_tt, bc_ff, or_true, true_or, and_true, true_and, Nat.reduceAdd, mo_b_s e0, f13]
          · intro m h hM
            obtain ⟨mT, f15, e0⟩ := M0 m h hM
            rw [bc_t cA] at e0
            have w1 := W1 h
            rw [bc_t cr] at w1
            have w2 := W2 h
            rw [bc_t cw] at w2
            simp (disch := omega) only [X7_saved, rr_p, rr_bp, rr_bb, rr_0, rr_lt, rr_blt, rr_le, rr_ble, rr_eq, rr_beq, rr_nl_n, rr_nl_s, rr_bnl_n, rr_bnl_s, rr_cond_t, rr_cond_f, rr_bcond_t, rr_bcond_f, rr_bon, rr_bcv, rr_cv, rr_g, rr_gr, rr_si, rr_sz, rr_sr, rr_al, rr_ld, rr_st, rr_rl, rr_rs, rr_ni, rr_nr, rr_z, rr_div, rr_rem, rr_lc, rr_mx, rr_mn, rr_ab, rr_no, gd_t, bc_t, bc_f, gd_tt, bc_tt, bc_ff, or_true, true_or, and_true, true_and, Nat.reduceAdd, mo_b_s e0, mo_b_s w1, mo_b_s w2, f15]
      · refine CJ.same (-102) ho ?_ ?_
        · intro x h hK
          obtain ⟨tx, f13, e0⟩ := K0 x h hK
          rw [bc_t cA] at e0
          by_cases c2 : w < 0
          · simp (disch := omega) only [X6_saved, rr_p, rr_bp, rr_bb, rr_0, rr_lt, rr_blt, rr_le, rr_ble, rr_eq, rr_beq, rr_nl_n, rr_nl_s, rr_bnl_n, rr_bnl_s, rr_cond_t, rr_cond_f, rr_bcond_t, rr_bcond_f, rr_bon, rr_bcv, rr_cv, rr_g, rr_gr, rr_si, rr_sz, rr_sr, rr_al, rr_ld, rr_st, rr_rl, rr_rs, rr_ni, rr_nr, rr_z, rr_div, rr_rem, rr_lc, rr_mx, rr_mn, rr_ab, rr_no, gd_t, bc_t, bc_f, gd_tt, bc_tt, bc_ff, or_true, true_or, and_true, true_and, Nat.reduceAdd, mo_b_s e0]
          · simp (disch := omega) only [X6_saved, rr_p, rr_bp, rr_bb, rr_0, rr_lt, rr_blt, rr_le, rr_ble, rr_eq, rr_beq, rr_nl_n, rr_nl_s, rr_bnl_n, rr_bnl_s, rr_cond_t, rr_cond_f, rr_bcond_t, rr_bcond_f, rr_bon, rr_bcv, rr_cv, rr_g, rr_gr, rr_si, rr_sz, rr_sr, rr_al, rr_ld, rr_st, rr_rl, rr_rs, rr_ni, rr_nr, rr_z, rr_div, rr_rem, rr_lc, rr_mx, rr_mn, rr_ab, rr_no, gd_t, bc_t, bc_f, gd_tt, bc_tt, bc_ff, or_true, true_or, and_true, true_and, Nat.reduceAdd, mo_b_s e0]
        · intro m h hM
          obtain ⟨mT, f15, e0⟩ := M0 m h hM
          rw [bc_t cA] at e0
          have w1 := W1 h
          rw [bc_t cr] at w1
          have w2 := W2 h
          rw [bc_f cw] at w2
          simp (disch := omega) only [X7_saved, rr_p, rr_bp, rr_bb, rr_0, rr_lt, rr_blt, rr_le, rr_ble, rr_eq, rr_beq, rr_nl_n, rr_nl_s, rr_bnl_n, rr_bnl_s, rr_cond_t, rr_cond_f, rr_bcond_t, rr_bcond_f, rr_bon, rr_bcv, rr_cv, rr_g, rr_gr, rr_si, rr_sz, rr_sr, rr_al, rr_ld, rr_st, rr_rl, rr_rs, rr_ni, rr_nr, rr_z, rr_div, rr_rem, rr_lc, rr_mx, rr_mn, rr_ab, rr_no, gd_t, bc_t, bc_f, gd_tt, bc_tt, bc_ff, or_true, true_or, and_true, true_and, Nat.reduceAdd, mo_b_s e0, mo_b_s w1, mo_b_s w2]
    · refine CJ.same (-102) ho ?_ ?_
      · intro x h hK
        obtain ⟨tx, f13, e0⟩ := K0 x h hK
        rw [bc_t cA] at e0
        by_cases c2 : r < 0
        · simp (disch := omega) only [X6_saved, rr_p, rr_bp, rr_bb, rr_0, rr_lt, rr_blt, rr_le, rr_ble, rr_eq, rr_beq, rr_nl_n, rr_nl_s, rr_bnl_n, rr_bnl_s, rr_cond_t, rr_cond_f, rr_bcond_t, rr_bcond_f, rr_bon, rr_bcv, rr_cv, rr_g, rr_gr, rr_si, rr_sz, rr_sr, rr_al, rr_ld, rr_st, rr_rl, rr_rs, rr_ni, rr_nr, rr_z, rr_div, rr_rem, rr_lc, rr_mx, rr_mn, rr_ab, rr_no, gd_t, bc_t, bc_f, gd_tt, bc_tt, bc_ff, or_true, true_or, and_true, true_and, Nat.reduceAdd, mo_b_s e0]
        · simp (disch := omega) only [X6_saved, rr_p, rr_bp, rr_bb, rr_0, rr_lt, rr_blt, rr_le, rr_ble, rr_eq, rr_beq, rr_nl_n, rr_nl_s, rr_bnl_n, rr_bnl_s, rr_cond_t, rr_cond_f, rr_bcond_t, rr_bcond_f, rr_bon, rr_bcv, rr_cv, rr_g, rr_gr, rr_si, rr_sz, rr_sr, rr_al, rr_ld, rr_st, rr_rl, rr_rs, rr_ni, rr_nr, rr_z, rr_div, rr_rem, rr_lc, rr_mx, rr_mn, rr_ab, rr_no, gd_t, bc_t, bc_f, gd_tt, bc_tt, bc_ff, or_true, true_or, and_true, true_and, Nat.reduceAdd, mo_b_s e0]
      · intro m h hM
        obtain ⟨mT, f15, e0⟩ := M0 m h hM
        rw [bc_t cA] at e0
        have w1 := W1 h
        rw [bc_f cr] at w1
        simp (disch := omega) only [X7_saved, rr_p, rr_bp, rr_bb, rr_0, rr_lt, rr_blt, rr_le, rr_ble, rr_eq, rr_beq, rr_nl_n, rr_nl_s, rr_bnl_n, rr_bnl_s, rr_cond_t, rr_cond_f, rr_bcond_t, rr_bcond_f, rr_bon, rr_bcv, rr_cv, rr_g, rr_gr, rr_si, rr_sz, rr_sr, rr_al, rr_ld, rr_st, rr_rl, rr_rs, rr_ni, rr_nr, rr_z, rr_div, rr_rem, rr_lc, rr_mx, rr_mn, rr_ab, rr_no, gd_t, bc_t, bc_f, gd_tt, bc_tt, bc_ff, or_true, true_or, and_true, true_and, Nat.reduceAdd, mo_b_s e0, mo_b_s w1]
  · refine CJ.same (-102) ho ?_ ?_
    · intro x h hK
      obtain ⟨tx, f13, e0⟩ := K0 x h hK
      rw [bc_f cA] at e0
      simp (disch := omega) only [X6_saved, rr_p, rr_bp, rr_bb, rr_0, rr_lt, rr_blt, rr_le, rr_ble, rr_eq, rr_beq, rr_nl_n, rr_nl_s, rr_bnl_n, rr_bnl_s, rr_cond_t, rr_cond_f, rr_bcond_t, rr_bcond_f, rr_bon, rr_bcv, rr_cv, rr_g, rr_gr, rr_si, rr_sz, rr_sr, rr_al, rr_ld, rr_st, rr_rl, rr_rs, rr_ni, rr_nr, rr_z, rr_div, rr_rem, rr_lc, rr_mx, rr_mn, rr_ab, rr_no, gd_t, bc_t, bc_f, gd_tt, bc_tt, bc_ff, or_true, true_or, and_true, true_and, Nat.reduceAdd, mo_b_s e0]
    · intro m h hM
      obtain ⟨mT, f15, e0⟩ := M0 m h hM
      rw [bc_f cA] at e0
      simp (disch := omega) only [X7_saved, rr_p, rr_bp, rr_bb, rr_0, rr_lt, rr_blt, rr_le, rr_ble, rr_eq, rr_beq, rr_nl_n, rr_nl_s, rr_bnl_n, rr_bnl_s, rr_cond_t, rr_cond_f, rr_bcond_t, rr_bcond_f, rr_bon, rr_bcv, rr_cv, rr_g, rr_gr, rr_si, rr_sz, rr_sr, rr_al, rr_ld, rr_st, rr_rl, rr_rs, rr_ni, rr_nr, rr_z, rr_div, rr_rem, rr_lc, rr_mx, rr_mn, rr_ab, rr_no, gd_t, bc_t, bc_f, gd_tt, bc_tt, bc_ff, or_true, true_or, and_true, true_and, Nat.reduceAdd, mo_b_s e0]
