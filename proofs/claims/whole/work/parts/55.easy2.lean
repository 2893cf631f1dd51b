/-- a loop that copies n numbers into array a from place o on -/
theorem lp_cp {F : Int → MO (Int ⊕ Unit)} {h : AH} {a n : Nat} (o : Int) (v : Int → Int) (hn : n < 100000) (step : ∀ (k : Nat) (g : Int → Int), k < n → F (k : Int) (ah_wI h a g) = some (.inl ((k : Int) + 1), ah_wI h a (fu g (o + k) (v k)))) (ex : ∀ g : Int → Int, F (n : Int) (ah_wI h a g) = some (.inr (), ah_wI h a g)) : mo_lp mo_N F 0 h = some ((), ah_wI h a (fun y => if o ≤ y ∧ y < o + n then v (y - o) else ah_I h a y)) := by
  let g : Nat → Int → Int := fun k y => if o ≤ y ∧ y < o + k then v (y - o) else ah_I h a y
  have hs := lp_seq (F := F) (fun j : Nat => (j : Int)) (fun j => ah_wI h a (g j)) n (b := ()) (hE := ah_wI h a (g n)) ?_ (ex _) mo_N (by rw [mo_N_v]; omega)
  · have e0 : g 0 = ah_I h a := by funext y; simp only [g]; rw [if_neg (by omega)]
    simp only [e0, hl_wI_id] at hs
    exact hs
  · intro j hj
    rw [step j (g j) hj]
    have e : fu (g j) (o + j) (v j) = g (j + 1) := by
      funext y
      simp only [g, fu]
      by_cases hy : y = o + j
      · rw [if_pos hy, if_pos (by omega)]; congr 1; omega
      · rw [if_neg hy]
        by_cases hy2 : o ≤ y ∧ y < o + j
        · rw [if_pos hy2, if_pos (by omega)]
        · rw [if_neg hy2, if_neg (by omega)]
    rw [e]; rfl
theorem c_drop (a : Int) (ha : am_r a) (s : SG) (ho : OKS s) : CJ (fun x => X6_drop x a) (fun m => X7_drop m a) s := by
  obtain ⟨D, V, Q, d⟩ := s
  obtain ⟨⟨hD1, hD2⟩, oV, oQ, od⟩ := id ho
  dsimp only at hD1 hD2 oV oQ od
  unfold am_r at ha
  by_cases c1 : 0 ≤ a ∧ a < D.length
  · have hlen := ldel_len c1.1 c1.2
    refine ⟨D.getD a.toNat 0, (ldel D a, V, Q, d), ⟨⟨?_, ldel_wL hD2⟩, oV, oQ, od⟩, ?_, ?_⟩
    · dsimp only; omega
    · intro x h hK
      obtain ⟨hR, nD, hSc, A, B, hB⟩ := id hK
      obtain ⟨⟨o1, ⟨p0, p1, p2, p4, p6, p7, p8, p9, p10, p11, p12⟩, o3, o4, o5, o6, o7, o8, o9⟩, ⟨f3, f5, f13⟩, hA, hQ, hM, hX⟩ := id hB
      have tR := hR.1
      have e1 := q4_size hR
      have e4 := q4_at hR (i := a) (by omega)
      dsimp only at e1 e4
      rw [if_pos c1] at e4
      obtain ⟨h', e2, r2, g2⟩ := q4_remove hR c1.1 c1.2
      exact ⟨h', by simp (disch := omega) only [X6_drop, rr_p, rr_bp, rr_bb, rr_0, rr_lt, rr_blt, rr_le, rr_ble, rr_eq, rr_beq, rr_nl_n, rr_nl_s, rr_bnl_n, rr_bnl_s, rr_cond_t, rr_cond_f, rr_bcond_t, rr_bcond_f, rr_bon, rr_bcv, rr_cv, rr_g, rr_gr, rr_si, rr_sz, rr_sr, rr_al, rr_ld, rr_st, rr_rl, rr_rs, rr_ni, rr_nr, rr_z, rr_div, rr_rem, rr_lc, rr_mx, rr_mn, rr_ab, rr_no, gd_t, bc_t, bc_f, gd_tt, bc_tt, bc_ff, or_true, true_or, and_true, true_and, Nat.reduceAdd, p0, mo_b_s e1, mo_b_s e2, mo_b_s e4], KI_desk hK g2 r2⟩
    · intro m h hM
      have mT := hM.1.1
      obtain ⟨p1, t1, n1⟩ := ms1 hM.1
      have f0 := hM.2.1.1
      dsimp only at f0
      have hc := @mDesk_at h m D hM.2.1 a c1.1 c1.2
      let g : Nat → Int → Int := fun j y => if a ≤ y ∧ y < a + j then ah_I h (m + 1) (y + 1) else ah_I h (m + 1) y
      have hL : mo_lp mo_N (X7_drop_L36 m) a (ah_sF h m 0 ((D.length : Int) - 1)) = some ((), ah_sF (ah_wI h (m + 1) (g (D.length - 1 - a.toNat))) m 0 ((D.length : Int) - 1)) := by
        have hs := lp_seq (F := X7_drop_L36 m) (fun j : Nat => a + j) (fun j => ah_sF (ah_wI h (m + 1) (g j)) m 0 ((D.length : Int) - 1)) (D.length - 1 - a.toNat) (b := ()) (hE := ah_sF (ah_wI h (m + 1) (g (D.length - 1 - a.toNat))) m 0 ((D.length : Int) - 1)) ?_ ?_ mo_N (by rw [mo_N_v]; omega)
        · have e0 : g 0 = ah_I h (m + 1) := by funext y; simp only [g]; rw [if_neg (by omega)]
          simp only [e0, hl_wI_id] at hs
          simpa using hs
        · intro j hj
          have e1 : a + (j : Int) + 1 = a + ((j + 1 : Nat) : Int) := by omega
          have e2 : fu (g j) (a + (j : Int)) (g j (a + ((j + 1 : Nat) : Int))) = g (j + 1) := by
            funext y
            simp only [g, fu]
            by_cases hy : y = a + (j : Int)
            · rw [if_pos hy, if_neg (by omega), if_pos (by omega)]; congr 1; omega
            · rw [if_neg hy]
              by_cases hy2 : a ≤ y ∧ y < a + (j : Int)
              · rw [if_pos hy2, if_pos (by omega)]
              · rw [if_neg hy2, if_neg (by omega)]
          have e3 : ah_sI (ah_sF (ah_wI h (m + 1) (g j)) m 0 ((D.length : Int) - 1)) (m + 1) (a + (j : Int)) (g j (a + ((j + 1 : Nat) : Int))) = ah_sF (ah_wI h (m + 1) (g (j + 1))) m 0 ((D.length : Int) - 1) := by
            rw [← e2, ← hl_sI_wI]; rfl
          simp (disch := omega) only [X7_drop_L36, rr_p, rr_bp, rr_bb, rr_0, rr_lt, rr_blt, rr_le, rr_ble, rr_eq, rr_beq, rr_nl_n, rr_nl_s, rr_bnl_n, rr_bnl_s, rr_cond_t, rr_cond_f, rr_bcond_t, rr_bcond_f, rr_bon, rr_bcv, rr_cv, rr_g, rr_gr, rr_si, rr_sz, rr_sr, rr_al, rr_ld, rr_st, rr_rl, rr_rs, rr_ni, rr_nr, rr_z, rr_div, rr_rem, rr_lc, rr_mx, rr_mn, rr_ab, rr_no, gd_t, bc_t, bc_f, gd_tt, bc_tt, bc_ff, or_true, true_or, and_true, true_and, Nat.reduceAdd, hl_T_sF, hl_N_sF, hl_P_sF, hl_I_sF, hl_R_sF, hl_S_sF, hl_T_sP, hl_N_sP, hl_F_sP, hl_I_sP, hl_R_sP, hl_S_sP, hl_T_sI, hl_N_sI, hl_F_sI, hl_P_sI, hl_R_sI, hl_S_sI, hl_T_sR, hl_N_sR, hl_F_sR, hl_P_sR, hl_I_sR, hl_S_sR, hl_T_wI, hl_N_wI, hl_F_wI, hl_P_wI, hl_R_wI, hl_S_wI, hl_F_sF_s, hl_F_sF_n, hl_P_sP_s, hl_P_sP_n, hl_I_sI_s, hl_I_sI_n, hl_R_sR_s, hl_R_sR_n, hl_I_wI_s, hl_I_wI_n, p1, e1, e3]
        · simp (disch := omega) only [X7_drop_L36, rr_p, rr_bp, rr_bb, rr_0, rr_lt, rr_blt, rr_le, rr_ble, rr_eq, rr_beq, rr_nl_n, rr_nl_s, rr_bnl_n, rr_bnl_s, rr_cond_t, rr_cond_f, rr_bcond_t, rr_bcond_f, rr_bon, rr_bcv, rr_cv, rr_g, rr_gr, rr_si, rr_sz, rr_sr, rr_al, rr_ld, rr_st, rr_rl, rr_rs, rr_ni, rr_nr, rr_z, rr_div, rr_rem, rr_lc, rr_mx, rr_mn, rr_ab, rr_no, gd_t, bc_t, bc_f, gd_tt, bc_tt, bc_ff, or_true, true_or, and_true, true_and, Nat.reduceAdd, hl_T_sF, hl_N_sF, hl_P_sF, hl_I_sF, hl_R_sF, hl_S_sF, hl_T_sP, hl_N_sP, hl_F_sP, hl_I_sP, hl_R_sP, hl_S_sP, hl_T_sI, hl_N_sI, hl_F_sI, hl_P_sI, hl_R_sI, hl_S_sI, hl_T_sR, hl_N_sR, hl_F_sR, hl_P_sR, hl_I_sR, hl_S_sR, hl_T_wI, hl_N_wI, hl_F_wI, hl_P_wI, hl_R_wI, hl_S_wI, hl_F_sF_s, hl_F_sF_n, hl_P_sP_s, hl_P_sP_n, hl_I_sI_s, hl_I_sI_n, hl_R_sR_s, hl_R_sR_n, hl_I_wI_s, hl_I_wI_n, p1]
      refine ⟨ah_sF (ah_wI h (m + 1) (g (D.length - 1 - a.toNat))) m 0 ((ldel D a).length : Int), ?_, MI_desk hM mDesk_newF (mDesk_new fun j hj => ?_)⟩
      · rw [show ((ldel D a).length : Int) = (D.length : Int) - 1 by omega]
        simp (disch := omega) only [X7_drop, X7_within, rr_p, rr_bp, rr_bb, rr_0, rr_lt, rr_blt, rr_le, rr_ble, rr_eq, rr_beq, rr_nl_n, rr_nl_s, rr_bnl_n, rr_bnl_s, rr_cond_t, rr_cond_f, rr_bcond_t, rr_bcond_f, rr_bon, rr_bcv, rr_cv, rr_g, rr_gr, rr_si, rr_sz, rr_sr, rr_al, rr_ld, rr_st, rr_rl, rr_rs, rr_ni, rr_nr, rr_z, rr_div, rr_rem, rr_lc, rr_mx, rr_mn, rr_ab, rr_no, gd_t, bc_t, bc_f, gd_tt, bc_tt, bc_ff, or_true, true_or, and_true, true_and, Nat.reduceAdd, hl_T_sF, hl_N_sF, hl_P_sF, hl_I_sF, hl_R_sF, hl_S_sF, hl_T_sP, hl_N_sP, hl_F_sP, hl_I_sP, hl_R_sP, hl_S_sP, hl_T_sI, hl_N_sI, hl_F_sI, hl_P_sI, hl_R_sI, hl_S_sI, hl_T_sR, hl_N_sR, hl_F_sR, hl_P_sR, hl_I_sR, hl_S_sR, hl_T_wI, hl_N_wI, hl_F_wI, hl_P_wI, hl_R_wI, hl_S_wI, hl_F_sF_s, hl_F_sF_n, hl_P_sP_s, hl_P_sP_n, hl_I_sI_s, hl_I_sI_n, hl_R_sR_s, hl_R_sR_n, hl_I_wI_s, hl_I_wI_n, f0, p1, mo_b_s hL, hc]
      · rw [ldel_at c1.1 c1.2]
        simp only [g]
        by_cases hj2 : (j : Int) < a
        · rw [if_neg (by omega), if_pos hj2]; exact hM.2.1.2 j (by dsimp only; omega)
        · rw [if_pos (by omega), if_neg hj2]
          exact hM.2.1.2 (j + 1) (by dsimp only; omega)
  · refine CJ.same (-101) ho ?_ ?_
    · intro x h hK
      obtain ⟨hR, nD, hSc, A, B, hB⟩ := id hK
      obtain ⟨⟨o1, ⟨p0, p1, p2, p4, p6, p7, p8, p9, p10, p11, p12⟩, o3, o4, o5, o6, o7, o8, o9⟩, ⟨f3, f5, f13⟩, hA, hQ, hM, hX⟩ := id hB
      have tR := hR.1
      have e1 := q4_size hR
      dsimp only at e1
      by_cases c3 : a < 0
      · simp (disch := omega) only [X6_drop, rr_p, rr_bp, rr_bb, rr_0, rr_lt, rr_blt, rr_le, rr_ble, rr_eq, rr_beq, rr_nl_n, rr_nl_s, rr_bnl_n, rr_bnl_s, rr_cond_t, rr_cond_f, rr_bcond_t, rr_bcond_f, rr_bon, rr_bcv, rr_cv, rr_g, rr_gr, rr_si, rr_sz, rr_sr, rr_al, rr_ld, rr_st, rr_rl, rr_rs, rr_ni, rr_nr, rr_z, rr_div, rr_rem, rr_lc, rr_mx, rr_mn, rr_ab, rr_no, gd_t, bc_t, bc_f, gd_tt, bc_tt, bc_ff, or_true, true_or, and_true, true_and, Nat.reduceAdd, p0, mo_b_s e1]
      · simp (disch := omega) only [X6_drop, rr_p, rr_bp, rr_bb, rr_0, rr_lt, rr_blt, rr_le, rr_ble, rr_eq, rr_beq, rr_nl_n, rr_nl_s, rr_bnl_n, rr_bnl_s, rr_cond_t, rr_cond_f, rr_bcond_t, rr_bcond_f, rr_bon, rr_bcv, rr_cv, rr_g, rr_gr, rr_si, rr_sz, rr_sr, rr_al, rr_ld, rr_st, rr_rl, rr_rs, rr_ni, rr_nr, rr_z, rr_div, rr_rem, rr_lc, rr_mx, rr_mn, rr_ab, rr_no, gd_t, bc_t, bc_f, gd_tt, bc_tt, bc_ff, or_true, true_or, and_true, true_and, Nat.reduceAdd, p0, mo_b_s e1]
    · intro m h hM
      have mT := hM.1.1
      have f0 := hM.2.1.1
      dsimp only at f0
      by_cases c3 : a < 0
      · simp (disch := omega) only [X7_drop, X7_within, rr_p, rr_bp, rr_bb, rr_0, rr_lt, rr_blt, rr_le, rr_ble, rr_eq, rr_beq, rr_nl_n, rr_nl_s, rr_bnl_n, rr_bnl_s, rr_cond_t, rr_cond_f, rr_bcond_t, rr_bcond_f, rr_bon, rr_bcv, rr_cv, rr_g, rr_gr, rr_si, rr_sz, rr_sr, rr_al, rr_ld, rr_st, rr_rl, rr_rs, rr_ni, rr_nr, rr_z, rr_div, rr_rem, rr_lc, rr_mx, rr_mn, rr_ab, rr_no, gd_t, bc_t, bc_f, gd_tt, bc_tt, bc_ff, or_true, true_or, and_true, true_and, Nat.reduceAdd, f0]
      · simp (disch := omega) only [X7_drop, X7_within, rr_p, rr_bp, rr_bb, rr_0, rr_lt, rr_blt, rr_le, rr_ble, rr_eq, rr_beq, rr_nl_n, rr_nl_s, rr_bnl_n, rr_bnl_s, rr_cond_t, rr_cond_f, rr_bcond_t, rr_bcond_f, rr_bon, rr_bcv, rr_cv, rr_g, rr_gr, rr_si, rr_sz, rr_sr, rr_al, rr_ld, rr_st, rr_rl, rr_rs, rr_ni, rr_nr, rr_z, rr_div, rr_rem, rr_lc, rr_mx, rr_mn, rr_ab, rr_no, gd_t, bc_t, bc_f, gd_tt, bc_tt, bc_ff, or_true, true_or, and_true, true_and, Nat.reduceAdd, f0]
/-- what the tables hold of version v -/
theorem mVer_l {h : AH} {m : Nat} {V : List VR} (hV : mVer h m V) {v : Int} (h0 : 0 ≤ v) (h1 : v < V.length) : ah_I h (m + 2) v = ((vn V v.toNat).1.length : Int) ∧ ah_I h (m + 4) v = (vn V v.toNat).2.1 ∧ ah_I h (m + 5) v = (vn V v.toNat).2.2.1 ∧ ah_I h (m + 6) v = (vn V v.toNat).2.2.2 := by
  have := hV.2 v.toNat (by omega)
  rw [Int.toNat_of_nonneg h0] at this
  exact ⟨this.1, this.2.2.1, this.2.2.2.1, this.2.2.2.2⟩
theorem mVer_at {h : AH} {m : Nat} {V : List VR} (hV : mVer h m V) {v i : Int} (h0 : 0 ≤ v) (h1 : v < V.length) (h2 : 0 ≤ i) (h3 : i < (vn V v.toNat).1.length) : ah_I h (m + 3) (14 * v + i) = (vn V v.toNat).1.getD i.toNat 0 := by
  have := (hV.2 v.toNat (by omega)).2.1 i.toNat (by omega)
  rw [Int.toNat_of_nonneg h0, Int.toNat_of_nonneg h2] at this
  exact this
theorem c_take (v : Int) (hv : am_r v) (s : SG) (ho : OKS s) : CJ (fun x => X6_take x v) (fun m => X7_take m v) s := by
  obtain ⟨D, V, Q, d⟩ := s
  obtain ⟨⟨hD1, hD2⟩, oV, oQ, od⟩ := id ho
  dsimp only at hD1 hD2 oV oQ od
  have hv2 := hv
  unfold am_r at hv
  have oV1 := oV.1
  by_cases c1 : v = -1
  · subst c1
    refine ⟨0, ([], V, Q, d), ⟨⟨by simp, wL_nil⟩, oV, oQ, od⟩, ?_, ?_⟩
    · intro x h hK
      obtain ⟨hR, nD, hSc, A, B, hB⟩ := id hK
      obtain ⟨⟨o1, ⟨p0, p1, p2, p4, p6, p7, p8, p9, p10, p11, p12⟩, o3, o4, o5, o6, o7, o8, o9⟩, ⟨f3, f5, f13⟩, hA, hQ, hM, hX⟩ := id hB
      have tR := hR.1
      obtain ⟨h', e2, r2, g2⟩ := q4_clear hR
      have e3 := q4_size r2
      have tR2 := r2.1
      have tx : ah_T h' x = 16 := by rw [g2.1]; exact o1
      have px : ah_P h' x 0 = some (x + 1) := by rw [g2.2.2.1]; exact p0
      exact ⟨h', by simp (disch := omega) only [X6_take, rr_p, rr_bp, rr_bb, rr_0, rr_lt, rr_blt, rr_le, rr_ble, rr_eq, rr_beq, rr_nl_n, rr_nl_s, rr_bnl_n, rr_bnl_s, rr_cond_t, rr_cond_f, rr_bcond_t, rr_bcond_f, rr_bon, rr_bcv, rr_cv, rr_g, rr_gr, rr_si, rr_sz, rr_sr, rr_al, rr_ld, rr_st, rr_rl, rr_rs, rr_ni, rr_nr, rr_z, rr_div, rr_rem, rr_lc, rr_mx, rr_mn, rr_ab, rr_no, gd_t, bc_t, bc_f, gd_tt, bc_tt, bc_ff, or_true, true_or, and_true, true_and, Nat.reduceAdd, p0, px, mo_b_s e2, mo_b_s e3]; rfl, KI_desk hK g2 r2⟩
    · intro m h hM
      have mT := hM.1.1
      have hL : mo_lp mo_N (X7_take_L37 m (-1)) 0 (ah_sF h m 0 0) = some ((), ah_sF h m 0 0) := by
        have hs := lp_seq (F := X7_take_L37 m (-1)) (fun j : Nat => (j : Int)) (fun _ => ah_sF h m 0 0) 0 (b := ()) (hE := ah_sF h m 0 0) (fun j hj => by omega) ?_ mo_N (by rw [mo_N_v]; omega)
        · exact hs
        · simp (disch := omega) only [X7_take_L37, rr_p, rr_bp, rr_bb, rr_0, rr_lt, rr_blt, rr_le, rr_ble, rr_eq, rr_beq, rr_nl_n, rr_nl_s, rr_bnl_n, rr_bnl_s, rr_cond_t, rr_cond_f, rr_bcond_t, rr_bcond_f, rr_bon, rr_bcv, rr_cv, rr_g, rr_gr, rr_si, rr_sz, rr_sr, rr_al, rr_ld, rr_st, rr_rl, rr_rs, rr_ni, rr_nr, rr_z, rr_div, rr_rem, rr_lc, rr_mx, rr_mn, rr_ab, rr_no, gd_t, bc_t, bc_f, gd_tt, bc_tt, bc_ff, or_true, true_or, and_true, true_and, Nat.reduceAdd, hl_T_sF, hl_N_sF, hl_P_sF, hl_I_sF, hl_R_sF, hl_S_sF, hl_T_sP, hl_N_sP, hl_F_sP, hl_I_sP, hl_R_sP, hl_S_sP, hl_T_sI, hl_N_sI, hl_F_sI, hl_P_sI, hl_R_sI, hl_S_sI, hl_T_sR, hl_N_sR, hl_F_sR, hl_P_sR, hl_I_sR, hl_S_sR, hl_T_wI, hl_N_wI, hl_F_wI, hl_P_wI, hl_R_wI, hl_S_wI, hl_F_sF_s, hl_F_sF_n, hl_P_sP_s, hl_P_sP_n, hl_I_sI_s, hl_I_sI_n, hl_R_sR_s, hl_R_sR_n, hl_I_wI_s, hl_I_wI_n]
      refine ⟨ah_sF h m 0 0, ?_, MI_desk hM (MF.sF (by omega) (by omega)) ⟨hl_F_sF_s, fun j hj => by simp at hj⟩⟩
      simp (disch := omega) only [X7_take, rr_p, rr_bp, rr_bb, rr_0, rr_lt, rr_blt, rr_le, rr_ble, rr_eq, rr_beq, rr_nl_n, rr_nl_s, rr_bnl_n, rr_bnl_s, rr_cond_t, rr_cond_f, rr_bcond_t, rr_bcond_f, rr_bon, rr_bcv, rr_cv, rr_g, rr_gr, rr_si, rr_sz, rr_sr, rr_al, rr_ld, rr_st, rr_rl, rr_rs, rr_ni, rr_nr, rr_z, rr_div, rr_rem, rr_lc, rr_mx, rr_mn, rr_ab, rr_no, gd_t, bc_t, bc_f, gd_tt, bc_tt, bc_ff, or_true, true_or, and_true, true_and, Nat.reduceAdd, hl_T_sF, hl_N_sF, hl_P_sF, hl_I_sF, hl_R_sF, hl_S_sF, hl_T_sP, hl_N_sP, hl_F_sP, hl_I_sP, hl_R_sP, hl_S_sP, hl_T_sI, hl_N_sI, hl_F_sI, hl_P_sI, hl_R_sI, hl_S_sI, hl_T_sR, hl_N_sR, hl_F_sR, hl_P_sR, hl_I_sR, hl_S_sR, hl_T_wI, hl_N_wI, hl_F_wI, hl_P_wI, hl_R_wI, hl_S_wI, hl_F_sF_s, hl_F_sF_n, hl_P_sP_s, hl_P_sP_n, hl_I_sI_s, hl_I_sI_n, hl_R_sR_s, hl_R_sR_n, hl_I_wI_s, hl_I_wI_n, mo_b_s hL]
  · by_cases c2 : 0 ≤ v ∧ v < V.length
    · obtain ⟨l1, l2, -⟩ := oV.2 v.toNat (by omega)
      refine ⟨((vn V v.toNat).1.length : Int), ((vn V v.toNat).1, V, Q, d), ⟨⟨l1, l2⟩, oV, oQ, od⟩, ?_, ?_⟩
      · intro x h hK
        obtain ⟨hR, nD, hSc, A, B, hB⟩ := id hK
        obtain ⟨⟨o1, ⟨p0, p1, p2, p4, p6, p7, p8, p9, p10, p11, p12⟩, o3, o4, o5, o6, o7, o8, o9⟩, ⟨f3, f5, f13⟩, hA, hQ, hM, hX⟩ := id hB
        have tR := hR.1
        have e1 := q6_versionOrNull hB oV1 hv2
        rw [if_pos c2] at e1
        obtain ⟨w1, w2, w3, w4, w5⟩ := hA v.toNat (by dsimp only; omega)
        dsimp only at w2
        obtain ⟨v1, v2, v3, v4, v5, v6, v7, v8, v9, v10⟩ := w2
        have tV := v9.1
        obtain ⟨h', e2, r2, g2⟩ := q4_become hR v9 (by omega) (by rw [show x + 1 + 1 = x + 2 by omega, nD]; omega)
        have e3 := q4_size r2
        have tR2 := r2.1
        have tx : ah_T h' x = 16 := by rw [g2.1]; exact o1
        have px : ah_P h' x 0 = some (x + 1) := by rw [g2.2.2.1]; exact p0
        exact ⟨h', by simp (disch := omega) only [X6_take, rr_p, rr_bp, rr_bb, rr_0, rr_lt, rr_blt, rr_le, rr_ble, rr_eq, rr_beq, rr_nl_n, rr_nl_s, rr_bnl_n, rr_bnl_s, rr_cond_t, rr_cond_f, rr_bcond_t, rr_bcond_f, rr_bon, rr_bcv, rr_cv, rr_g, rr_gr, rr_si, rr_sz, rr_sr, rr_al, rr_ld, rr_st, rr_rl, rr_rs, rr_ni, rr_nr, rr_z, rr_div, rr_rem, rr_lc, rr_mx, rr_mn, rr_ab, rr_no, gd_t, bc_t, bc_f, gd_tt, bc_tt, bc_ff, or_true, true_or, and_true, true_and, Nat.reduceAdd, p0, px, v2, mo_b_s e1, mo_b_s e2, mo_b_s e3], KI_desk hK g2 r2⟩
      · intro m h hM
        have mT := hM.1.1
        obtain ⟨p1, t1, n1⟩ := ms1 hM.1
        obtain ⟨p2, t2, n2⟩ := ms2 hM.1
        obtain ⟨p3, t3, n3⟩ := ms3 hM.1
        have e1 := q7_isVersion hM oV1 hv2
        dsimp only at e1
        rw [bc_t c2] at e1
        have hl := (mVer_l hM.2.2.1 c2.1 c2.2).1
        have hat := fun i => @mVer_at h m V hM.2.2.1 v i c2.1 c2.2
        dsimp only at hl
        have hL := lp_cp (F := X7_take_L37 m v) (h := ah_sF h m 0 ((vn V v.toNat).1.length : Int)) (a := m + 1) (n := (vn V v.toNat).1.length) 0 (fun k => ah_I h (m + 3) (14 * v + k)) (by omega) ?_ ?_
        · refine ⟨_, ?_, MI_desk hM (mDesk_newF (f := fun y => if 0 ≤ y ∧ y < 0 + ((vn V v.toNat).1.length : Int) then ah_I h (m + 3) (14 * v + (y - 0)) else ah_I h (m + 1) y) (n := ((vn V v.toNat).1.length : Int))) (mDesk_new fun j hj => ?_)⟩
          · simp (disch := omega) only [X7_take, rr_p, rr_bp, rr_bb, rr_0, rr_lt, rr_blt, rr_le, rr_ble, rr_eq, rr_beq, rr_nl_n, rr_nl_s, rr_bnl_n, rr_bnl_s, rr_cond_t, rr_cond_f, rr_bcond_t, rr_bcond_f, rr_bon, rr_bcv, rr_cv, rr_g, rr_gr, rr_si, rr_sz, rr_sr, rr_al, rr_ld, rr_st, rr_rl, rr_rs, rr_ni, rr_nr, rr_z, rr_div, rr_rem, rr_lc, rr_mx, rr_mn, rr_ab, rr_no, gd_t, bc_t, bc_f, gd_tt, bc_tt, bc_ff, or_true, true_or, and_true, true_and, Nat.reduceAdd, hl_T_sF, hl_N_sF, hl_P_sF, hl_I_sF, hl_R_sF, hl_S_sF, hl_T_sP, hl_N_sP, hl_F_sP, hl_I_sP, hl_R_sP, hl_S_sP, hl_T_sI, hl_N_sI, hl_F_sI, hl_P_sI, hl_R_sI, hl_S_sI, hl_T_sR, hl_N_sR, hl_F_sR, hl_P_sR, hl_I_sR, hl_S_sR, hl_T_wI, hl_N_wI, hl_F_wI, hl_P_wI, hl_R_wI, hl_S_wI, hl_F_sF_s, hl_F_sF_n, hl_P_sP_s, hl_P_sP_n, hl_I_sI_s, hl_I_sI_n, hl_R_sR_s, hl_R_sR_n, hl_I_wI_s, hl_I_wI_n, p2, hl, mo_b_s e1, mo_b_s hL]
            rfl
          · rw [if_pos (by omega), Int.sub_zero]
            have := hat (j : Int) (by omega) (by omega)
            rw [this, Int.toNat_natCast]
        · intro k g hk
          simp (disch := omega) only [X7_take_L37, rr_p, rr_bp, rr_bb, rr_0, rr_lt, rr_blt, rr_le, rr_ble, rr_eq, rr_beq, rr_nl_n, rr_nl_s, rr_bnl_n, rr_bnl_s, rr_cond_t, rr_cond_f, rr_bcond_t, rr_bcond_f, rr_bon, rr_bcv, rr_cv, rr_g, rr_gr, rr_si, rr_sz, rr_sr, rr_al, rr_ld, rr_st, rr_rl, rr_rs, rr_ni, rr_nr, rr_z, rr_div, rr_rem, rr_lc, rr_mx, rr_mn, rr_ab, rr_no, gd_t, bc_t, bc_f, gd_tt, bc_tt, bc_ff, or_true, true_or, and_true, true_and, Nat.reduceAdd, hl_T_sF, hl_N_sF, hl_P_sF, hl_I_sF, hl_R_sF, hl_S_sF, hl_T_sP, hl_N_sP, hl_F_sP, hl_I_sP, hl_R_sP, hl_S_sP, hl_T_sI, hl_N_sI, hl_F_sI, hl_P_sI, hl_R_sI, hl_S_sI, hl_T_sR, hl_N_sR, hl_F_sR, hl_P_sR, hl_I_sR, hl_S_sR, hl_T_wI, hl_N_wI, hl_F_wI, hl_P_wI, hl_R_wI, hl_S_wI, hl_F_sF_s, hl_F_sF_n, hl_P_sP_s, hl_P_sP_n, hl_I_sI_s, hl_I_sI_n, hl_R_sR_s, hl_R_sR_n, hl_I_wI_s, hl_I_wI_n, p1, p3, hl_sI_wI, Int.zero_add]
        · intro g
          simp (disch := omega) only [X7_take_L37, rr_p, rr_bp, rr_bb, rr_0, rr_lt, rr_blt, rr_le, rr_ble, rr_eq, rr_beq, rr_nl_n, rr_nl_s, rr_bnl_n, rr_bnl_s, rr_cond_t, rr_cond_f, rr_bcond_t, rr_bcond_f, rr_bon, rr_bcv, rr_cv, rr_g, rr_gr, rr_si, rr_sz, rr_sr, rr_al, rr_ld, rr_st, rr_rl, rr_rs, rr_ni, rr_nr, rr_z, rr_div, rr_rem, rr_lc, rr_mx, rr_mn, rr_ab, rr_no, gd_t, bc_t, bc_f, gd_tt, bc_tt, bc_ff, or_true, true_or, and_true, true_and, Nat.reduceAdd, hl_T_sF, hl_N_sF, hl_P_sF, hl_I_sF, hl_R_sF, hl_S_sF, hl_T_sP, hl_N_sP, hl_F_sP, hl_I_sP, hl_R_sP, hl_S_sP, hl_T_sI, hl_N_sI, hl_F_sI, hl_P_sI, hl_R_sI, hl_S_sI, hl_T_sR, hl_N_sR, hl_F_sR, hl_P_sR, hl_I_sR, hl_S_sR, hl_T_wI, hl_N_wI, hl_F_wI, hl_P_wI, hl_R_wI, hl_S_wI, hl_F_sF_s, hl_F_sF_n, hl_P_sP_s, hl_P_sP_n, hl_I_sI_s, hl_I_sI_n, hl_R_sR_s, hl_R_sR_n, hl_I_wI_s, hl_I_wI_n, p1, p3, hl_sI_wI, Int.zero_add]
    · refine CJ.same (-101) ho ?_ ?_
      · intro x h hK
        obtain ⟨hR, nD, hSc, A, B, hB⟩ := id hK
        obtain ⟨⟨o1, ⟨p0, p1, p2, p4, p6, p7, p8, p9, p10, p11, p12⟩, o3, o4, o5, o6, o7, o8, o9⟩, ⟨f3, f5, f13⟩, hA, hQ, hM, hX⟩ := id hB
        have e1 := q6_versionOrNull hB oV1 hv2
        rw [if_neg c2] at e1
        simp (disch := omega) only [X6_take, rr_p, rr_bp, rr_bb, rr_0, rr_lt, rr_blt, rr_le, rr_ble, rr_eq, rr_beq, rr_nl_n, rr_nl_s, rr_bnl_n, rr_bnl_s, rr_cond_t, rr_cond_f, rr_bcond_t, rr_bcond_f, rr_bon, rr_bcv, rr_cv, rr_g, rr_gr, rr_si, rr_sz, rr_sr, rr_al, rr_ld, rr_st, rr_rl, rr_rs, rr_ni, rr_nr, rr_z, rr_div, rr_rem, rr_lc, rr_mx, rr_mn, rr_ab, rr_no, gd_t, bc_t, bc_f, gd_tt, bc_tt, bc_ff, or_true, true_or, and_true, true_and, Nat.reduceAdd, p0, mo_b_s e1]
      · intro m h hM
        have mT := hM.1.1
        have e1 := q7_isVersion hM oV1 hv2
        dsimp only at e1
        rw [bc_f c2] at e1
        simp (disch := omega) only [X7_take, rr_p, rr_bp, rr_bb, rr_0, rr_lt, rr_blt, rr_le, rr_ble, rr_eq, rr_beq, rr_nl_n, rr_nl_s, rr_bnl_n, rr_bnl_s, rr_cond_t, rr_cond_f, rr_bcond_t, rr_bcond_f, rr_bon, rr_bcv, rr_cv, rr_g, rr_gr, rr_si, rr_sz, rr_sr, rr_al, rr_ld, rr_st, rr_rl, rr_rs, rr_ni, rr_nr, rr_z, rr_div, rr_rem, rr_lc, rr_mx, rr_mn, rr_ab, rr_no, gd_t, bc_t, bc_f, gd_tt, bc_tt, bc_ff, or_true, true_or, and_true, true_and, Nat.reduceAdd, hl_T_sF, hl_N_sF, hl_P_sF, hl_I_sF, hl_R_sF, hl_S_sF, hl_T_sP, hl_N_sP, hl_F_sP, hl_I_sP, hl_R_sP, hl_S_sP, hl_T_sI, hl_N_sI, hl_F_sI, hl_P_sI, hl_R_sI, hl_S_sI, hl_T_sR, hl_N_sR, hl_F_sR, hl_P_sR, hl_I_sR, hl_S_sR, hl_T_wI, hl_N_wI, hl_F_wI, hl_P_wI, hl_R_wI, hl_S_wI, hl_F_sF_s, hl_F_sF_n, hl_P_sP_s, hl_P_sP_n, hl_I_sI_s, hl_I_sI_n, hl_R_sR_s, hl_R_sR_n, hl_I_wI_s, hl_I_wI_n, mo_b_s e1]
