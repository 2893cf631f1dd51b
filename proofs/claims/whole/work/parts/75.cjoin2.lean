theorem c_join (b u v : Int) (hb : am_r b) (hu : am_r u) (hv : am_r v) (s : SG) (ho : OKS s) : CJ (fun x => X6_join x b u v) (fun m => X7_join m b u v) s := by
  obtain ⟨D, V, Q, d⟩ := s
  obtain ⟨⟨hD1, hD2⟩, oV, oQ, od⟩ := id ho
  dsimp only at hD1 hD2 oV oQ od
  have oV1 := oV.1
  by_cases c : (0 ≤ b ∧ b < V.length) ∧ (0 ≤ u ∧ u < V.length) ∧ (0 ≤ v ∧ v < V.length)
  · obtain ⟨cb, cu, cv⟩ := id c
    obtain ⟨l1, l2, -⟩ := oV.2 b.toNat (by omega)
    obtain ⟨k1, k2, -⟩ := oV.2 u.toNat (by omega)
    obtain ⟨j1, j2, -⟩ := oV.2 v.toNat (by omega)
    have oP := dW_OP l2 k2 l1 k1 (b := 14) (by omega)
    have vP := OP_pV oP (by omega)
    have oR := dW_OP l2 j2 l1 j1 (b := 14) (by omega)
    have vR := OP_pV oR (by omega)
    obtain ⟨p1, p2, p3, p4, p5⟩ := dW_f l2 k2
    obtain ⟨q1, q2, q3, q4, q5⟩ := dW_f l2 j2
    have KK : ∀ x h, KI h x (D, V, Q, d) → ∃ h1 A B, KB h x V Q d A B ∧ X6_versionOrNull x b h = some (some (A b.toNat), h) ∧ KB h1 x V Q d A B ∧ X6_writeBothDifferences x b u v h = some (1, h1) ∧ KI h1 x (D, V, Q, d) ∧ kP h1 (x + 11) 10 14 (dW (vn V b.toNat).1 (vn V u.toNat).1) ∧ kP h1 (x + 17) 10 14 (dW (vn V b.toNat).1 (vn V v.toNat).1) ∧ X6_clashes x h1 = some ((clN (dW (vn V b.toNat).1 (vn V u.toNat).1) (dW (vn V b.toNat).1 (vn V v.toNat).1) (dW (vn V b.toNat).1 (vn V u.toNat).1).length : Int), h1) := by
      intro x h hK
      obtain ⟨-, -, -, A, B, hB⟩ := id hK
      have e0 := q6_versionOrNull hB oV1 hb
      dsimp only at e0
      rw [if_pos cb] at e0
      obtain ⟨h1, e1, hK1, r1, r2, g1⟩ := k_both ho hK hb hu hv cb cu cv
      dsimp only at r1 r2
      have hB1 := KB_fr hB g1 (by omega)
      have e2 := q6_clashes hB1.1.1 hB1.1.2.1.2.2.2.2.2.2.1 hB1.1.2.1.2.2.2.2.2.2.2.1 r1 r2 vP vR oR.1
      exact ⟨h1, A, B, hB, e0, hB1, e1, hK1, r1, r2, e2⟩
    have MM : ∀ m h, MI h m (D, V, Q, d) → ∃ h1, ah_T h m = 17 ∧ X7_areVersions m b u v h = some (1, h) ∧ X7_clashMany m b u v h = some ((clN (dW (vn V b.toNat).1 (vn V u.toNat).1) (dW (vn V b.toNat).1 (vn V v.toNat).1) (dW (vn V b.toNat).1 (vn V u.toNat).1).length : Int), h1) ∧ MI h1 m (D, V, Q, d) ∧ xW h1 m (dW (vn V b.toNat).1 (vn V u.toNat).1) (dW (vn V b.toNat).1 (vn V v.toNat).1) := by
      intro m h hM
      have e0 := q7_areVersions hM ho hb hu hv
      dsimp only at e0
      rw [bc_t c] at e0
      obtain ⟨h1, e1, hM1, w1⟩ := q7_clashMany hM ho cb cu cv
      exact ⟨h1, hM.1.1, e0, e1, hM1, w1⟩
    by_cases cc : clN (dW (vn V b.toNat).1 (vn V u.toNat).1) (dW (vn V b.toNat).1 (vn V v.toNat).1) (dW (vn V b.toNat).1 (vn V u.toNat).1).length = 0
    · have hC := clN_nC cc
      rw [cc] at KK MM
      generalize hPe : dW (vn V b.toNat).1 (vn V u.toNat).1 = P at *
      generalize hRe : dW (vn V b.toNat).1 (vn V v.toNat).1 = R at *
      generalize hxe : (vn V b.toNat).1 = xs at *
      have fP : ∀ i : Nat, i < P.length → (hk P i).1 + (hk P i).2.1.length ≤ xs.length := fun i hi => (p5 i hi).2.1
      have fR : ∀ i : Nat, i < R.length → (hk R i).1 + (hk R i).2.1.length ≤ xs.length := fun i hi => (q5 i hi).2.1
      obtain ⟨u1, u2, u3⟩ := un_len _ P R (Nat.le_refl _)
      have hsep := un_sep _ P R 0 (Nat.le_refl _) (sW_sep0 p4) (sW_sep0 q4) hC
      have hfm : ∀ q ∈ un P R, q.1 + (q.2.1.length : Int) ≤ xs.length := by
        intro q hq
        rcases un_mem (P := P) (Q := R) _ _ _ (Nat.le_refl _) q hq with z | z
        · obtain ⟨i, hi, e⟩ := mem_hk z
          rw [← e]; exact fP i hi
        · obtain ⟨i, hi, e⟩ := mem_hk z
          rw [← e]; exact fR i hi
      have hle := (lay_eq (xs := xs) (W := un P R) (p := 0) (by omega) (by omega) hsep hfm).1
      have hle : layR xs (un P R) = layW xs 0 (un P R) := by simpa using hle
      have hln := layR_len (xs := xs) (W := un P R) (p := 0) (by omega) (by omega) hsep hfm
      rw [hle] at hln
      have hwl : wL (layW xs 0 (un P R)) := by
        rw [← hle]
        refine wL_layR l2 (fun q hq => ?_)
        rcases un_mem (P := P) (Q := R) _ _ _ (Nat.le_refl _) q hq with z | z
        · obtain ⟨i, hi, e⟩ := mem_hk z
          rw [← e]; exact (p5 i hi).2.2.2.2
        · obtain ⟨i, hi, e⟩ := mem_hk z
          rw [← e]; exact (q5 i hi).2.2.2.2
      have K2 : ∀ x h, KI h x (D, V, Q, d) → ∃ h1, KI h1 x (D, V, Q, d) ∧ kR h1 (x + 3) (layW xs 0 (un P R)) ∧ ∀ r h2, X6_takeTrialToDesk x h1 = some (r, h2) → X6_join x b u v h = some (r, h2) := by
        intro x h hK
        obtain ⟨h1, A, B, hB0, e0, hB, e1, hK1, r1, r2, e2⟩ := KK x h hK
        have tx := hB0.1.1
        obtain ⟨⟨o1, ⟨g0, g1, g2, g4, g6, g7, g8, g9, g10, g11, g12⟩, o3, o4, o5, o6, o7, o8, o9⟩, -, hA, -⟩ := id hB
        have hSc := hK1.2.2.1
        obtain ⟨W3, hW3⟩ := hSc.2.2.2.2.2.1
        obtain ⟨h2, e3, r3, f3⟩ := q6_unite o1 g8 g9 g10 r1 r2 hW3 vP vR
        have hSc2 := KSc_p3 hSc f3 r3
        have hK2 := KI_scr hK1 f3 (by omega) hSc2
        have hB2 := KB_fr hB f3 (by omega)
        obtain ⟨⟨m1, ⟨m0, ma, m2, m4, m6, m7, m8, m9, m10, m11, m12⟩, -⟩, -⟩ := id hB2
        obtain ⟨a1, a2, a3, a4, a5⟩ := hB2.2.2.1 b.toNat (by omega)
        have aT := a2.1
        have aP := a2.2.1
        have aR := a2.2.2.2.2.2.2.2.2.1
        rw [hxe] at aR
        obtain ⟨ts, hT⟩ := hSc2.1
        have nT := hSc2.2.1
        have tW := r3.1.1.1
        obtain ⟨su1, su2⟩ := sep_sW hsep
        obtain ⟨h3, e4, r4, f4⟩ := q3_layOn r3 aR hT (by omega) (by omega) (by omega) ⟨su1, su2⟩ (fun i hi => hfm _ (hk_mem hi)) (by rw [show x + 3 + 1 = x + 4 by omega, nT]; omega)
        have hK3 := KI_scr hK2 f4 (by omega) (KSc_tr hSc2 f4 r4)
        have tx3 : ah_T h3 x = 16 := by rw [f4.1]; exact m1
        refine ⟨h3, hK3, r4, fun r h4 e5 => ?_⟩
        simp (disch := omega) only [X6_join, rr_p, rr_bp, rr_bb, rr_0, rr_lt, rr_blt, rr_le, rr_ble, rr_eq, rr_beq, rr_nl_n, rr_nl_s, rr_bnl_n, rr_bnl_s, rr_cond_t, rr_cond_f, rr_bcond_t, rr_bcond_f, rr_bon, rr_bcv, rr_cv, rr_g, rr_gr, rr_si, rr_sz, rr_sr, rr_al, rr_ld, rr_st, rr_rl, rr_rs, rr_ni, rr_nr, rr_z, rr_div, rr_rem, rr_lc, rr_mx, rr_mn, rr_ab, rr_no, gd_t, bc_t, bc_f, gd_tt, bc_tt, bc_ff, or_true, true_or, and_true, true_and, Nat.reduceAdd, mo_b_s e0, mo_b_s e1, mo_b_s e2, mo_b_s e3, m10, ma, aP, mo_b_s e4, mo_b_s e5, Int.natCast_zero]
      have M2 : ∀ m h, MI h m (D, V, Q, d) → ∃ h1, MI h1 m (D, V, Q, d) ∧ mRow h1 m (layW xs 0 (un P R)) ∧ (14 < (layW xs 0 (un P R)).length → X7_join m b u v h = some (-104, h1)) ∧ ((layW xs 0 (un P R)).length ≤ 14 → ∀ h2, X7_toDesk m h1 = some ((), h2) → ah_T h2 m = 17 → ah_F h2 m 0 = ((layW xs 0 (un P R)).length : Int) → X7_join m b u v h = some (((layW xs 0 (un P R)).length : Int), h2)) := by
        intro m h hM
        obtain ⟨h1, mT, e0, e1, hM1, w1⟩ := MM m h hM
        have mT1 := hM1.1.1
        have f2 : MF m 20 21 27 28 h1 (ah_sF h1 m 27 0) := MF.sF (by omega) (by omega)
        have hM2 := MI_fr hM1 f2 (by omega)
        have w2 := xW_fr w1 f2 (by omega)
        have hR2 : mRow (ah_sF h1 m 27 0) m [] := ⟨by rw [hl_F_sF_s]; rfl, fun j hj => by simp at hj⟩
        have hBs : mBase (ah_sF h1 m 27 0) m b xs := by
          refine ⟨by omega, ?_, fun k hk1 => ?_⟩
          · have := (mVer_l hM2.2.2.1 cb.1 cb.2).1
            rw [hxe] at this; exact this
          · have := mVer_at hM2.2.2.1 (i := (k : Int)) cb.1 cb.2 (by omega) (by rw [hxe]; omega)
            rw [Int.toNat_natCast, hxe] at this; exact this
        obtain ⟨h3, e3, r3, f3⟩ := q7_joinWalk w2 hR2 hBs vP vR p4 q4 hC l1 (by omega) fP fR
        have hM3 := MI_fr hM2 f3 (by omega)
        have mT3 := hM3.1.1
        have f27 := r3.1
        refine ⟨h3, hM3, r3, fun hc => ?_, fun hc h4 e4 mT4 f0 => ?_⟩
        · simp (disch := omega) only [X7_join, rr_p, rr_bp, rr_bb, rr_0, rr_lt, rr_blt, rr_le, rr_ble, rr_eq, rr_beq, rr_nl_n, rr_nl_s, rr_bnl_n, rr_bnl_s, rr_cond_t, rr_cond_f, rr_bcond_t, rr_bcond_f, rr_bon, rr_bcv, rr_cv, rr_g, rr_gr, rr_si, rr_sz, rr_sr, rr_al, rr_ld, rr_st, rr_rl, rr_rs, rr_ni, rr_nr, rr_z, rr_div, rr_rem, rr_lc, rr_mx, rr_mn, rr_ab, rr_no, gd_t, bc_t, bc_f, gd_tt, bc_tt, bc_ff, or_true, true_or, and_true, true_and, Nat.reduceAdd, mo_b_s e0, mo_b_s e1, mo_b_s e3, f27, Int.natCast_zero]
        · simp (disch := omega) only [X7_join, rr_p, rr_bp, rr_bb, rr_0, rr_lt, rr_blt, rr_le, rr_ble, rr_eq, rr_beq, rr_nl_n, rr_nl_s, rr_bnl_n, rr_bnl_s, rr_cond_t, rr_cond_f, rr_bcond_t, rr_bcond_f, rr_bon, rr_bcv, rr_cv, rr_g, rr_gr, rr_si, rr_sz, rr_sr, rr_al, rr_ld, rr_st, rr_rl, rr_rs, rr_ni, rr_nr, rr_z, rr_div, rr_rem, rr_lc, rr_mx, rr_mn, rr_ab, rr_no, gd_t, bc_t, bc_f, gd_tt, bc_tt, bc_ff, or_true, true_or, and_true, true_and, Nat.reduceAdd, mo_b_s e0, mo_b_s e1, mo_b_s e3, f27, mo_b_s e4, f0, Int.natCast_zero]
      by_cases ch : (layW xs 0 (un P R)).length ≤ 14
      · refine ⟨((layW xs 0 (un P R)).length : Int), (layW xs 0 (un P R), V, Q, d), ⟨⟨ch, hwl⟩, oV, oQ, od⟩, ?_, ?_⟩
        · intro x h hK
          obtain ⟨h1, hK1, r1, f1⟩ := K2 x h hK
          obtain ⟨h2, e2, hK2⟩ := (q6_takeTrial hK1 r1 (by omega)).2 ch
          exact ⟨h2, f1 _ _ e2, hK2⟩
        · intro m h hM
          obtain ⟨h1, hM1, r1, -, f1⟩ := M2 m h hM
          obtain ⟨h2, e2, hM2, f0⟩ := q7_toDesk hM1 r1 (by omega)
          exact ⟨h2, f1 ch h2 e2 hM2.1.1 f0, hM2⟩
      · refine ⟨-104, (D, V, Q, d), ho, ?_, ?_⟩
        · intro x h hK
          obtain ⟨h1, hK1, r1, f1⟩ := K2 x h hK
          exact ⟨h1, f1 _ _ ((q6_takeTrial hK1 r1 (by omega)).1 (by omega)), hK1⟩
        · intro m h hM
          obtain ⟨h1, hM1, r1, f1, -⟩ := M2 m h hM
          exact ⟨h1, f1 (by omega), hM1⟩
    · have cl := @clN_le (dW (vn V b.toNat).1 (vn V u.toNat).1) (dW (vn V b.toNat).1 (vn V v.toNat).1) (dW (vn V b.toNat).1 (vn V u.toNat).1).length
      refine ⟨-103, (D, V, Q, d), ho, ?_, ?_⟩
      · intro x h hK
        obtain ⟨h1, A, B, hB0, e0, hB, e1, hK1, r1, r2, e2⟩ := KK x h hK
        have tx := hB0.1.1
        have tx1 := hB.1.1
        exact ⟨h1, by simp (disch := omega) only [X6_join, rr_p, rr_bp, rr_bb, rr_0, rr_lt, rr_blt, rr_le, rr_ble, rr_eq, rr_beq, rr_nl_n, rr_nl_s, rr_bnl_n, rr_bnl_s, rr_cond_t, rr_cond_f, rr_bcond_t, rr_bcond_f, rr_bon, rr_bcv, rr_cv, rr_g, rr_gr, rr_si, rr_sz, rr_sr, rr_al, rr_ld, rr_st, rr_rl, rr_rs, rr_ni, rr_nr, rr_z, rr_div, rr_rem, rr_lc, rr_mx, rr_mn, rr_ab, rr_no, gd_t, bc_t, bc_f, gd_tt, bc_tt, bc_ff, or_true, true_or, and_true, true_and, Nat.reduceAdd, mo_b_s e0, mo_b_s e1, mo_b_s e2], hK1⟩
      · intro m h hM
        obtain ⟨h1, mT, e0, e1, hM1, w1⟩ := MM m h hM
        exact ⟨h1, by simp (disch := omega) only [X7_join, rr_p, rr_bp, rr_bb, rr_0, rr_lt, rr_blt, rr_le, rr_ble, rr_eq, rr_beq, rr_nl_n, rr_nl_s, rr_bnl_n, rr_bnl_s, rr_cond_t, rr_cond_f, rr_bcond_t, rr_bcond_f, rr_bon, rr_bcv, rr_cv, rr_g, rr_gr, rr_si, rr_sz, rr_sr, rr_al, rr_ld, rr_st, rr_rl, rr_rs, rr_ni, rr_nr, rr_z, rr_div, rr_rem, rr_lc, rr_mx, rr_mn, rr_ab, rr_no, gd_t, bc_t, bc_f, gd_tt, bc_tt, bc_ff, or_true, true_or, and_true, true_and, Nat.reduceAdd, mo_b_s e0, mo_b_s e1], hM1⟩
  · refine CJ.same (-101) ho ?_ ?_
    · intro x h hK
      obtain ⟨-, -, -, A, B, hB⟩ := id hK
      have tx := hB.1.1
      have e1 := k_both_n ho hK hb hu hv c
      have e0 := q6_versionOrNull hB oV1 hb
      dsimp only at e0
      by_cases cb : 0 ≤ b ∧ b < V.length
      · rw [if_pos cb] at e0
        simp (disch := omega) only [X6_join, rr_p, rr_bp, rr_bb, rr_0, rr_lt, rr_blt, rr_le, rr_ble, rr_eq, rr_beq, rr_nl_n, rr_nl_s, rr_bnl_n, rr_bnl_s, rr_cond_t, rr_cond_f, rr_bcond_t, rr_bcond_f, rr_bon, rr_bcv, rr_cv, rr_g, rr_gr, rr_si, rr_sz, rr_sr, rr_al, rr_ld, rr_st, rr_rl, rr_rs, rr_ni, rr_nr, rr_z, rr_div, rr_rem, rr_lc, rr_mx, rr_mn, rr_ab, rr_no, gd_t, bc_t, bc_f, gd_tt, bc_tt, bc_ff, or_true, true_or, and_true, true_and, Nat.reduceAdd, mo_b_s e0, mo_b_s e1]
      · rw [if_neg cb] at e0
        simp (disch := omega) only [X6_join, rr_p, rr_bp, rr_bb, rr_0, rr_lt, rr_blt, rr_le, rr_ble, rr_eq, rr_beq, rr_nl_n, rr_nl_s, rr_bnl_n, rr_bnl_s, rr_cond_t, rr_cond_f, rr_bcond_t, rr_bcond_f, rr_bon, rr_bcv, rr_cv, rr_g, rr_gr, rr_si, rr_sz, rr_sr, rr_al, rr_ld, rr_st, rr_rl, rr_rs, rr_ni, rr_nr, rr_z, rr_div, rr_rem, rr_lc, rr_mx, rr_mn, rr_ab, rr_no, gd_t, bc_t, bc_f, gd_tt, bc_tt, bc_ff, or_true, true_or, and_true, true_and, Nat.reduceAdd, mo_b_s e0]
    · intro m h hM
      have mT := hM.1.1
      have e0 := q7_areVersions hM ho hb hu hv
      dsimp only at e0
      rw [bc_f c] at e0
      simp (disch := omega) only [X7_join, rr_p, rr_bp, rr_bb, rr_0, rr_lt, rr_blt, rr_le, rr_ble, rr_eq, rr_beq, rr_nl_n, rr_nl_s, rr_bnl_n, rr_bnl_s, rr_cond_t, rr_cond_f, rr_bcond_t, rr_bcond_f, rr_bon, rr_bcv, rr_cv, rr_g, rr_gr, rr_si, rr_sz, rr_sr, rr_al, rr_ld, rr_st, rr_rl, rr_rs, rr_ni, rr_nr, rr_z, rr_div, rr_rem, rr_lc, rr_mx, rr_mn, rr_ab, rr_no, gd_t, bc_t, bc_f, gd_tt, bc_tt, bc_ff, or_true, true_or, and_true, true_and, Nat.reduceAdd, mo_b_s e0]
