theorem cS_ex {X Y : IV} (hX : okI X) (hY : okI Y) {i0 j0 : Nat} {lo : Int} : ∀ (n i j : Nat) (e : Int), cS X Y i0 j0 lo i j e → (X.2.2.1 - i) + (Y.2.2.1 - j) ≤ n → ∃ (i1 j1 : Nat) (e1 : Int), cS X Y i0 j0 lo i1 j1 e1 ∧ cX X Y i1 j1 e1 := by
  intro n
  induction n with
  | zero => intro i j e h hn; exact ⟨i, j, e, h, fun z => by omega, fun z => by omega⟩
  | succ n ih =>
    intro i j e h hn
    by_cases c1 : i < X.2.2.1 ∧ X.1 i ≤ e
    · exact ih (i + 1) j _ (cS_i hX h c1.1 c1.2) (by omega)
    · by_cases c2 : j < Y.2.2.1 ∧ Y.1 j ≤ e
      · exact ih i (j + 1) _ (cS_j hY h c2.1 c2.2) (by omega)
      · refine ⟨i, j, e, h, fun z => ?_, fun z => ?_⟩
        · by_cases x : X.1 i ≤ e
          · exact absurd ⟨z, x⟩ c1
          · omega
        · by_cases x : Y.1 j ≤ e
          · exact absurd ⟨z, x⟩ c2
          · omega
theorem tI_tg {b : Int} {P Q : List HK} (hP : OP b P) (hQ : OP b Q) : ∀ (n i j : Nat) (acc : List HK), tI (b + 28) P Q i j acc → ∃ i1 j1, tI (b + 28) P Q i1 j1 (tg P Q n i j acc) := by
  intro n
  induction n with
  | zero => intro i j acc h; exact ⟨i, j, h⟩
  | succ n ih =>
    intro i j acc h
    by_cases cl : i < P.length ∨ j < Q.length
    · have h2 := h
      obtain ⟨ep, ⟨t1, t2, -⟩, -⟩ := h2
      obtain ⟨i1, j1, e, hS, hX⟩ := cS_ex (okP hP.1) (okQ hQ.1) _ i j _ (cS0 (lo := gL (ivP P) (ivQ Q) i j) t1 t2) (Nat.le_refl _)
      obtain ⟨-, -, u6, u7, -, -⟩ := tI_step hP hQ h cl hS hX
      rw [tg_s cl hS hX]
      refine ih i1 j1 _ ?_
      by_cases ce : (gH P Q i j i1 j1 (gL (ivP P) (ivQ Q) i j) e).2.1 = (gH P Q i j i1 j1 (gL (ivP P) (ivQ Q) i j) e).2.2
      · rw [bc_t ce]; exact u6
      · rw [bc_f ce]; exact u7
    · rw [tg_e cl]; exact ⟨i, j, h⟩
theorem c_together (p q : Int) (hp : am_r p) (hq : am_r q) (s : SG) (ho : OKS s) : CJ (fun x => X6_together x p q) (fun m => X7_together m p q) s := by
  obtain ⟨D, V, Q, d⟩ := s
  obtain ⟨⟨hD1, hD2⟩, oV, oQ, od⟩ := id ho
  dsimp only at hD1 hD2 oV oQ od
  have oQ1 := oQ.1
  have hp2 := hp
  have hq2 := hq
  unfold am_r at hp hq
  by_cases c1 : 0 ≤ p ∧ p < Q.length
  · by_cases c2 : 0 ≤ q ∧ q < Q.length
    · obtain ⟨pn, rfl⟩ := Int.eq_ofNat_of_zero_le c1.1
      obtain ⟨qn, rfl⟩ := Int.eq_ofNat_of_zero_le c2.1
      have hpl : pn < Q.length := by omega
      have hql : qn < Q.length := by omega
      have oP := OP_mono (oQ.2 pn hpl) (b2 := 14 + 28 * (Q.length : Int)) (by omega)
      have oR := OP_mono (oQ.2 qn hql) (b2 := 14 + 28 * (Q.length : Int)) (by omega)
      have vP := OP_pV oP (by omega)
      have vR := OP_pV oR (by omega)
      have K1 : ∀ x h, KI h x (D, V, Q, d) → ∃ A B, KB h x V Q d A B ∧ X6_patchOrNull x (pn : Int) h = some (some (B pn), h) ∧ X6_patchOrNull x (qn : Int) h = some (some (B qn), h) ∧ X0_agree (x + 29) (some (B pn)) (some (B qn)) h = some (br (agW (pt Q pn) (pt Q qn)) 1 0, h) := by
        intro x h hK
        obtain ⟨-, -, -, A, B, hB⟩ := id hK
        have e1 := q6_patchOrNull hB oQ1 hp2
        dsimp only at e1
        rw [if_pos c1, Int.toNat_natCast] at e1
        have e2 := q6_patchOrNull hB oQ1 hq2
        dsimp only at e2
        rw [if_pos c2, Int.toNat_natCast] at e2
        have hQ := hB.2.2.2.1
        exact ⟨A, B, hB, e1, e2, q0_agree (hQ pn hpl).2.1 vP (hQ qn hql).2.1 vR oR.1 (fun j hj => (oR.2.2.2.2 j hj).1)⟩
      have M1 : ∀ m h, MI h m (D, V, Q, d) → ah_T h m = 17 ∧ X7_isPatch m (pn : Int) h = some (1, h) ∧ X7_isPatch m (qn : Int) h = some (1, h) ∧ mQ h m pn (pt Q pn) ∧ mQ h m qn (pt Q qn) ∧ X7_agree m (pn : Int) (qn : Int) h = some (br (agW (pt Q pn) (pt Q qn)) 1 0, h) := by
        intro m h hM
        have e1 := q7_isPatch hM oQ1 hp2
        dsimp only at e1
        rw [bc_t c1] at e1
        have e2 := q7_isPatch hM oQ1 hq2
        dsimp only at e2
        rw [bc_t c2] at e2
        have q1 := MI_Q hM ho (p := pn) hpl
        have q2 := MI_Q hM ho (p := qn) hql
        exact ⟨hM.1.1, e1, e2, q1, q2, q7_agree q1 q2 vP vR oP.1⟩
      by_cases ct : agW (pt Q pn) (pt Q qn)
      · obtain ⟨iE, jE, hT⟩ := tI_tg oP oR ((pt Q pn).length + (pt Q qn).length) 0 0 [] (tI_0 oP.1 oR.1)
        have K2 : ∀ x h, KI h x (D, V, Q, d) → ∃ (A B : Nat → Nat) (h1 : AH), KB h x V Q d A B ∧ KB h1 x V Q d A B ∧ KI h1 x (D, V, Q, d) ∧ kP h1 (x + 23) 20 56 (tg (pt Q pn) (pt Q qn) ((pt Q pn).length + (pt Q qn).length) 0 0 []) ∧ X6_patchOrNull x (pn : Int) h = some (some (B pn), h) ∧ X6_patchOrNull x (qn : Int) h = some (some (B qn), h) ∧ X0_agree (x + 29) (some (B pn)) (some (B qn)) h = some (1, h) ∧ ah_T h (x + 29) = 10 ∧ X0_putTogether (x + 29) (some (B pn)) (some (B qn)) (some (x + 23)) h = some ((), h1) := by
          intro x h hK
          obtain ⟨A, B, hB, e1, e2, e3⟩ := K1 x h hK
          rw [bc_t ct] at e3
          have hSc := hK.2.2.1
          have to := hSc.2.2.2.2.2.2.1
          obtain ⟨W3, hW3⟩ := hSc.2.2.2.2.2.1
          obtain ⟨-, y2, y3, y4⟩ := hB.2.2.2.1 pn hpl
          obtain ⟨-, z2, z3, z4⟩ := hB.2.2.2.1 qn hql
          obtain ⟨i, j, h1, e4, r4, g4, -⟩ := q0_putTogether y2 oP z2 oR (by omega) hW3 (by rw [show x + 23 + 6 = x + 29 by omega]; exact to) (by omega) (by omega)
          have hB1 := KB_fr hB g4 (by omega)
          have hK1 : KI h1 x (D, V, Q, d) := by
            refine ⟨kR_sm hK.1 (SM.fr g4 (by omega)), by rw [g4.2.1]; exact hK.2.1, ?_, A, B, hB1⟩
            obtain ⟨s1, s2, s3, s4, s5, s6, s7, s8⟩ := hSc
            obtain ⟨w1, q1⟩ := s1
            obtain ⟨w4, q4⟩ := s4
            obtain ⟨w5, q5⟩ := s5
            exact ⟨⟨w1, kR_sm q1 (SM.fr g4 (by omega))⟩, by rw [g4.2.1]; exact s2, kDs_sm s3 (SM.fr g4 (by omega)), ⟨w4, kP_fr q4 g4 (by omega)⟩, ⟨w5, kP_fr q5 g4 (by omega)⟩, ⟨_, r4⟩, by rw [g4.1]; exact s7, kLs_fr s8 g4⟩
          exact ⟨A, B, h1, hB, hB1, hK1, r4, e1, e2, e3, to, e4⟩
        have M2 : ∀ m h, MI h m (D, V, Q, d) → ∃ h1 h2, ah_T h m = 17 ∧ X7_isPatch m (pn : Int) h = some (1, h) ∧ X7_isPatch m (qn : Int) h = some (1, h) ∧ X7_agree m (pn : Int) (qn : Int) h = some (1, h) ∧ X7_newWork m h = some ((), h1) ∧ mo_lp mo_N (X7_together_L43 m (pn : Int) (qn : Int)) (0, 0, 0) h1 = some ((), h2) ∧ MI h2 m (D, V, Q, d) ∧ mW h2 m (tg (pt Q pn) (pt Q qn) ((pt Q pn).length + (pt Q qn).length) 0 0 []) := by
          intro m h hM
          obtain ⟨mT, e1, e2, qP, qR, e3⟩ := M1 m h hM
          rw [bc_t ct] at e3
          obtain ⟨h1, e4, w4, f4⟩ := q7_newWork hM.1
          have hM1 := MI_fr hM f4 (by omega)
          obtain ⟨h2, e5, w5, f5⟩ := q7_together (mQ_fr qP f4 (by omega)) (mQ_fr qR f4 (by omega)) oP oR (by omega) w4
          exact ⟨h1, h2, mT, e1, e2, e3, e4, e5, MI_fr hM1 f5 (by omega), w5⟩
        generalize hTe : tg (pt Q pn) (pt Q qn) ((pt Q pn).length + (pt Q qn).length) 0 0 [] = T at *
        have hsz : T.length ≤ 20 ∧ (fG T).length ≤ 56 ∧ (fC T).length ≤ 56 := by
          have hT2 := hT
          obtain ⟨ep, ⟨t1, t2, -⟩, -, -, ⟨t8, t9, t10⟩, -⟩ := hT2
          have a1 := oP.2.1
          have a2 := oR.2.1
          have a3 := oP.2.2.1
          have a4 := oR.2.2.1
          have a5 := oP.2.2.2.1
          have a6 := oR.2.2.2.1
          have b1 := @hgs_le (pt Q pn) iE
          have b2 := @hgs_le (pt Q qn) jE
          have b3 := @hcs_le (pt Q pn) iE
          have b4 := @hcs_le (pt Q qn) jE
          omega
        by_cases cq : Q.length < 12 ∧ T.length ≤ 10 ∧ (fG T).length ≤ 28 ∧ (fC T).length ≤ 28
        · obtain ⟨cq1, s1, s2, s3⟩ := cq
          have oT := OP_mono (tI_OP hT s1 s2 s3) (b2 := 14 + 28 * ((Q.length : Int) + 1)) (by omega)
          refine ⟨(Q.length : Int), (D, V, Q ++ [T], d), ⟨⟨hD1, hD2⟩, oV, OQ_add oQ cq1 oT, od⟩, ?_, ?_⟩
          · intro x h hK
            obtain ⟨A, B, h1, hB0, hB, hK1, r1, e1, e2, e3, to, e4⟩ := K2 x h hK
            have tx0 := hB0.1.1
            obtain ⟨-, ⟨-, -, -, -, -, -, -, -, g10, g11, -⟩, -⟩ := id hB0.1
            obtain ⟨tx, ⟨-, -, -, -, -, -, -, -, m10, m11, -⟩, -, -, -, -, -, -, o9⟩ := id hB.1
            have hSc := hK1.2.2.1
            have hR := hK1.1
            have nD := hK1.2.1
            dsimp only at hR nD
            have e5 := q6_hasRoom hB oQ1 (n := 1) (by omega)
            rw [bc_t (by omega)] at e5
            have tW := r1.1.1.1
            have e6 := q3_hunks r1
            have e7 := q3_allGoing r1
            have e8 := q3_allComing r1
            obtain ⟨h2, e9, r9, s9, v9⟩ := q6_newPatch (h := h1)
            have hSc1 := KSc_sm hSc (s9.mono (by omega) (by omega)) (s9.mono (by omega) (by omega))
            obtain ⟨h3, ea, ra, ga⟩ := q3_become r9 (kP_sm r1 (s9.mono (by omega) (by omega))) (by omega) s1 s2 s3
            have tn := r9.1.1.1
            have cx := s9 x (by omega) (by omega)
            have tx2 : ah_T h2 x = 16 := by rw [cx.1]; exact tx
            have px2 : ah_P h2 x 10 = some (x + 23) := by rw [cx.2.2.2.1]; exact m10
            have tx3 : ah_T h3 x = 16 := by rw [ga.1]; exact tx2
            obtain ⟨h4, eb, K4⟩ := k_added (D := D) hB cq1 ((s9.mono (by omega) (by omega)).tr (SM.fr ga (by omega))) ((s9.mono (by omega) (by omega)).tr (SM.fr ga (by omega))) ((s9.mono (by omega) (by omega)).tr (SM.fr ga (by omega))) (by rw [ga.2.2.2.2.1]; omega) (kR_sm hR ((s9.mono (by omega) (by omega)).tr (SM.fr ga (by omega)))) (by rw [ga.2.1, (s9 (x + 2) (by omega) (by omega)).2.1]; exact nD) (KSc_sm hSc1 (SM.fr ga (by omega)) (SM.fr ga (by omega))) ra
            exact ⟨h4, by simp (disch := omega) only [X6_together, X6_isPatchSize, rr_p, rr_bp, rr_bb, rr_0, rr_lt, rr_blt, rr_le, rr_ble, rr_eq, rr_beq, rr_nl_n, rr_nl_s, rr_bnl_n, rr_bnl_s, rr_cond_t, rr_cond_f, rr_bcond_t, rr_bcond_f, rr_bon, rr_bcv, rr_cv, rr_g, rr_gr, rr_si, rr_sz, rr_sr, rr_al, rr_ld, rr_st, rr_rl, rr_rs, rr_ni, rr_nr, rr_z, rr_div, rr_rem, rr_lc, rr_mx, rr_mn, rr_ab, rr_no, gd_t, bc_t, bc_f, gd_tt, bc_tt, bc_ff, or_true, true_or, and_true, true_and, Nat.reduceAdd, mo_b_s e1, mo_b_s e2, g10, g11, mo_b_s e3, mo_b_s e4, mo_b_s e5, m10, mo_b_s e6, mo_b_s e7, mo_b_s e8, mo_b_s e9, px2, mo_b_s ea, mo_b_s eb], K4⟩
          · intro m h hM
            obtain ⟨h1, h2, mT, e1, e2, e3, e4, e5, hM2, w2⟩ := M2 m h hM
            have mT2 := hM2.1.1
            have f8 := hM2.2.2.2.1.1
            dsimp only at f8
            obtain ⟨⟨z1, z2, z3⟩, -⟩ := id w2
            obtain ⟨h3, e6, M6, f6⟩ := q7_storeWork hM2 w2 cq1 oT.2.1 oT.2.2.1 oT.2.2.2.1 (OQ_b oQ)
            have e7 : X7_workFits m h2 = some (1, h2) := by simp (disch := omega) only [X7_workFits, rr_p, rr_bp, rr_bb, rr_0, rr_lt, rr_blt, rr_le, rr_ble, rr_eq, rr_beq, rr_nl_n, rr_nl_s, rr_bnl_n, rr_bnl_s, rr_cond_t, rr_cond_f, rr_bcond_t, rr_bcond_f, rr_bon, rr_bcv, rr_cv, rr_g, rr_gr, rr_si, rr_sz, rr_sr, rr_al, rr_ld, rr_st, rr_rl, rr_rs, rr_ni, rr_nr, rr_z, rr_div, rr_rem, rr_lc, rr_mx, rr_mn, rr_ab, rr_no, gd_t, bc_t, bc_f, gd_tt, bc_tt, bc_ff, or_true, true_or, and_true, true_and, Nat.reduceAdd, z1, z2, z3]
            exact ⟨h3, by simp (disch := omega) only [X7_together, rr_p, rr_bp, rr_bb, rr_0, rr_lt, rr_blt, rr_le, rr_ble, rr_eq, rr_beq, rr_nl_n, rr_nl_s, rr_bnl_n, rr_bnl_s, rr_cond_t, rr_cond_f, rr_bcond_t, rr_bcond_f, rr_bon, rr_bcv, rr_cv, rr_g, rr_gr, rr_si, rr_sz, rr_sr, rr_al, rr_ld, rr_st, rr_rl, rr_rs, rr_ni, rr_nr, rr_z, rr_div, rr_rem, rr_lc, rr_mx, rr_mn, rr_ab, rr_no, gd_t, bc_t, bc_f, gd_tt, bc_tt, bc_ff, or_true, true_or, and_true, true_and, Nat.reduceAdd, mo_b_s e1, mo_b_s e2, mo_b_s e3, mo_b_s e4, mo_b_s e5, f8, mo_b_s e7, mo_b_s e6], M6⟩
        · refine ⟨-104, (D, V, Q, d), ho, ?_, ?_⟩
          · intro x h hK
            obtain ⟨A, B, h1, hB0, hB, hK1, r1, e1, e2, e3, to, e4⟩ := K2 x h hK
            have tx0 := hB0.1.1
            obtain ⟨-, ⟨-, -, -, -, -, -, -, -, g10, g11, -⟩, -⟩ := id hB0.1
            obtain ⟨tx, ⟨-, -, -, -, -, -, -, -, m10, m11, -⟩, -, -, -, -, -, -, o9⟩ := id hB.1
            have e5 := q6_hasRoom hB oQ1 (n := 1) (by omega)
            have tW := r1.1.1.1
            have e6 := q3_hunks r1
            have e7 := q3_allGoing r1
            have e8 := q3_allComing r1
            refine ⟨h1, ?_, hK1⟩
            by_cases d1 : Q.length < 12
            · rw [bc_t (by omega)] at e5
              by_cases d2 : T.length ≤ 10
              · by_cases d3 : (fG T).length ≤ 28
                · have d4 : ¬ (fC T).length ≤ 28 := fun z => cq ⟨d1, d2, d3, z⟩
                  simp (disch := omega) only [X6_together, X6_isPatchSize, rr_p, rr_bp, rr_bb, rr_0, rr_lt, rr_blt, rr_le, rr_ble, rr_eq, rr_beq, rr_nl_n, rr_nl_s, rr_bnl_n, rr_bnl_s, rr_cond_t, rr_cond_f, rr_bcond_t, rr_bcond_f, rr_bon, rr_bcv, rr_cv, rr_g, rr_gr, rr_si, rr_sz, rr_sr, rr_al, rr_ld, rr_st, rr_rl, rr_rs, rr_ni, rr_nr, rr_z, rr_div, rr_rem, rr_lc, rr_mx, rr_mn, rr_ab, rr_no, gd_t, bc_t, bc_f, gd_tt, bc_tt, bc_ff, or_true, true_or, and_true, true_and, Nat.reduceAdd, mo_b_s e1, mo_b_s e2, g10, g11, mo_b_s e3, mo_b_s e4, mo_b_s e5, m10, mo_b_s e6, mo_b_s e7, mo_b_s e8]
                · simp (disch := omega) only [X6_together, X6_isPatchSize, rr_p, rr_bp, rr_bb, rr_0, rr_lt, rr_blt, rr_le, rr_ble, rr_eq, rr_beq, rr_nl_n, rr_nl_s, rr_bnl_n, rr_bnl_s, rr_cond_t, rr_cond_f, rr_bcond_t, rr_bcond_f, rr_bon, rr_bcv, rr_cv, rr_g, rr_gr, rr_si, rr_sz, rr_sr, rr_al, rr_ld, rr_st, rr_rl, rr_rs, rr_ni, rr_nr, rr_z, rr_div, rr_rem, rr_lc, rr_mx, rr_mn, rr_ab, rr_no, gd_t, bc_t, bc_f, gd_tt, bc_tt, bc_ff, or_true, true_or, and_true, true_and, Nat.reduceAdd, mo_b_s e1, mo_b_s e2, g10, g11, mo_b_s e3, mo_b_s e4, mo_b_s e5, m10, mo_b_s e6, mo_b_s e7, mo_b_s e8]
              · simp (disch := omega) only [X6_together, X6_isPatchSize, rr_p, rr_bp, rr_bb, rr_0, rr_lt, rr_blt, rr_le, rr_ble, rr_eq, rr_beq, rr_nl_n, rr_nl_s, rr_bnl_n, rr_bnl_s, rr_cond_t, rr_cond_f, rr_bcond_t, rr_bcond_f, rr_bon, rr_bcv, rr_cv, rr_g, rr_gr, rr_si, rr_sz, rr_sr, rr_al, rr_ld, rr_st, rr_rl, rr_rs, rr_ni, rr_nr, rr_z, rr_div, rr_rem, rr_lc, rr_mx, rr_mn, rr_ab, rr_no, gd_t, bc_t, bc_f, gd_tt, bc_tt, bc_ff, or_true, true_or, and_true, true_and, Nat.reduceAdd, mo_b_s e1, mo_b_s e2, g10, g11, mo_b_s e3, mo_b_s e4, mo_b_s e5, m10, mo_b_s e6, mo_b_s e7, mo_b_s e8]
            · rw [bc_f (by omega)] at e5
              simp (disch := omega) only [X6_together, rr_p, rr_bp, rr_bb, rr_0, rr_lt, rr_blt, rr_le, rr_ble, rr_eq, rr_beq, rr_nl_n, rr_nl_s, rr_bnl_n, rr_bnl_s, rr_cond_t, rr_cond_f, rr_bcond_t, rr_bcond_f, rr_bon, rr_bcv, rr_cv, rr_g, rr_gr, rr_si, rr_sz, rr_sr, rr_al, rr_ld, rr_st, rr_rl, rr_rs, rr_ni, rr_nr, rr_z, rr_div, rr_rem, rr_lc, rr_mx, rr_mn, rr_ab, rr_no, gd_t, bc_t, bc_f, gd_tt, bc_tt, bc_ff, or_true, true_or, and_true, true_and, Nat.reduceAdd, mo_b_s e1, mo_b_s e2, g10, g11, mo_b_s e3, mo_b_s e4, mo_b_s e5]
          · intro m h hM
            obtain ⟨h1, h2, mT, e1, e2, e3, e4, e5, hM2, w2⟩ := M2 m h hM
            have mT2 := hM2.1.1
            have f8 := hM2.2.2.2.1.1
            dsimp only at f8
            obtain ⟨⟨z1, z2, z3⟩, -⟩ := id w2
            have mT1 : ah_T h1 m = 17 := by
              obtain ⟨h1', e4', -, f4'⟩ := q7_newWork hM.1
              rw [e4] at e4'
              cases e4'
              rw [f4'.1]; exact mT
            refine ⟨h2, ?_, hM2⟩
            by_cases d1 : Q.length < 12
            · have e7 : X7_workFits m h2 = some (0, h2) := by
                by_cases d2 : T.length ≤ 10
                · by_cases d3 : (fG T).length ≤ 28
                  · have d4 : ¬ (fC T).length ≤ 28 := fun z => cq ⟨d1, d2, d3, z⟩
                    simp (disch := omega) only [X7_workFits, rr_p, rr_bp, rr_bb, rr_0, rr_lt, rr_blt, rr_le, rr_ble, rr_eq, rr_beq, rr_nl_n, rr_nl_s, rr_bnl_n, rr_bnl_s, rr_cond_t, rr_cond_f, rr_bcond_t, rr_bcond_f, rr_bon, rr_bcv, rr_cv, rr_g, rr_gr, rr_si, rr_sz, rr_sr, rr_al, rr_ld, rr_st, rr_rl, rr_rs, rr_ni, rr_nr, rr_z, rr_div, rr_rem, rr_lc, rr_mx, rr_mn, rr_ab, rr_no, gd_t, bc_t, bc_f, gd_tt, bc_tt, bc_ff, or_true, true_or, and_true, true_and, Nat.reduceAdd, z1, z2, z3]
                  · simp (disch := omega) only [X7_workFits, rr_p, rr_bp, rr_bb, rr_0, rr_lt, rr_blt, rr_le, rr_ble, rr_eq, rr_beq, rr_nl_n, rr_nl_s, rr_bnl_n, rr_bnl_s, rr_cond_t, rr_cond_f, rr_bcond_t, rr_bcond_f, rr_bon, rr_bcv, rr_cv, rr_g, rr_gr, rr_si, rr_sz, rr_sr, rr_al, rr_ld, rr_st, rr_rl, rr_rs, rr_ni, rr_nr, rr_z, rr_div, rr_rem, rr_lc, rr_mx, rr_mn, rr_ab, rr_no, gd_t, bc_t, bc_f, gd_tt, bc_tt, bc_ff, or_true, true_or, and_true, true_and, Nat.reduceAdd, z1, z2]
                · simp (disch := omega) only [X7_workFits, rr_p, rr_bp, rr_bb, rr_0, rr_lt, rr_blt, rr_le, rr_ble, rr_eq, rr_beq, rr_nl_n, rr_nl_s, rr_bnl_n, rr_bnl_s, rr_cond_t, rr_cond_f, rr_bcond_t, rr_bcond_f, rr_bon, rr_bcv, rr_cv, rr_g, rr_gr, rr_si, rr_sz, rr_sr, rr_al, rr_ld, rr_st, rr_rl, rr_rs, rr_ni, rr_nr, rr_z, rr_div, rr_rem, rr_lc, rr_mx, rr_mn, rr_ab, rr_no, gd_t, bc_t, bc_f, gd_tt, bc_tt, bc_ff, or_true, true_or, and_true, true_and, Nat.reduceAdd, z1]
              simp (disch := omega) only [X7_together, rr_p, rr_bp, rr_bb, rr_0, rr_lt, rr_blt, rr_le, rr_ble, rr_eq, rr_beq, rr_nl_n, rr_nl_s, rr_bnl_n, rr_bnl_s, rr_cond_t, rr_cond_f, rr_bcond_t, rr_bcond_f, rr_bon, rr_bcv, rr_cv, rr_g, rr_gr, rr_si, rr_sz, rr_sr, rr_al, rr_ld, rr_st, rr_rl, rr_rs, rr_ni, rr_nr, rr_z, rr_div, rr_rem, rr_lc, rr_mx, rr_mn, rr_ab, rr_no, gd_t, bc_t, bc_f, gd_tt, bc_tt, bc_ff, or_true, true_or, and_true, true_and, Nat.reduceAdd, mo_b_s e1, mo_b_s e2, mo_b_s e3, mo_b_s e4, mo_b_s e5, f8, mo_b_s e7]
            · simp (disch := omega) only [X7_together, rr_p, rr_bp, rr_bb, rr_0, rr_lt, rr_blt, rr_le, rr_ble, rr_eq, rr_beq, rr_nl_n, rr_nl_s, rr_bnl_n, rr_bnl_s, rr_cond_t, rr_cond_f, rr_bcond_t, rr_bcond_f, rr_bon, rr_bcv, rr_cv, rr_g, rr_gr, rr_si, rr_sz, rr_sr, rr_al, rr_ld, rr_st, rr_rl, rr_rs, rr_ni, rr_nr, rr_z, rr_div, rr_rem, rr_lc, rr_mx, rr_mn, rr_ab, rr_no, gd_t, bc_t, bc_f, gd_tt, bc_tt, bc_ff, or_true, true_or, and_true, true_and, Nat.reduceAdd, mo_b_s e1, mo_b_s e2, mo_b_s e3, mo_b_s e4, mo_b_s e5, f8]
      · refine CJ.same (-102) ho ?_ ?_
        · intro x h hK
          obtain ⟨A, B, hB, e1, e2, e3⟩ := K1 x h hK
          have o1 := hB.1.1
          have p11 := hB.1.2.1.2.2.2.2.2.2.2.2.2.1
          have to := hK.2.2.1.2.2.2.2.2.2.1
          rw [bc_f ct] at e3
          simp (disch := omega) only [X6_together, rr_p, rr_bp, rr_bb, rr_0, rr_lt, rr_blt, rr_le, rr_ble, rr_eq, rr_beq, rr_nl_n, rr_nl_s, rr_bnl_n, rr_bnl_s, rr_cond_t, rr_cond_f, rr_bcond_t, rr_bcond_f, rr_bon, rr_bcv, rr_cv, rr_g, rr_gr, rr_si, rr_sz, rr_sr, rr_al, rr_ld, rr_st, rr_rl, rr_rs, rr_ni, rr_nr, rr_z, rr_div, rr_rem, rr_lc, rr_mx, rr_mn, rr_ab, rr_no, gd_t, bc_t, bc_f, gd_tt, bc_tt, bc_ff, or_true, true_or, and_true, true_and, Nat.reduceAdd, mo_b_s e1, mo_b_s e2, p11, mo_b_s e3]
        · intro m h hM
          obtain ⟨mT, e1, e2, qP, qR, e3⟩ := M1 m h hM
          rw [bc_f ct] at e3
          simp (disch := omega) only [X7_together, rr_p, rr_bp, rr_bb, rr_0, rr_lt, rr_blt, rr_le, rr_ble, rr_eq, rr_beq, rr_nl_n, rr_nl_s, rr_bnl_n, rr_bnl_s, rr_cond_t, rr_cond_f, rr_bcond_t, rr_bcond_f, rr_bon, rr_bcv, rr_cv, rr_g, rr_gr, rr_si, rr_sz, rr_sr, rr_al, rr_ld, rr_st, rr_rl, rr_rs, rr_ni, rr_nr, rr_z, rr_div, rr_rem, rr_lc, rr_mx, rr_mn, rr_ab, rr_no, gd_t, bc_t, bc_f, gd_tt, bc_tt, bc_ff, or_true, true_or, and_true, true_and, Nat.reduceAdd, mo_b_s e1, mo_b_s e2, mo_b_s e3]
    · refine CJ.same (-101) ho ?_ ?_
      · intro x h hK
        obtain ⟨hR, nD, hSc, A, B, hB⟩ := id hK
        obtain ⟨⟨o1, ⟨p0, p1, p2, p4, p6, p7, p8, p9, p10, p11, p12⟩, o3, o4, o5, o6, o7, o8, o9⟩, ⟨f3, f5, f13⟩, hA, hQ, hM, hX⟩ := id hB
        have e1 := q6_patchOrNull hB oQ1 hp2
        dsimp only at e1
        rw [if_pos c1] at e1
        have e2 := q6_patchOrNull hB oQ1 hq2
        dsimp only at e2
        rw [if_neg c2] at e2
        simp (disch := omega) only [X6_together, rr_p, rr_bp, rr_bb, rr_0, rr_lt, rr_blt, rr_le, rr_ble, rr_eq, rr_beq, rr_nl_n, rr_nl_s, rr_bnl_n, rr_bnl_s, rr_cond_t, rr_cond_f, rr_bcond_t, rr_bcond_f, rr_bon, rr_bcv, rr_cv, rr_g, rr_gr, rr_si, rr_sz, rr_sr, rr_al, rr_ld, rr_st, rr_rl, rr_rs, rr_ni, rr_nr, rr_z, rr_div, rr_rem, rr_lc, rr_mx, rr_mn, rr_ab, rr_no, gd_t, bc_t, bc_f, gd_tt, bc_tt, bc_ff, or_true, true_or, and_true, true_and, Nat.reduceAdd, mo_b_s e1, mo_b_s e2]
      · intro m h hM
        have mT := hM.1.1
        have e1 := q7_isPatch hM oQ1 hp2
        dsimp only at e1
        rw [bc_t c1] at e1
        have e2 := q7_isPatch hM oQ1 hq2
        dsimp only at e2
        rw [bc_f c2] at e2
        simp (disch := omega) only [X7_together, rr_p, rr_bp, rr_bb, rr_0, rr_lt, rr_blt, rr_le, rr_ble, rr_eq, rr_beq, rr_nl_n, rr_nl_s, rr_bnl_n, rr_bnl_s, rr_cond_t, rr_cond_f, rr_bcond_t, rr_bcond_f, rr_bon, rr_bcv, rr_cv, rr_g, rr_gr, rr_si, rr_sz, rr_sr, rr_al, rr_ld, rr_st, rr_rl, rr_rs, rr_ni, rr_nr, rr_z, rr_div, rr_rem, rr_lc, rr_mx, rr_mn, rr_ab, rr_no, gd_t, bc_t, bc_f, gd_tt, bc_tt, bc_ff, or_true, true_or, and_true, true_and, Nat.reduceAdd, mo_b_s e1, mo_b_s e2]
  · refine CJ.same (-101) ho ?_ ?_
    · intro x h hK
      obtain ⟨hR, nD, hSc, A, B, hB⟩ := id hK
      obtain ⟨⟨o1, ⟨p0, p1, p2, p4, p6, p7, p8, p9, p10, p11, p12⟩, o3, o4, o5, o6, o7, o8, o9⟩, ⟨f3, f5, f13⟩, hA, hQ, hM, hX⟩ := id hB
      have e1 := q6_patchOrNull hB oQ1 hp2
      dsimp only at e1
      rw [if_neg c1] at e1
      by_cases c2 : 0 ≤ q ∧ q < Q.length
      · have e2 := q6_patchOrNull hB oQ1 hq2
        dsimp only at e2
        rw [if_pos c2] at e2
        simp (disch := omega) only [X6_together, rr_p, rr_bp, rr_bb, rr_0, rr_lt, rr_blt, rr_le, rr_ble, rr_eq, rr_beq, rr_nl_n, rr_nl_s, rr_bnl_n, rr_bnl_s, rr_cond_t, rr_cond_f, rr_bcond_t, rr_bcond_f, rr_bon, rr_bcv, rr_cv, rr_g, rr_gr, rr_si, rr_sz, rr_sr, rr_al, rr_ld, rr_st, rr_rl, rr_rs, rr_ni, rr_nr, rr_z, rr_div, rr_rem, rr_lc, rr_mx, rr_mn, rr_ab, rr_no, gd_t, bc_t, bc_f, gd_tt, bc_tt, bc_ff, or_true, true_or, and_true, true_and, Nat.reduceAdd, mo_b_s e1, mo_b_s e2]
      · have e2 := q6_patchOrNull hB oQ1 hq2
        dsimp only at e2
        rw [if_neg c2] at e2
        simp (disch := omega) only [X6_together, rr_p, rr_bp, rr_bb, rr_0, rr_lt, rr_blt, rr_le, rr_ble, rr_eq, rr_beq, rr_nl_n, rr_nl_s, rr_bnl_n, rr_bnl_s, rr_cond_t, rr_cond_f, rr_bcond_t, rr_bcond_f, rr_bon, rr_bcv, rr_cv, rr_g, rr_gr, rr_si, rr_sz, rr_sr, rr_al, rr_ld, rr_st, rr_rl, rr_rs, rr_ni, rr_nr, rr_z, rr_div, rr_rem, rr_lc, rr_mx, rr_mn, rr_ab, rr_no, gd_t, bc_t, bc_f, gd_tt, bc_tt, bc_ff, or_true, true_or, and_true, true_and, Nat.reduceAdd, mo_b_s e1, mo_b_s e2]
    · intro m h hM
      have mT := hM.1.1
      have e1 := q7_isPatch hM oQ1 hp2
      dsimp only at e1
      rw [bc_f c1] at e1
      simp (disch := omega) only [X7_together, rr_p, rr_bp, rr_bb, rr_0, rr_lt, rr_blt, rr_le, rr_ble, rr_eq, rr_beq, rr_nl_n, rr_nl_s, rr_bnl_n, rr_bnl_s, rr_cond_t, rr_cond_f, rr_bcond_t, rr_bcond_f, rr_bon, rr_bcv, rr_cv, rr_g, rr_gr, rr_si, rr_sz, rr_sr, rr_al, rr_ld, rr_st, rr_rl, rr_rs, rr_ni, rr_nr, rr_z, rr_div, rr_rem, rr_lc, rr_mx, rr_mn, rr_ab, rr_no, gd_t, bc_t, bc_f, gd_tt, bc_tt, bc_ff, or_true, true_or, and_true, true_and, Nat.reduceAdd, mo_b_s e1]
