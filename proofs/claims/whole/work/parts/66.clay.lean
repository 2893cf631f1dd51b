theorem hk_drop {W : List HK} {k i : Nat} : hk (W.drop k) i = hk W (k + i) := by
  unfold hk; simp only [List.getD_eq_getElem?_getD]; rw [List.getElem?_drop]
theorem sW_drop {W : List HK} (h : sW W) {k : Nat} {p : Int} (hp : k < W.length → p ≤ (hk W k).1) : sep p (W.drop k) := by
  refine sW_sep ?_ (fun i hi => ?_)
  · by_cases c : k < W.length
    · right; rw [hk_drop]; exact hp c
    · left; exact List.drop_eq_nil_of_le (by omega)
  · rw [List.length_drop] at hi
    rw [hk_drop, hk_drop]; exact h.2 (k + i) (by omega)
theorem mem_hk {W : List HK} {q : HK} (h : q ∈ W) : ∃ i, i < W.length ∧ hk W i = q := by
  obtain ⟨i, hi, e⟩ := List.getElem_of_mem h
  exact ⟨i, hi, by unfold hk; rw [List.getD_eq_getElem?_getD, List.getElem?_eq_getElem hi]; exact e⟩
theorem wL_rpl {xs c : List Int} {p : Int} {n : Nat} (hx : wL xs) (hc : wL c) : wL (rpl xs p n c) := wL_app (wL_app (wL_take hx _) hc) (wL_drop hx _)
theorem wL_layR {xs : List Int} (hx : wL xs) : ∀ {W : List HK}, (∀ q ∈ W, wL q.2.2) → wL (layR xs W) := by
  intro W
  induction W with
  | nil => intro _; exact hx
  | cons q W ih => intro h; exact wL_rpl (ih (fun r hr => h r (by simp [hr]))) (h q (by simp))
theorem q6_takeTrial {h : AH} {x : Nat} {D ts : List Int} {V : List VR} {Q : List (List HK)} {d : Nat} (hK : KI h x (D, V, Q, d)) (hT : kR h (x + 3) ts) (hl : ts.length ≤ 42) : (14 < ts.length → X6_takeTrialToDesk x h = some (-104, h)) ∧ (ts.length ≤ 14 → ∃ h', X6_takeTrialToDesk x h = some ((ts.length : Int), h') ∧ KI h' x (ts, V, Q, d)) := by
  obtain ⟨hR, nD, hSc, A, B, hB⟩ := id hK
  obtain ⟨⟨o1, ⟨p0, p1, p2, p4, p6, p7, p8, p9, p10, p11, p12⟩, o3, o4, o5, o6, o7, o8, o9⟩, ⟨f3, f5, f13⟩, hA, hQ, hM, hX⟩ := id hB
  have tR := hR.1
  have tT := hT.1
  have e1 := q4_size hT
  refine ⟨fun hc => by simp (disch := omega) only [X6_takeTrialToDesk, rr_p, rr_bp, rr_bb, rr_0, rr_lt, rr_blt, rr_le, rr_ble, rr_eq, rr_beq, rr_nl_n, rr_nl_s, rr_bnl_n, rr_bnl_s, rr_cond_t, rr_cond_f, rr_bcond_t, rr_bcond_f, rr_bon, rr_bcv, rr_cv, rr_g, rr_gr, rr_si, rr_sz, rr_sr, rr_al, rr_ld, rr_st, rr_rl, rr_rs, rr_ni, rr_nr, rr_z, rr_div, rr_rem, rr_lc, rr_mx, rr_mn, rr_ab, rr_no, gd_t, bc_t, bc_f, gd_tt, bc_tt, bc_ff, or_true, true_or, and_true, true_and, Nat.reduceAdd, p1, mo_b_s e1], fun hc => ?_⟩
  obtain ⟨h', e2, r2, g2⟩ := q4_become hR hT (by omega) (by rw [show x + 1 + 1 = x + 2 by omega, nD]; omega)
  have e3 := q4_size r2
  have tR2 := r2.1
  have tx : ah_T h' x = 16 := by rw [g2.1]; exact o1
  have px : ah_P h' x 0 = some (x + 1) := by rw [g2.2.2.1]; exact p0
  exact ⟨h', by simp (disch := omega) only [X6_takeTrialToDesk, rr_p, rr_bp, rr_bb, rr_0, rr_lt, rr_blt, rr_le, rr_ble, rr_eq, rr_beq, rr_nl_n, rr_nl_s, rr_bnl_n, rr_bnl_s, rr_cond_t, rr_cond_f, rr_bcond_t, rr_bcond_f, rr_bon, rr_bcv, rr_cv, rr_g, rr_gr, rr_si, rr_sz, rr_sr, rr_al, rr_ld, rr_st, rr_rl, rr_rs, rr_ni, rr_nr, rr_z, rr_div, rr_rem, rr_lc, rr_mx, rr_mn, rr_ab, rr_no, gd_t, bc_t, bc_f, gd_tt, bc_tt, bc_ff, or_true, true_or, and_true, true_and, Nat.reduceAdd, p0, p1, px, mo_b_s e1, mo_b_s e2, mo_b_s e3], KI_desk hK g2 r2⟩
theorem q7_layAll {h : AH} {m p : Nat} {W : List HK} {xs : List Int} (hQ : mQ h m p W) (hR : mRow h m xs) (hs : sW W) (lx : xs.length ≤ 14) (hf : ∀ i : Nat, i < W.length → (hk W i).1 + (hk W i).2.1.length ≤ xs.length) : ∃ h', mo_lp mo_N (X7_lay_L35 m (p : Int)) ((W.length : Int) - 1) h = some ((), h') ∧ mRow h' m (layR xs W) ∧ MF m 20 21 27 28 h h' := by
  have l0 := hQ.2.2.1
  have l1 := hQ.2.2.2.1
  have l3 := hQ.2.2.2.2.2
  have hfd : ∀ k, ∀ q ∈ W.drop k, q.1 + (q.2.1.length : Int) ≤ xs.length := by
    intro k q hq
    obtain ⟨i, hi, e⟩ := mem_hk (List.mem_of_mem_drop hq)
    rw [← e]; exact hf i hi
  have hL := lp_inv (F := X7_lay_L35 m (p : Int)) (fun i h' => -1 ≤ i ∧ i < W.length ∧ mRow h' m (layR xs (W.drop (i + 1).toNat)) ∧ MF m 20 21 27 28 h h') (fun i => (i + 1).toNat) (fun _ h' => mRow h' m (layR xs W) ∧ MF m 20 21 27 28 h h') ?_ mo_N ((W.length : Int) - 1) h ⟨by omega, by omega, ?_, MF.rf⟩ (by rw [mo_N_v]; omega)
  · obtain ⟨_, h', e, q⟩ := hL
    exact ⟨h', e, q⟩
  · intro i h' ⟨i1, i2, iR, iF⟩
    by_cases hi : i < 0
    · right
      refine ⟨(), h', by simp (disch := omega) only [X7_lay_L35, rr_p, rr_bp, rr_bb, rr_0, rr_lt, rr_blt, rr_le, rr_ble, rr_eq, rr_beq, rr_nl_n, rr_nl_s, rr_bnl_n, rr_bnl_s, rr_cond_t, rr_cond_f, rr_bcond_t, rr_bcond_f, rr_bon, rr_bcv, rr_cv, rr_g, rr_gr, rr_si, rr_sz, rr_sr, rr_al, rr_ld, rr_st, rr_rl, rr_rs, rr_ni, rr_nr, rr_z, rr_div, rr_rem, rr_lc, rr_mx, rr_mn, rr_ab, rr_no, gd_t, bc_t, bc_f, gd_tt, bc_tt, bc_ff, or_true, true_or, and_true, true_and, Nat.reduceAdd], ?_, iF⟩
      rw [show (i + 1).toNat = 0 by omega] at iR
      exact iR
    · left
      obtain ⟨k, rfl⟩ := Int.eq_ofNat_of_zero_le (show 0 ≤ i by omega)
      have hkl : k < W.length := by omega
      have hQ' := mQ_fr hQ iF (by omega)
      have mT := hQ'.1.1
      obtain ⟨p8, t8, n8⟩ := ms8 hQ'.1
      obtain ⟨b1, b2, b3⟩ := mQ_a hQ' (i := (k : Int)) (by omega) (by omega)
      rw [Int.toNat_natCast] at b1 b2 b3
      have hp0 := hs.1 k hkl
      have hfe := hf k hkl
      have hsd : sep ((hk W k).1 + (hk W k).2.1.length) (W.drop (k + 1)) := sW_drop hs (fun c => by have := hs.2 k c; omega)
      rw [show ((k : Int) + 1).toNat = k + 1 by omega] at iR
      have hle := (lay_eq (xs := xs) (by omega) hfe hsd (hfd (k + 1))).2
      have hln := layR_len (xs := xs) (by omega) hfe hsd (hfd (k + 1))
      have hfc : (fC (W.drop (k + 1))).length + (hk W k).2.2.length ≤ (fC W).length := by
        have e : fC W = fC (W.take k) ++ fC (W.drop k) := by rw [← fC_app, List.take_append_drop]
        rw [hkd_s hkl] at e
        have e2 := congrArg List.length e
        have e3 : (fC (hk W k :: W.drop (k + 1))).length = (hk W k).2.2.length + (fC (W.drop (k + 1))).length := by simp [fC]
        rw [List.length_append] at e2
        omega
      have hlR : (hk W k).1.toNat + (hk W k).2.1.length ≤ (layR xs (W.drop (k + 1))).length := by
        have := congrArg List.length hle
        rw [List.length_take, List.length_take] at this
        omega
      obtain ⟨h2, e2, r2, f2⟩ := q7_layHunk hQ' iR hkl (a := (hk W k).1) hp0 (by omega) (by omega) (by omega)
      refine ⟨(k : Int) + -1, h2, by simp (disch := omega) only [X7_lay_L35, rr_p, rr_bp, rr_bb, rr_0, rr_lt, rr_blt, rr_le, rr_ble, rr_eq, rr_beq, rr_nl_n, rr_nl_s, rr_bnl_n, rr_bnl_s, rr_cond_t, rr_cond_f, rr_bcond_t, rr_bcond_f, rr_bon, rr_bcv, rr_cv, rr_g, rr_gr, rr_si, rr_sz, rr_sr, rr_al, rr_ld, rr_st, rr_rl, rr_rs, rr_ni, rr_nr, rr_z, rr_div, rr_rem, rr_lc, rr_mx, rr_mn, rr_ab, rr_no, gd_t, bc_t, bc_f, gd_tt, bc_tt, bc_ff, or_true, true_or, and_true, true_and, Nat.reduceAdd, p8, b1, mo_b_s e2], ⟨by omega, by omega, ?_, iF.tr f2 (by omega)⟩, by omega⟩
      rw [show ((k : Int) + -1 + 1).toNat = k by omega, hkd_s hkl]
      exact r2
  · rw [show ((W.length : Int) - 1 + 1).toNat = W.length by omega, List.drop_length]; exact hR
theorem c_lay (p : Int) (hp : am_r p) (s : SG) (ho : OKS s) : CJ (fun x => X6_lay x p) (fun m => X7_lay m p) s := by
  obtain ⟨D, V, Q, d⟩ := s
  obtain ⟨⟨hD1, hD2⟩, oV, oQ, od⟩ := id ho
  dsimp only at hD1 hD2 oV oQ od
  have oQ1 := oQ.1
  have hp2 := hp
  unfold am_r at hp
  by_cases c1 : 0 ≤ p ∧ p < Q.length
  · obtain ⟨pn, rfl⟩ := Int.eq_ofNat_of_zero_le c1.1
    have hpl : pn < Q.length := by omega
    have hOP := oQ.2 pn hpl
    have hPV := OP_pV hOP (by omega)
    by_cases cf : fitW D (pt Q pn)
    · have hf : ∀ i : Nat, i < (pt Q pn).length → (hk (pt Q pn) i).1 + (hk (pt Q pn) i).2.1.length ≤ D.length := fun i hi => (cf i hi).1
      have hfm : ∀ q ∈ pt Q pn, q.1 + (q.2.1.length : Int) ≤ D.length := by
        intro q hq
        obtain ⟨i, hi, e⟩ := mem_hk hq
        rw [← e]; exact hf i hi
      have hsep : sep 0 (pt Q pn) := by
        have := sW_drop hOP.1 (k := 0) (p := 0) (fun c => hOP.1.1 0 c)
        simpa using this
      have hle := (lay_eq (xs := D) (W := pt Q pn) (p := 0) (by omega) (by omega) hsep hfm).1
      have hle : layR D (pt Q pn) = layW D 0 (pt Q pn) := by simpa using hle
      have hln := layR_len (xs := D) (W := pt Q pn) (p := 0) (by omega) (by omega) hsep hfm
      have hl3 := hOP.2.2.2.1
      have hwl : wL (layR D (pt Q pn)) := wL_layR hD2 (fun q hq => by
        obtain ⟨i, hi, e⟩ := mem_hk hq
        rw [← e]; exact (hOP.2.2.2.2 i hi).2.1)
      -- the class
      have kk : ∀ x h, KI h x (D, V, Q, d) → ∃ h1, KI h1 x (D, V, Q, d) ∧ kR h1 (x + 3) (layR D (pt Q pn)) ∧ ∀ r h2, X6_takeTrialToDesk x h1 = some (r, h2) → X6_lay x (pn : Int) h = some (r, h2) := by
        intro x h hK
        obtain ⟨hR, nD, hSc, A, B, hB⟩ := id hK
        obtain ⟨⟨o1, ⟨p0, p1, p2, p4, p6, p7, p8, p9, p10, p11, p12⟩, o3, o4, o5, o6, o7, o8, o9⟩, ⟨f3, f5, f13⟩, hA, hQ, hM, hX⟩ := id hB
        dsimp only at hR hB hQ
        have tR := hR.1
        have e1 := q6_patchOrNull hB oQ1 hp2
        rw [if_pos c1, Int.toNat_natCast] at e1
        obtain ⟨y1, y2, y3, y4⟩ := hQ pn hpl
        have t0 := y2.1.1.1
        have e2 := q3_fitsOn y2 hPV hR (wL_pL hD2) hOP.1.1
        rw [bc_t cf] at e2
        obtain ⟨ts, hT⟩ := hSc.1
        have nT := hSc.2.1
        obtain ⟨h1, e3, r3, g3⟩ := q3_layOn y2 hR hT (by omega) (by omega) (by omega) hOP.1 hf (by rw [show x + 3 + 1 = x + 4 by omega, nT]; omega)
        rw [← hle] at r3
        have hK1 := KI_scr hK g3 (by omega) (KSc_tr hSc g3 r3)
        have tx : ah_T h1 x = 16 := by rw [g3.1]; exact o1
        refine ⟨h1, hK1, r3, fun r h2 e4 => ?_⟩
        simp (disch := omega) only [X6_lay, rr_p, rr_bp, rr_bb, rr_0, rr_lt, rr_blt, rr_le, rr_ble, rr_eq, rr_beq, rr_nl_n, rr_nl_s, rr_bnl_n, rr_bnl_s, rr_cond_t, rr_cond_f, rr_bcond_t, rr_bcond_f, rr_bon, rr_bcv, rr_cv, rr_g, rr_gr, rr_si, rr_sz, rr_sr, rr_al, rr_ld, rr_st, rr_rl, rr_rs, rr_ni, rr_nr, rr_z, rr_div, rr_rem, rr_lc, rr_mx, rr_mn, rr_ab, rr_no, gd_t, bc_t, bc_f, gd_tt, bc_tt, bc_ff, or_true, true_or, and_true, true_and, Nat.reduceAdd, p0, p1, mo_b_s e1, mo_b_s e2, mo_b_s e3, mo_b_s e4]
      -- the model
      have mm : ∀ m h, MI h m (D, V, Q, d) → ∃ h1, MI h1 m (D, V, Q, d) ∧ mRow h1 m (layR D (pt Q pn)) ∧ (14 < (layR D (pt Q pn)).length → X7_lay m (pn : Int) h = some (-104, h1)) ∧ ((layR D (pt Q pn)).length ≤ 14 → ∀ h2, X7_toDesk m h1 = some ((), h2) → ah_T h2 m = 17 → ah_F h2 m 0 = ((layR D (pt Q pn)).length : Int) → X7_lay m (pn : Int) h = some (((layR D (pt Q pn)).length : Int), h2)) := by
        intro m h hM
        have mT := hM.1.1
        have e1 := q7_isPatch hM oQ1 hp2
        dsimp only at e1
        rw [bc_t c1] at e1
        obtain ⟨h1, e2, r2, f2⟩ := q7_workOnDesk (D := D) hM.1 hM.2.1 hD1
        have hM1 := MI_fr hM f2 (by omega)
        have mT1 := hM1.1.1
        have hQ1 := MI_Q hM1 ho (p := pn) hpl
        dsimp only at hQ1
        have e3 := q7_fitsWork hQ1 hPV r2 (wL_pL hD2) (by omega) hOP.1.1
        rw [bc_t cf] at e3
        obtain ⟨h3, e4, r4, f4⟩ := q7_layAll hQ1 r2 hOP.1 hD1 hf
        have hM3 := MI_fr hM1 f4 (by omega)
        have mT3 := hM3.1.1
        have f27 := r4.1
        have w1 := hQ1.2.1.1
        obtain ⟨p7, t7, n7⟩ := ms7 hM1.1
        refine ⟨h3, hM3, r4, fun hc => ?_, fun hc h4 e5 t4 z4 => ?_⟩
        · simp (disch := omega) only [X7_lay, rr_p, rr_bp, rr_bb, rr_0, rr_lt, rr_blt, rr_le, rr_ble, rr_eq, rr_beq, rr_nl_n, rr_nl_s, rr_bnl_n, rr_bnl_s, rr_cond_t, rr_cond_f, rr_bcond_t, rr_bcond_f, rr_bon, rr_bcv, rr_cv, rr_g, rr_gr, rr_si, rr_sz, rr_sr, rr_al, rr_ld, rr_st, rr_rl, rr_rs, rr_ni, rr_nr, rr_z, rr_div, rr_rem, rr_lc, rr_mx, rr_mn, rr_ab, rr_no, gd_t, bc_t, bc_f, gd_tt, bc_tt, bc_ff, or_true, true_or, and_true, true_and, Nat.reduceAdd, p7, w1, f27, mo_b_s e1, mo_b_s e2, mo_b_s e3, mo_b_s e4]
        · simp (disch := omega) only [X7_lay, rr_p, rr_bp, rr_bb, rr_0, rr_lt, rr_blt, rr_le, rr_ble, rr_eq, rr_beq, rr_nl_n, rr_nl_s, rr_bnl_n, rr_bnl_s, rr_cond_t, rr_cond_f, rr_bcond_t, rr_bcond_f, rr_bon, rr_bcv, rr_cv, rr_g, rr_gr, rr_si, rr_sz, rr_sr, rr_al, rr_ld, rr_st, rr_rl, rr_rs, rr_ni, rr_nr, rr_z, rr_div, rr_rem, rr_lc, rr_mx, rr_mn, rr_ab, rr_no, gd_t, bc_t, bc_f, gd_tt, bc_tt, bc_ff, or_true, true_or, and_true, true_and, Nat.reduceAdd, p7, w1, f27, mo_b_s e1, mo_b_s e2, mo_b_s e3, mo_b_s e4, mo_b_s e5, z4]
      by_cases cl : (layR D (pt Q pn)).length ≤ 14
      · refine ⟨((layR D (pt Q pn)).length : Int), (layR D (pt Q pn), V, Q, d), ⟨⟨cl, hwl⟩, oV, oQ, od⟩, ?_, ?_⟩
        · intro x h hK
          obtain ⟨h1, K1, R1, E1⟩ := kk x h hK
          obtain ⟨h2, e2, K2⟩ := (q6_takeTrial K1 R1 (by omega)).2 cl
          exact ⟨h2, E1 _ _ e2, K2⟩
        · intro m h hM
          obtain ⟨h1, M1, R1, -, E1⟩ := mm m h hM
          obtain ⟨h2, e2, M2, z2⟩ := q7_toDesk M1 R1 (by omega)
          exact ⟨h2, E1 cl h2 e2 M2.1.1 z2, M2⟩
      · refine ⟨-104, (D, V, Q, d), ho, ?_, ?_⟩
        · intro x h hK
          obtain ⟨h1, K1, R1, E1⟩ := kk x h hK
          exact ⟨h1, E1 _ _ ((q6_takeTrial K1 R1 (by omega)).1 (by omega)), K1⟩
        · intro m h hM
          obtain ⟨h1, M1, R1, E1, -⟩ := mm m h hM
          exact ⟨h1, E1 (by omega), M1⟩
    · refine ⟨-103, (D, V, Q, d), ho, ?_, ?_⟩
      · intro x h hK
        obtain ⟨hR, nD, hSc, A, B, hB⟩ := id hK
        obtain ⟨⟨o1, ⟨p0, p1, p2, p4, p6, p7, p8, p9, p10, p11, p12⟩, o3, o4, o5, o6, o7, o8, o9⟩, ⟨f3, f5, f13⟩, hA, hQ, hM, hX⟩ := id hB
        dsimp only at hR hB hQ
        have tR := hR.1
        have e1 := q6_patchOrNull hB oQ1 hp2
        rw [if_pos c1, Int.toNat_natCast] at e1
        obtain ⟨y1, y2, y3, y4⟩ := hQ pn hpl
        have t0 := y2.1.1.1
        have e2 := q3_fitsOn y2 hPV hR (wL_pL hD2) hOP.1.1
        rw [bc_f cf] at e2
        exact ⟨h, by simp (disch := omega) only [X6_lay, rr_p, rr_bp, rr_bb, rr_0, rr_lt, rr_blt, rr_le, rr_ble, rr_eq, rr_beq, rr_nl_n, rr_nl_s, rr_bnl_n, rr_bnl_s, rr_cond_t, rr_cond_f, rr_bcond_t, rr_bcond_f, rr_bon, rr_bcv, rr_cv, rr_g, rr_gr, rr_si, rr_sz, rr_sr, rr_al, rr_ld, rr_st, rr_rl, rr_rs, rr_ni, rr_nr, rr_z, rr_div, rr_rem, rr_lc, rr_mx, rr_mn, rr_ab, rr_no, gd_t, bc_t, bc_f, gd_tt, bc_tt, bc_ff, or_true, true_or, and_true, true_and, Nat.reduceAdd, p0, mo_b_s e1, mo_b_s e2], hK⟩
      · intro m h hM
        have mT := hM.1.1
        have e1 := q7_isPatch hM oQ1 hp2
        dsimp only at e1
        rw [bc_t c1] at e1
        obtain ⟨h1, e2, r2, f2⟩ := q7_workOnDesk (D := D) hM.1 hM.2.1 hD1
        have hM1 := MI_fr hM f2 (by omega)
        have mT1 := hM1.1.1
        have e3 := q7_fitsWork (MI_Q hM1 ho (p := pn) hpl) hPV r2 (wL_pL hD2) (by omega) hOP.1.1
        dsimp only at e3
        rw [bc_f cf] at e3
        exact ⟨h1, by simp (disch := omega) only [X7_lay, rr_p, rr_bp, rr_bb, rr_0, rr_lt, rr_blt, rr_le, rr_ble, rr_eq, rr_beq, rr_nl_n, rr_nl_s, rr_bnl_n, rr_bnl_s, rr_cond_t, rr_cond_f, rr_bcond_t, rr_bcond_f, rr_bon, rr_bcv, rr_cv, rr_g, rr_gr, rr_si, rr_sz, rr_sr, rr_al, rr_ld, rr_st, rr_rl, rr_rs, rr_ni, rr_nr, rr_z, rr_div, rr_rem, rr_lc, rr_mx, rr_mn, rr_ab, rr_no, gd_t, bc_t, bc_f, gd_tt, bc_tt, bc_ff, or_true, true_or, and_true, true_and, Nat.reduceAdd, mo_b_s e1, mo_b_s e2, mo_b_s e3], hM1⟩
  · refine CJ.same (-101) ho ?_ ?_
    · intro x h hK
      obtain ⟨hR, nD, hSc, A, B, hB⟩ := id hK
      obtain ⟨⟨o1, ⟨p0, p1, p2, p4, p6, p7, p8, p9, p10, p11, p12⟩, o3, o4, o5, o6, o7, o8, o9⟩, ⟨f3, f5, f13⟩, hA, hQ, hM, hX⟩ := id hB
      have e1 := q6_patchOrNull hB oQ1 hp2
      rw [if_neg c1] at e1
      simp (disch := omega) only [X6_lay, rr_p, rr_bp, rr_bb, rr_0, rr_lt, rr_blt, rr_le, rr_ble, rr_eq, rr_beq, rr_nl_n, rr_nl_s, rr_bnl_n, rr_bnl_s, rr_cond_t, rr_cond_f, rr_bcond_t, rr_bcond_f, rr_bon, rr_bcv, rr_cv, rr_g, rr_gr, rr_si, rr_sz, rr_sr, rr_al, rr_ld, rr_st, rr_rl, rr_rs, rr_ni, rr_nr, rr_z, rr_div, rr_rem, rr_lc, rr_mx, rr_mn, rr_ab, rr_no, gd_t, bc_t, bc_f, gd_tt, bc_tt, bc_ff, or_true, true_or, and_true, true_and, Nat.reduceAdd, mo_b_s e1]
    · intro m h hM
      have mT := hM.1.1
      have e1 := q7_isPatch hM oQ1 hp2
      dsimp only at e1
      rw [bc_f c1] at e1
      simp (disch := omega) only [X7_lay, rr_p, rr_bp, rr_bb, rr_0, rr_lt, rr_blt, rr_le, rr_ble, rr_eq, rr_beq, rr_nl_n, rr_nl_s, rr_bnl_n, rr_bnl_s, rr_cond_t, rr_cond_f, rr_bcond_t, rr_bcond_f, rr_bon, rr_bcv, rr_cv, rr_g, rr_gr, rr_si, rr_sz, rr_sr, rr_al, rr_ld, rr_st, rr_rl, rr_rs, rr_ni, rr_nr, rr_z, rr_div, rr_rem, rr_lc, rr_mx, rr_mn, rr_ab, rr_no, gd_t, bc_t, bc_f, gd_tt, bc_tt, bc_ff, or_true, true_or, and_true, true_and, Nat.reduceAdd, mo_b_s e1]
