/-- patch p in the tables -/
def mQ (h : AH) (m p : Nat) (W : List HK) : Prop := mS h m ∧ mPt h m p W ∧ p < 12 ∧ W.length ≤ 10 ∧ (fG W).length ≤ 28 ∧ (fC W).length ≤ 28
theorem mQ_fr {m al ah_ fl fh p : Nat} {h h' : AH} {W : List HK} (hQ : mQ h m p W) (f : MF m al ah_ fl fh h h') (q : 13 ≤ al ∨ ah_ ≤ 7) : mQ h' m p W := ⟨mS_fr hQ.1 f, mPt_fr hQ.2.1 f q, hQ.2.2⟩
theorem MI_Q {h : AH} {m : Nat} {s : SG} (hM : MI h m s) (ho : OKS s) {p : Nat} (hp : p < s.2.2.1.length) : mQ h m p (pt s.2.2.1 p) := by
  have := OQ_b ho.2.2.1 p hp
  have := ho.2.2.1.1
  exact ⟨hM.1, hM.2.2.2.1.2 p hp, by omega, by omega, by omega, by omega⟩
theorem mQ_a {h : AH} {m p : Nat} {W : List HK} (hQ : mQ h m p W) {i : Int} (h0 : 0 ≤ i) (h1 : i < W.length) : ah_I h (m + 8) (10 * (p : Int) + i) = (hk W i.toNat).1 ∧ ah_I h (m + 9) (10 * (p : Int) + i) = ((hk W i.toNat).2.1.length : Int) ∧ ah_I h (m + 10) (10 * (p : Int) + i) = ((hk W i.toNat).2.2.length : Int) := by
  have := hQ.2.1.2.1 i.toNat (by omega)
  rw [Int.toNat_of_nonneg h0] at this; exact this
theorem mQ_gl {h : AH} {m p : Nat} {W : List HK} (hQ : mQ h m p W) {i k : Nat} (h1 : i < W.length) (h2 : k < (hk W i).2.1.length) : ah_I h (m + 11) (28 * (p : Int) + (hgs W i : Int) + (k : Int)) = (hk W i).2.1.getD k 0 := by
  have := hQ.2.1.2.2.1 (hgs W i + k) (fG_in h1 h2)
  rw [fG_at h1 h2] at this
  rw [← this]; congr 1; omega
theorem mQ_cl {h : AH} {m p : Nat} {W : List HK} (hQ : mQ h m p W) {i k : Nat} (h1 : i < W.length) (h2 : k < (hk W i).2.2.length) : ah_I h (m + 12) (28 * (p : Int) + (hcs W i : Int) + (k : Int)) = (hk W i).2.2.getD k 0 := by
  have := hQ.2.1.2.2.2 (hcs W i + k) (fC_in h1 h2)
  rw [fC_at h1 h2] at this
  rw [← this]; congr 1; omega
theorem q7_goesOf {h : AH} {m p : Nat} {W : List HK} (hQ : mQ h m p W) : X7_goesOf m (p : Int) h = some (((fG W).length : Int), h) := by
  obtain ⟨hS, hPt, hp, l1, l2, l3⟩ := id hQ
  have mT := hS.1
  have w1 := hPt.1
  obtain ⟨p7, t7, n7⟩ := ms7 hS
  obtain ⟨p9, t9, n9⟩ := ms9 hS
  have hs := lp_seq (F := X7_goesOf_L4 m (p : Int)) (fun j : Nat => ((hgs W j : Int), (j : Int))) (fun _ => h) W.length (b := (hgs W W.length : Int)) (hE := h) ?_ ?_ mo_N (by rw [mo_N_v]; omega)
  · rw [hgs_all] at hs
    have hs : mo_lp mo_N (X7_goesOf_L4 m (p : Int)) (0, 0) h = some (((fG W).length : Int), h) := hs
    simp (disch := omega) only [X7_goesOf, rr_p, rr_bp, rr_bb, rr_0, rr_lt, rr_blt, rr_le, rr_ble, rr_eq, rr_beq, rr_nl_n, rr_nl_s, rr_bnl_n, rr_bnl_s, rr_cond_t, rr_cond_f, rr_bcond_t, rr_bcond_f, rr_bon, rr_bcv, rr_cv, rr_g, rr_gr, rr_si, rr_sz, rr_sr, rr_al, rr_ld, rr_st, rr_rl, rr_rs, rr_ni, rr_nr, rr_z, rr_div, rr_rem, rr_lc, rr_mx, rr_mn, rr_ab, rr_no, gd_t, bc_t, bc_f, gd_tt, bc_tt, bc_ff, or_true, true_or, and_true, true_and, Nat.reduceAdd, mo_b_s hs]
  · intro j hj
    obtain ⟨a1, a2, a3⟩ := mQ_a hQ (i := (j : Int)) (by omega) (by omega)
    rw [Int.toNat_natCast] at a1 a2 a3
    have s1 := hgs_s hj
    simp (disch := omega) only [X7_goesOf_L4, rr_p, rr_bp, rr_bb, rr_0, rr_lt, rr_blt, rr_le, rr_ble, rr_eq, rr_beq, rr_nl_n, rr_nl_s, rr_bnl_n, rr_bnl_s, rr_cond_t, rr_cond_f, rr_bcond_t, rr_bcond_f, rr_bon, rr_bcv, rr_cv, rr_g, rr_gr, rr_si, rr_sz, rr_sr, rr_al, rr_ld, rr_st, rr_rl, rr_rs, rr_ni, rr_nr, rr_z, rr_div, rr_rem, rr_lc, rr_mx, rr_mn, rr_ab, rr_no, gd_t, bc_t, bc_f, gd_tt, bc_tt, bc_ff, or_true, true_or, and_true, true_and, Nat.reduceAdd, p7, p9, w1, a2]
    rw [s1, Int.natCast_add, Int.natCast_add, Int.natCast_one]
  · simp (disch := omega) only [X7_goesOf_L4, rr_p, rr_bp, rr_bb, rr_0, rr_lt, rr_blt, rr_le, rr_ble, rr_eq, rr_beq, rr_nl_n, rr_nl_s, rr_bnl_n, rr_bnl_s, rr_cond_t, rr_cond_f, rr_bcond_t, rr_bcond_f, rr_bon, rr_bcv, rr_cv, rr_g, rr_gr, rr_si, rr_sz, rr_sr, rr_al, rr_ld, rr_st, rr_rl, rr_rs, rr_ni, rr_nr, rr_z, rr_div, rr_rem, rr_lc, rr_mx, rr_mn, rr_ab, rr_no, gd_t, bc_t, bc_f, gd_tt, bc_tt, bc_ff, or_true, true_or, and_true, true_and, Nat.reduceAdd, p7, p9, w1]
theorem q7_comesOf {h : AH} {m p : Nat} {W : List HK} (hQ : mQ h m p W) : X7_comesOf m (p : Int) h = some (((fC W).length : Int), h) := by
  obtain ⟨hS, hPt, hp, l1, l2, l3⟩ := id hQ
  have mT := hS.1
  have w1 := hPt.1
  obtain ⟨p7, t7, n7⟩ := ms7 hS
  obtain ⟨p10, t10, n10⟩ := ms10 hS
  have hs := lp_seq (F := X7_comesOf_L4 m (p : Int)) (fun j : Nat => ((hcs W j : Int), (j : Int))) (fun _ => h) W.length (b := (hcs W W.length : Int)) (hE := h) ?_ ?_ mo_N (by rw [mo_N_v]; omega)
  · rw [hcs_all] at hs
    have hs : mo_lp mo_N (X7_comesOf_L4 m (p : Int)) (0, 0) h = some (((fC W).length : Int), h) := hs
    simp (disch := omega) only [X7_comesOf, rr_p, rr_bp, rr_bb, rr_0, rr_lt, rr_blt, rr_le, rr_ble, rr_eq, rr_beq, rr_nl_n, rr_nl_s, rr_bnl_n, rr_bnl_s, rr_cond_t, rr_cond_f, rr_bcond_t, rr_bcond_f, rr_bon, rr_bcv, rr_cv, rr_g, rr_gr, rr_si, rr_sz, rr_sr, rr_al, rr_ld, rr_st, rr_rl, rr_rs, rr_ni, rr_nr, rr_z, rr_div, rr_rem, rr_lc, rr_mx, rr_mn, rr_ab, rr_no, gd_t, bc_t, bc_f, gd_tt, bc_tt, bc_ff, or_true, true_or, and_true, true_and, Nat.reduceAdd, mo_b_s hs]
  · intro j hj
    obtain ⟨a1, a2, a3⟩ := mQ_a hQ (i := (j : Int)) (by omega) (by omega)
    rw [Int.toNat_natCast] at a1 a2 a3
    have s1 := hcs_s hj
    simp (disch := omega) only [X7_comesOf_L4, rr_p, rr_bp, rr_bb, rr_0, rr_lt, rr_blt, rr_le, rr_ble, rr_eq, rr_beq, rr_nl_n, rr_nl_s, rr_bnl_n, rr_bnl_s, rr_cond_t, rr_cond_f, rr_bcond_t, rr_bcond_f, rr_bon, rr_bcv, rr_cv, rr_g, rr_gr, rr_si, rr_sz, rr_sr, rr_al, rr_ld, rr_st, rr_rl, rr_rs, rr_ni, rr_nr, rr_z, rr_div, rr_rem, rr_lc, rr_mx, rr_mn, rr_ab, rr_no, gd_t, bc_t, bc_f, gd_tt, bc_tt, bc_ff, or_true, true_or, and_true, true_and, Nat.reduceAdd, p7, p10, w1, a3]
    rw [s1, Int.natCast_add, Int.natCast_add, Int.natCast_one]
  · simp (disch := omega) only [X7_comesOf_L4, rr_p, rr_bp, rr_bb, rr_0, rr_lt, rr_blt, rr_le, rr_ble, rr_eq, rr_beq, rr_nl_n, rr_nl_s, rr_bnl_n, rr_bnl_s, rr_cond_t, rr_cond_f, rr_bcond_t, rr_bcond_f, rr_bon, rr_bcv, rr_cv, rr_g, rr_gr, rr_si, rr_sz, rr_sr, rr_al, rr_ld, rr_st, rr_rl, rr_rs, rr_ni, rr_nr, rr_z, rr_div, rr_rem, rr_lc, rr_mx, rr_mn, rr_ab, rr_no, gd_t, bc_t, bc_f, gd_tt, bc_tt, bc_ff, or_true, true_or, and_true, true_and, Nat.reduceAdd, p7, p10, w1]
theorem q7_goFrom {h : AH} {m p : Nat} {W : List HK} (hQ : mQ h m p W) {i : Nat} (hi : i ≤ W.length) : X7_goFrom m (p : Int) (i : Int) h = some (28 * (p : Int) + (hgs W i : Int), h) := by
  obtain ⟨hS, hPt, hp, l1, l2, l3⟩ := id hQ
  have mT := hS.1
  obtain ⟨p9, t9, n9⟩ := ms9 hS
  have hs := lp_seq (F := X7_goFrom_L8 m (p : Int) (i : Int)) (fun j : Nat => (28 * (p : Int) + (hgs W j : Int), (j : Int))) (fun _ => h) i (b := 28 * (p : Int) + (hgs W i : Int)) (hE := h) ?_ ?_ mo_N (by rw [mo_N_v]; omega)
  · have hs : mo_lp mo_N (X7_goFrom_L8 m (p : Int) (i : Int)) (28 * (p : Int) + 0, 0) h = _ := hs
    rw [Int.add_zero] at hs
    simp (disch := omega) only [X7_goFrom, rr_p, rr_bp, rr_bb, rr_0, rr_lt, rr_blt, rr_le, rr_ble, rr_eq, rr_beq, rr_nl_n, rr_nl_s, rr_bnl_n, rr_bnl_s, rr_cond_t, rr_cond_f, rr_bcond_t, rr_bcond_f, rr_bon, rr_bcv, rr_cv, rr_g, rr_gr, rr_si, rr_sz, rr_sr, rr_al, rr_ld, rr_st, rr_rl, rr_rs, rr_ni, rr_nr, rr_z, rr_div, rr_rem, rr_lc, rr_mx, rr_mn, rr_ab, rr_no, gd_t, bc_t, bc_f, gd_tt, bc_tt, bc_ff, or_true, true_or, and_true, true_and, Nat.reduceAdd, mo_b_s hs]
  · intro j hj
    obtain ⟨a1, a2, a3⟩ := mQ_a hQ (i := (j : Int)) (by omega) (by omega)
    rw [Int.toNat_natCast] at a1 a2 a3
    have s1 := @hgs_s W j (by omega)
    simp (disch := omega) only [X7_goFrom_L8, rr_p, rr_bp, rr_bb, rr_0, rr_lt, rr_blt, rr_le, rr_ble, rr_eq, rr_beq, rr_nl_n, rr_nl_s, rr_bnl_n, rr_bnl_s, rr_cond_t, rr_cond_f, rr_bcond_t, rr_bcond_f, rr_bon, rr_bcv, rr_cv, rr_g, rr_gr, rr_si, rr_sz, rr_sr, rr_al, rr_ld, rr_st, rr_rl, rr_rs, rr_ni, rr_nr, rr_z, rr_div, rr_rem, rr_lc, rr_mx, rr_mn, rr_ab, rr_no, gd_t, bc_t, bc_f, gd_tt, bc_tt, bc_ff, or_true, true_or, and_true, true_and, Nat.reduceAdd, p9, a2]
    rw [s1, Int.natCast_add, Int.natCast_add, Int.natCast_one, Int.add_assoc]
  · simp (disch := omega) only [X7_goFrom_L8, rr_p, rr_bp, rr_bb, rr_0, rr_lt, rr_blt, rr_le, rr_ble, rr_eq, rr_beq, rr_nl_n, rr_nl_s, rr_bnl_n, rr_bnl_s, rr_cond_t, rr_cond_f, rr_bcond_t, rr_bcond_f, rr_bon, rr_bcv, rr_cv, rr_g, rr_gr, rr_si, rr_sz, rr_sr, rr_al, rr_ld, rr_st, rr_rl, rr_rs, rr_ni, rr_nr, rr_z, rr_div, rr_rem, rr_lc, rr_mx, rr_mn, rr_ab, rr_no, gd_t, bc_t, bc_f, gd_tt, bc_tt, bc_ff, or_true, true_or, and_true, true_and, Nat.reduceAdd]
theorem q7_comeFrom {h : AH} {m p : Nat} {W : List HK} (hQ : mQ h m p W) {i : Nat} (hi : i ≤ W.length) : X7_comeFrom m (p : Int) (i : Int) h = some (28 * (p : Int) + (hcs W i : Int), h) := by
  obtain ⟨hS, hPt, hp, l1, l2, l3⟩ := id hQ
  have mT := hS.1
  obtain ⟨p10, t10, n10⟩ := ms10 hS
  have hs := lp_seq (F := X7_comeFrom_L8 m (p : Int) (i : Int)) (fun j : Nat => (28 * (p : Int) + (hcs W j : Int), (j : Int))) (fun _ => h) i (b := 28 * (p : Int) + (hcs W i : Int)) (hE := h) ?_ ?_ mo_N (by rw [mo_N_v]; omega)
  · have hs : mo_lp mo_N (X7_comeFrom_L8 m (p : Int) (i : Int)) (28 * (p : Int) + 0, 0) h = _ := hs
    rw [Int.add_zero] at hs
    simp (disch := omega) only [X7_comeFrom, rr_p, rr_bp, rr_bb, rr_0, rr_lt, rr_blt, rr_le, rr_ble, rr_eq, rr_beq, rr_nl_n, rr_nl_s, rr_bnl_n, rr_bnl_s, rr_cond_t, rr_cond_f, rr_bcond_t, rr_bcond_f, rr_bon, rr_bcv, rr_cv, rr_g, rr_gr, rr_si, rr_sz, rr_sr, rr_al, rr_ld, rr_st, rr_rl, rr_rs, rr_ni, rr_nr, rr_z, rr_div, rr_rem, rr_lc, rr_mx, rr_mn, rr_ab, rr_no, gd_t, bc_t, bc_f, gd_tt, bc_tt, bc_ff, or_true, true_or, and_true, true_and, Nat.reduceAdd, mo_b_s hs]
  · intro j hj
    obtain ⟨a1, a2, a3⟩ := mQ_a hQ (i := (j : Int)) (by omega) (by omega)
    rw [Int.toNat_natCast] at a1 a2 a3
    have s1 := @hcs_s W j (by omega)
    simp (disch := omega) only [X7_comeFrom_L8, rr_p, rr_bp, rr_bb, rr_0, rr_lt, rr_blt, rr_le, rr_ble, rr_eq, rr_beq, rr_nl_n, rr_nl_s, rr_bnl_n, rr_bnl_s, rr_cond_t, rr_cond_f, rr_bcond_t, rr_bcond_f, rr_bon, rr_bcv, rr_cv, rr_g, rr_gr, rr_si, rr_sz, rr_sr, rr_al, rr_ld, rr_st, rr_rl, rr_rs, rr_ni, rr_nr, rr_z, rr_div, rr_rem, rr_lc, rr_mx, rr_mn, rr_ab, rr_no, gd_t, bc_t, bc_f, gd_tt, bc_tt, bc_ff, or_true, true_or, and_true, true_and, Nat.reduceAdd, p10, a3]
    rw [s1, Int.natCast_add, Int.natCast_add, Int.natCast_one, Int.add_assoc]
  · simp (disch := omega) only [X7_comeFrom_L8, rr_p, rr_bp, rr_bb, rr_0, rr_lt, rr_blt, rr_le, rr_ble, rr_eq, rr_beq, rr_nl_n, rr_nl_s, rr_bnl_n, rr_bnl_s, rr_cond_t, rr_cond_f, rr_bcond_t, rr_bcond_f, rr_bon, rr_bcv, rr_cv, rr_g, rr_gr, rr_si, rr_sz, rr_sr, rr_al, rr_ld, rr_st, rr_rl, rr_rs, rr_ni, rr_nr, rr_z, rr_div, rr_rem, rr_lc, rr_mx, rr_mn, rr_ab, rr_no, gd_t, bc_t, bc_f, gd_tt, bc_tt, bc_ff, or_true, true_or, and_true, true_and, Nat.reduceAdd]
theorem q7_standsAt {h : AH} {m p : Nat} {W : List HK} (hQ : mQ h m p W) {i : Nat} (hi : i < W.length) : X7_standsAt m (p : Int) (i : Int) h = some (hB W i, h) := by
  obtain ⟨hS, hPt, hp, l1, l2, l3⟩ := id hQ
  have mT := hS.1
  obtain ⟨p8, t8, n8⟩ := ms8 hS
  obtain ⟨p9, t9, n9⟩ := ms9 hS
  obtain ⟨p10, t10, n10⟩ := ms10 hS
  obtain ⟨b1, b2, b3⟩ := mQ_a hQ (i := (i : Int)) (by omega) (by omega)
  rw [Int.toNat_natCast] at b1 b2 b3
  have hs := lp_seq (F := X7_standsAt_L15 m (p : Int) (i : Int)) (fun j : Nat => ((hk W i).1 + ((hcs W j : Int) - (hgs W j : Int)), (j : Int))) (fun _ => h) i (b := hB W i) (hE := h) ?_ ?_ mo_N (by rw [mo_N_v]; omega)
  · have hs : mo_lp mo_N (X7_standsAt_L15 m (p : Int) (i : Int)) ((hk W i).1 + 0, 0) h = _ := hs
    rw [Int.add_zero] at hs
    simp (disch := omega) only [X7_standsAt, rr_p, rr_bp, rr_bb, rr_0, rr_lt, rr_blt, rr_le, rr_ble, rr_eq, rr_beq, rr_nl_n, rr_nl_s, rr_bnl_n, rr_bnl_s, rr_cond_t, rr_cond_f, rr_bcond_t, rr_bcond_f, rr_bon, rr_bcv, rr_cv, rr_g, rr_gr, rr_si, rr_sz, rr_sr, rr_al, rr_ld, rr_st, rr_rl, rr_rs, rr_ni, rr_nr, rr_z, rr_div, rr_rem, rr_lc, rr_mx, rr_mn, rr_ab, rr_no, gd_t, bc_t, bc_f, gd_tt, bc_tt, bc_ff, or_true, true_or, and_true, true_and, Nat.reduceAdd, p8, b1, mo_b_s hs]
  · intro j hj
    obtain ⟨a1, a2, a3⟩ := mQ_a hQ (i := (j : Int)) (by omega) (by omega)
    rw [Int.toNat_natCast] at a1 a2 a3
    have s1 := @hcs_s W j (by omega)
    have s2 := @hgs_s W j (by omega)
    simp (disch := omega) only [X7_standsAt_L15, rr_p, rr_bp, rr_bb, rr_0, rr_lt, rr_blt, rr_le, rr_ble, rr_eq, rr_beq, rr_nl_n, rr_nl_s, rr_bnl_n, rr_bnl_s, rr_cond_t, rr_cond_f, rr_bcond_t, rr_bcond_f, rr_bon, rr_bcv, rr_cv, rr_g, rr_gr, rr_si, rr_sz, rr_sr, rr_al, rr_ld, rr_st, rr_rl, rr_rs, rr_ni, rr_nr, rr_z, rr_div, rr_rem, rr_lc, rr_mx, rr_mn, rr_ab, rr_no, gd_t, bc_t, bc_f, gd_tt, bc_tt, bc_ff, or_true, true_or, and_true, true_and, Nat.reduceAdd, p9, p10, a2, a3]
    rw [show (hk W i).1 + ((hcs W j : Int) - (hgs W j : Int)) + (((hk W j).2.2.length : Int) - ((hk W j).2.1.length : Int)) = (hk W i).1 + ((hcs W (j + 1) : Int) - (hgs W (j + 1) : Int)) by omega, Int.natCast_add, Int.natCast_one]
  · simp (disch := omega) only [X7_standsAt_L15, rr_p, rr_bp, rr_bb, rr_0, rr_lt, rr_blt, rr_le, rr_ble, rr_eq, rr_beq, rr_nl_n, rr_nl_s, rr_bnl_n, rr_bnl_s, rr_cond_t, rr_cond_f, rr_bcond_t, rr_bcond_f, rr_bon, rr_bcv, rr_cv, rr_g, rr_gr, rr_si, rr_sz, rr_sr, rr_al, rr_ld, rr_st, rr_rl, rr_rs, rr_ni, rr_nr, rr_z, rr_div, rr_rem, rr_lc, rr_mx, rr_mn, rr_ab, rr_no, gd_t, bc_t, bc_f, gd_tt, bc_tt, bc_ff, or_true, true_or, and_true, true_and, Nat.reduceAdd, hB]
theorem m_of {h : AH} {m p : Nat} {W : List HK} (hQ : mQ h m p W) {w : Int} (hw : 0 ≤ w ∧ w ≤ 3) : X7_ofPatch m (p : Int) w h = some (tel W w, h) := by
  obtain ⟨hS, hPt, hp, l1, l2, l3⟩ := id hQ
  have mT := hS.1
  have w1 := hPt.1
  obtain ⟨p7, t7, n7⟩ := ms7 hS
  have e2 := q7_goesOf hQ
  have e3 := q7_comesOf hQ
  unfold tel rm
  by_cases c3 : w = 0
  · rw [if_pos c3]; simp (disch := omega) only [X7_ofPatch, rr_p, rr_bp, rr_bb, rr_0, rr_lt, rr_blt, rr_le, rr_ble, rr_eq, rr_beq, rr_nl_n, rr_nl_s, rr_bnl_n, rr_bnl_s, rr_cond_t, rr_cond_f, rr_bcond_t, rr_bcond_f, rr_bon, rr_bcv, rr_cv, rr_g, rr_gr, rr_si, rr_sz, rr_sr, rr_al, rr_ld, rr_st, rr_rl, rr_rs, rr_ni, rr_nr, rr_z, rr_div, rr_rem, rr_lc, rr_mx, rr_mn, rr_ab, rr_no, gd_t, bc_t, bc_f, gd_tt, bc_tt, bc_ff, or_true, true_or, and_true, true_and, Nat.reduceAdd, p7, w1]
  · rw [if_neg c3]
    by_cases c3 : w = 1
    · rw [if_pos c3]; simp (disch := omega) only [X7_ofPatch, rr_p, rr_bp, rr_bb, rr_0, rr_lt, rr_blt, rr_le, rr_ble, rr_eq, rr_beq, rr_nl_n, rr_nl_s, rr_bnl_n, rr_bnl_s, rr_cond_t, rr_cond_f, rr_bcond_t, rr_bcond_f, rr_bon, rr_bcv, rr_cv, rr_g, rr_gr, rr_si, rr_sz, rr_sr, rr_al, rr_ld, rr_st, rr_rl, rr_rs, rr_ni, rr_nr, rr_z, rr_div, rr_rem, rr_lc, rr_mx, rr_mn, rr_ab, rr_no, gd_t, bc_t, bc_f, gd_tt, bc_tt, bc_ff, or_true, true_or, and_true, true_and, Nat.reduceAdd, mo_b_s e2]
    · rw [if_neg c3]
      by_cases c3 : w = 2
      · rw [if_pos c3]; simp (disch := omega) only [X7_ofPatch, rr_p, rr_bp, rr_bb, rr_0, rr_lt, rr_blt, rr_le, rr_ble, rr_eq, rr_beq, rr_nl_n, rr_nl_s, rr_bnl_n, rr_bnl_s, rr_cond_t, rr_cond_f, rr_bcond_t, rr_bcond_f, rr_bon, rr_bcv, rr_cv, rr_g, rr_gr, rr_si, rr_sz, rr_sr, rr_al, rr_ld, rr_st, rr_rl, rr_rs, rr_ni, rr_nr, rr_z, rr_div, rr_rem, rr_lc, rr_mx, rr_mn, rr_ab, rr_no, gd_t, bc_t, bc_f, gd_tt, bc_tt, bc_ff, or_true, true_or, and_true, true_and, Nat.reduceAdd, mo_b_s e3]
      · rw [if_neg c3]; simp (disch := omega) only [X7_ofPatch, rr_p, rr_bp, rr_bb, rr_0, rr_lt, rr_blt, rr_le, rr_ble, rr_eq, rr_beq, rr_nl_n, rr_nl_s, rr_bnl_n, rr_bnl_s, rr_cond_t, rr_cond_f, rr_bcond_t, rr_bcond_f, rr_bon, rr_bcv, rr_cv, rr_g, rr_gr, rr_si, rr_sz, rr_sr, rr_al, rr_ld, rr_st, rr_rl, rr_rs, rr_ni, rr_nr, rr_z, rr_div, rr_rem, rr_lc, rr_mx, rr_mn, rr_ab, rr_no, gd_t, bc_t, bc_f, gd_tt, bc_tt, bc_ff, or_true, true_or, and_true, true_and, Nat.reduceAdd, p7, w1, mo_b_s e3]
theorem c_of (p w : Int) (hp : am_r p) (hw : am_r w) (s : SG) (ho : OKS s) : CJ (fun x => X6_of x p w) (fun m => X7_of m p w) s := by
  have oQ1 := ho.2.2.1.1
  have hp2 := hp
  unfold am_r at hp hw
  by_cases c1 : 0 ≤ p ∧ p < s.2.2.1.length
  · obtain ⟨pn, rfl⟩ := Int.eq_ofNat_of_zero_le c1.1
    by_cases c2 : 0 ≤ w ∧ w ≤ 3
    · refine CJ.same (tel (pt s.2.2.1 pn) w) ho ?_ ?_
      · intro x h hK
        obtain ⟨hR, nD, hSc, A, B, hB⟩ := id hK
        obtain ⟨⟨o1, ⟨p0, p1, p2, p4, p6, p7, p8, p9, p10, p11, p12⟩, o3, o4, o5, o6, o7, o8, o9⟩, ⟨f3, f5, f13⟩, hA, hQ, hM, hX⟩ := id hB
        have e1 := q6_patchOrNull hB oQ1 hp2
        rw [if_pos c1, Int.toNat_natCast] at e1
        obtain ⟨y1, y2, y3, y4⟩ := hQ pn (by omega)
        have e2 := q6_tellPatch y2 (w := w) hw
        simp (disch := omega) only [X6_of, rr_p, rr_bp, rr_bb, rr_0, rr_lt, rr_blt, rr_le, rr_ble, rr_eq, rr_beq, rr_nl_n, rr_nl_s, rr_bnl_n, rr_bnl_s, rr_cond_t, rr_cond_f, rr_bcond_t, rr_bcond_f, rr_bon, rr_bcv, rr_cv, rr_g, rr_gr, rr_si, rr_sz, rr_sr, rr_al, rr_ld, rr_st, rr_rl, rr_rs, rr_ni, rr_nr, rr_z, rr_div, rr_rem, rr_lc, rr_mx, rr_mn, rr_ab, rr_no, gd_t, bc_t, bc_f, gd_tt, bc_tt, bc_ff, or_true, true_or, and_true, true_and, Nat.reduceAdd, mo_b_s e1, mo_b_s e2]
      · intro m h hM
        have mT := hM.1.1
        have e1 := q7_isPatch hM oQ1 hp2
        rw [bc_t c1] at e1
        have e2 := m_of (MI_Q hM ho (p := pn) (by omega)) c2
        simp (disch := omega) only [X7_of, X7_within, rr_p, rr_bp, rr_bb, rr_0, rr_lt, rr_blt, rr_le, rr_ble, rr_eq, rr_beq, rr_nl_n, rr_nl_s, rr_bnl_n, rr_bnl_s, rr_cond_t, rr_cond_f, rr_bcond_t, rr_bcond_f, rr_bon, rr_bcv, rr_cv, rr_g, rr_gr, rr_si, rr_sz, rr_sr, rr_al, rr_ld, rr_st, rr_rl, rr_rs, rr_ni, rr_nr, rr_z, rr_div, rr_rem, rr_lc, rr_mx, rr_mn, rr_ab, rr_no, gd_t, bc_t, bc_f, gd_tt, bc_tt, bc_ff, or_true, true_or, and_true, true_and, Nat.reduceAdd, mo_b_s e1, mo_b_s e2]
    · refine CJ.same (-102) ho ?_ ?_
      · intro x h hK
        obtain ⟨hR, nD, hSc, A, B, hB⟩ := id hK
        obtain ⟨⟨o1, ⟨p0, p1, p2, p4, p6, p7, p8, p9, p10, p11, p12⟩, o3, o4, o5, o6, o7, o8, o9⟩, ⟨f3, f5, f13⟩, hA, hQ, hM, hX⟩ := id hB
        have e1 := q6_patchOrNull hB oQ1 hp2
        rw [if_pos c1] at e1
        by_cases c0 : w < 0
        · simp (disch := omega) only [X6_of, rr_p, rr_bp, rr_bb, rr_0, rr_lt, rr_blt, rr_le, rr_ble, rr_eq, rr_beq, rr_nl_n, rr_nl_s, rr_bnl_n, rr_bnl_s, rr_cond_t, rr_cond_f, rr_bcond_t, rr_bcond_f, rr_bon, rr_bcv, rr_cv, rr_g, rr_gr, rr_si, rr_sz, rr_sr, rr_al, rr_ld, rr_st, rr_rl, rr_rs, rr_ni, rr_nr, rr_z, rr_div, rr_rem, rr_lc, rr_mx, rr_mn, rr_ab, rr_no, gd_t, bc_t, bc_f, gd_tt, bc_tt, bc_ff, or_true, true_or, and_true, true_and, Nat.reduceAdd, mo_b_s e1]
        · simp (disch := omega) only [X6_of, rr_p, rr_bp, rr_bb, rr_0, rr_lt, rr_blt, rr_le, rr_ble, rr_eq, rr_beq, rr_nl_n, rr_nl_s, rr_bnl_n, rr_bnl_s, rr_cond_t, rr_cond_f, rr_bcond_t, rr_bcond_f, rr_bon, rr_bcv, rr_cv, rr_g, rr_gr, rr_si, rr_sz, rr_sr, rr_al, rr_ld, rr_st, rr_rl, rr_rs, rr_ni, rr_nr, rr_z, rr_div, rr_rem, rr_lc, rr_mx, rr_mn, rr_ab, rr_no, gd_t, bc_t, bc_f, gd_tt, bc_tt, bc_ff, or_true, true_or, and_true, true_and, Nat.reduceAdd, mo_b_s e1]
      · intro m h hM
        have mT := hM.1.1
        have e1 := q7_isPatch hM oQ1 hp2
        rw [bc_t c1] at e1
        by_cases c0 : w < 0
        · simp (disch := omega) only [X7_of, X7_within, rr_p, rr_bp, rr_bb, rr_0, rr_lt, rr_blt, rr_le, rr_ble, rr_eq, rr_beq, rr_nl_n, rr_nl_s, rr_bnl_n, rr_bnl_s, rr_cond_t, rr_cond_f, rr_bcond_t, rr_bcond_f, rr_bon, rr_bcv, rr_cv, rr_g, rr_gr, rr_si, rr_sz, rr_sr, rr_al, rr_ld, rr_st, rr_rl, rr_rs, rr_ni, rr_nr, rr_z, rr_div, rr_rem, rr_lc, rr_mx, rr_mn, rr_ab, rr_no, gd_t, bc_t, bc_f, gd_tt, bc_tt, bc_ff, or_true, true_or, and_true, true_and, Nat.reduceAdd, mo_b_s e1]
        · simp (disch := omega) only [X7_of, X7_within, rr_p, rr_bp, rr_bb, rr_0, rr_lt, rr_blt, rr_le, rr_ble, rr_eq, rr_beq, rr_nl_n, rr_nl_s, rr_bnl_n, rr_bnl_s, rr_cond_t, rr_cond_f, rr_bcond_t, rr_bcond_f, rr_bon, rr_bcv, rr_cv, rr_g, rr_gr, rr_si, rr_sz, rr_sr, rr_al, rr_ld, rr_st, rr_rl, rr_rs, rr_ni, rr_nr, rr_z, rr_div, rr_rem, rr_lc, rr_mx, rr_mn, rr_ab, rr_no, gd_t, bc_t, bc_f, gd_tt, bc_tt, bc_ff, or_true, true_or, and_true, true_and, Nat.reduceAdd, mo_b_s e1]
  · refine CJ.same (-101) ho ?_ ?_
    · intro x h hK
      obtain ⟨hR, nD, hSc, A, B, hB⟩ := id hK
      obtain ⟨⟨o1, ⟨p0, p1, p2, p4, p6, p7, p8, p9, p10, p11, p12⟩, o3, o4, o5, o6, o7, o8, o9⟩, ⟨f3, f5, f13⟩, hA, hQ, hM, hX⟩ := id hB
      have e1 := q6_patchOrNull hB oQ1 hp2
      rw [if_neg c1] at e1
      simp (disch := omega) only [X6_of, rr_p, rr_bp, rr_bb, rr_0, rr_lt, rr_blt, rr_le, rr_ble, rr_eq, rr_beq, rr_nl_n, rr_nl_s, rr_bnl_n, rr_bnl_s, rr_cond_t, rr_cond_f, rr_bcond_t, rr_bcond_f, rr_bon, rr_bcv, rr_cv, rr_g, rr_gr, rr_si, rr_sz, rr_sr, rr_al, rr_ld, rr_st, rr_rl, rr_rs, rr_ni, rr_nr, rr_z, rr_div, rr_rem, rr_lc, rr_mx, rr_mn, rr_ab, rr_no, gd_t, bc_t, bc_f, gd_tt, bc_tt, bc_ff, or_true, true_or, and_true, true_and, Nat.reduceAdd, mo_b_s e1]
    · intro m h hM
      have mT := hM.1.1
      have e1 := q7_isPatch hM oQ1 hp2
      rw [bc_f c1] at e1
      simp (disch := omega) only [X7_of, rr_p, rr_bp, rr_bb, rr_0, rr_lt, rr_blt, rr_le, rr_ble, rr_eq, rr_beq, rr_nl_n, rr_nl_s, rr_bnl_n, rr_bnl_s, rr_cond_t, rr_cond_f, rr_bcond_t, rr_bcond_f, rr_bon, rr_bcv, rr_cv, rr_g, rr_gr, rr_si, rr_sz, rr_sr, rr_al, rr_ld, rr_st, rr_rl, rr_rs, rr_ni, rr_nr, rr_z, rr_div, rr_rem, rr_lc, rr_mx, rr_mn, rr_ab, rr_no, gd_t, bc_t, bc_f, gd_tt, bc_tt, bc_ff, or_true, true_or, and_true, true_and, Nat.reduceAdd, mo_b_s e1]
/-- what is told of a hunk -/
def tlo (q : HK) (w : Int) : Int := if w = 0 then q.1 else if w = 1 then (q.2.1.length : Int) else if w = 2 then (q.2.2.length : Int) else if w < 40 then (if w - 10 < (q.2.1.length : Int) then q.2.1.getD (w - 10).toNat 0 else -1) else (if w - 40 < (q.2.2.length : Int) then q.2.2.getD (w - 40).toNat 0 else -1)
theorem m_told {h : AH} {m p i : Nat} {W : List HK} (hQ : mQ h m p W) (hi : i < W.length) {w : Int} (hw : (0 ≤ w ∧ w ≤ 2) ∨ (10 ≤ w ∧ w ≤ 37) ∨ (40 ≤ w ∧ w ≤ 67)) : X7_toldOf m (p : Int) (i : Int) w h = some (tlo (hk W i) w, h) := by
  obtain ⟨hS, hPt, hp, l1, l2, l3⟩ := id hQ
  have mT := hS.1
  obtain ⟨p8, t8, n8⟩ := ms8 hS
  obtain ⟨p9, t9, n9⟩ := ms9 hS
  obtain ⟨p10, t10, n10⟩ := ms10 hS
  obtain ⟨p11, t11, n11⟩ := ms11 hS
  obtain ⟨p12, t12, n12⟩ := ms12 hS
  obtain ⟨b1, b2, b3⟩ := mQ_a hQ (i := (i : Int)) (by omega) (by omega)
  rw [Int.toNat_natCast] at b1 b2 b3
  have e2 := q7_goFrom hQ (i := i) (by omega)
  have e3 := q7_comeFrom hQ (i := i) (by omega)
  have s1 := @hgs_s W i hi
  have s2 := @hgs_le W (i + 1)
  have s3 := @hcs_s W i hi
  have s4 := @hcs_le W (i + 1)
  unfold tlo
  by_cases c3 : w = 0
  · rw [if_pos c3]; simp (disch := omega) only [X7_toldOf, rr_p, rr_bp, rr_bb, rr_0, rr_lt, rr_blt, rr_le, rr_ble, rr_eq, rr_beq, rr_nl_n, rr_nl_s, rr_bnl_n, rr_bnl_s, rr_cond_t, rr_cond_f, rr_bcond_t, rr_bcond_f, rr_bon, rr_bcv, rr_cv, rr_g, rr_gr, rr_si, rr_sz, rr_sr, rr_al, rr_ld, rr_st, rr_rl, rr_rs, rr_ni, rr_nr, rr_z, rr_div, rr_rem, rr_lc, rr_mx, rr_mn, rr_ab, rr_no, gd_t, bc_t, bc_f, gd_tt, bc_tt, bc_ff, or_true, true_or, and_true, true_and, Nat.reduceAdd, p8, b1]
  · rw [if_neg c3]
    by_cases c3 : w = 1
    · rw [if_pos c3]; simp (disch := omega) only [X7_toldOf, rr_p, rr_bp, rr_bb, rr_0, rr_lt, rr_blt, rr_le, rr_ble, rr_eq, rr_beq, rr_nl_n, rr_nl_s, rr_bnl_n, rr_bnl_s, rr_cond_t, rr_cond_f, rr_bcond_t, rr_bcond_f, rr_bon, rr_bcv, rr_cv, rr_g, rr_gr, rr_si, rr_sz, rr_sr, rr_al, rr_ld, rr_st, rr_rl, rr_rs, rr_ni, rr_nr, rr_z, rr_div, rr_rem, rr_lc, rr_mx, rr_mn, rr_ab, rr_no, gd_t, bc_t, bc_f, gd_tt, bc_tt, bc_ff, or_true, true_or, and_true, true_and, Nat.reduceAdd, p9, b2]
    · rw [if_neg c3]
      by_cases c3 : w = 2
      · rw [if_pos c3]; simp (disch := omega) only [X7_toldOf, rr_p, rr_bp, rr_bb, rr_0, rr_lt, rr_blt, rr_le, rr_ble, rr_eq, rr_beq, rr_nl_n, rr_nl_s, rr_bnl_n, rr_bnl_s, rr_cond_t, rr_cond_f, rr_bcond_t, rr_bcond_f, rr_bon, rr_bcv, rr_cv, rr_g, rr_gr, rr_si, rr_sz, rr_sr, rr_al, rr_ld, rr_st, rr_rl, rr_rs, rr_ni, rr_nr, rr_z, rr_div, rr_rem, rr_lc, rr_mx, rr_mn, rr_ab, rr_no, gd_t, bc_t, bc_f, gd_tt, bc_tt, bc_ff, or_true, true_or, and_true, true_and, Nat.reduceAdd, p10, b3]
      · rw [if_neg c3]
        by_cases c3 : w < 40
        · rw [if_pos c3]
          by_cases c4 : w - 10 < ((hk W i).2.1.length : Int)
          · rw [if_pos c4]
            have := mQ_gl hQ hi (k := (w - 10).toNat) (by omega)
            rw [show 28 * (p : Int) + (hgs W i : Int) + ((w - 10).toNat : Int) = 28 * (p : Int) + (hgs W i : Int) + w - 10 by omega] at this
            simp (disch := omega) only [X7_toldOf, rr_p, rr_bp, rr_bb, rr_0, rr_lt, rr_blt, rr_le, rr_ble, rr_eq, rr_beq, rr_nl_n, rr_nl_s, rr_bnl_n, rr_bnl_s, rr_cond_t, rr_cond_f, rr_bcond_t, rr_bcond_f, rr_bon, rr_bcv, rr_cv, rr_g, rr_gr, rr_si, rr_sz, rr_sr, rr_al, rr_ld, rr_st, rr_rl, rr_rs, rr_ni, rr_nr, rr_z, rr_div, rr_rem, rr_lc, rr_mx, rr_mn, rr_ab, rr_no, gd_t, bc_t, bc_f, gd_tt, bc_tt, bc_ff, or_true, true_or, and_true, true_and, Nat.reduceAdd, p9, b2, p11, mo_b_s e2, this]
          · rw [if_neg c4]
            simp (disch := omega) only [X7_toldOf, rr_p, rr_bp, rr_bb, rr_0, rr_lt, rr_blt, rr_le, rr_ble, rr_eq, rr_beq, rr_nl_n, rr_nl_s, rr_bnl_n, rr_bnl_s, rr_cond_t, rr_cond_f, rr_bcond_t, rr_bcond_f, rr_bon, rr_bcv, rr_cv, rr_g, rr_gr, rr_si, rr_sz, rr_sr, rr_al, rr_ld, rr_st, rr_rl, rr_rs, rr_ni, rr_nr, rr_z, rr_div, rr_rem, rr_lc, rr_mx, rr_mn, rr_ab, rr_no, gd_t, bc_t, bc_f, gd_tt, bc_tt, bc_ff, or_true, true_or, and_true, true_and, Nat.reduceAdd, p9, b2]
        · rw [if_neg c3]
          by_cases c4 : w - 40 < ((hk W i).2.2.length : Int)
          · rw [if_pos c4]
            have := mQ_cl hQ hi (k := (w - 40).toNat) (by omega)
            rw [show 28 * (p : Int) + (hcs W i : Int) + ((w - 40).toNat : Int) = 28 * (p : Int) + (hcs W i : Int) + w - 40 by omega] at this
            simp (disch := omega) only [X7_toldOf, rr_p, rr_bp, rr_bb, rr_0, rr_lt, rr_blt, rr_le, rr_ble, rr_eq, rr_beq, rr_nl_n, rr_nl_s, rr_bnl_n, rr_bnl_s, rr_cond_t, rr_cond_f, rr_bcond_t, rr_bcond_f, rr_bon, rr_bcv, rr_cv, rr_g, rr_gr, rr_si, rr_sz, rr_sr, rr_al, rr_ld, rr_st, rr_rl, rr_rs, rr_ni, rr_nr, rr_z, rr_div, rr_rem, rr_lc, rr_mx, rr_mn, rr_ab, rr_no, gd_t, bc_t, bc_f, gd_tt, bc_tt, bc_ff, or_true, true_or, and_true, true_and, Nat.reduceAdd, p10, b3, p12, mo_b_s e3, this]
          · rw [if_neg c4]
            simp (disch := omega) only [X7_toldOf, rr_p, rr_bp, rr_bb, rr_0, rr_lt, rr_blt, rr_le, rr_ble, rr_eq, rr_beq, rr_nl_n, rr_nl_s, rr_bnl_n, rr_bnl_s, rr_cond_t, rr_cond_f, rr_bcond_t, rr_bcond_f, rr_bon, rr_bcv, rr_cv, rr_g, rr_gr, rr_si, rr_sz, rr_sr, rr_al, rr_ld, rr_st, rr_rl, rr_rs, rr_ni, rr_nr, rr_z, rr_div, rr_rem, rr_lc, rr_mx, rr_mn, rr_ab, rr_no, gd_t, bc_t, bc_f, gd_tt, bc_tt, bc_ff, or_true, true_or, and_true, true_and, Nat.reduceAdd, p10, b3]
theorem c_hunkOf (p i w : Int) (hp : am_r p) (hi : am_r i) (hw : am_r w) (s : SG) (ho : OKS s) : CJ (fun x => X6_hunkOf x p i w) (fun m => X7_hunkOf m p i w) s := by
  have oQ1 := ho.2.2.1.1
  have hp2 := hp
  unfold am_r at hp hi hw
  by_cases c1 : 0 ≤ p ∧ p < s.2.2.1.length
  · obtain ⟨pn, rfl⟩ := Int.eq_ofNat_of_zero_le c1.1
    have hb := OQ_b ho.2.2.1 pn (by omega)
    by_cases c2 : 0 ≤ i ∧ i < (pt s.2.2.1 pn).length
    · obtain ⟨i0, rfl⟩ := Int.eq_ofNat_of_zero_le c2.1
      by_cases cw : (0 ≤ w ∧ w ≤ 2) ∨ (10 ≤ w ∧ w ≤ 37) ∨ (40 ≤ w ∧ w ≤ 67)
      · refine CJ.same (tlo (hk (pt s.2.2.1 pn) i0) w) ho ?_ ?_
        · intro x h hK
          obtain ⟨hR, nD, hSc, A, B, hB⟩ := id hK
          obtain ⟨⟨o1, ⟨p0, p1, p2, p4, p6, p7, p8, p9, p10, p11, p12⟩, o3, o4, o5, o6, o7, o8, o9⟩, ⟨f3, f5, f13⟩, hA, hQ, hM, hX⟩ := id hB
          have e1 := q6_patchOrNull hB oQ1 hp2
          rw [if_pos c1, Int.toNat_natCast] at e1
          obtain ⟨y1, y2, y3, y4⟩ := hQ pn (by omega)
          have t0 := y2.1.1.1
          have e2 := q3_hunks y2
          have e3 := q3_begins y2 c2.1 c2.2
          have e4 := q3_going y2 c2.1 c2.2
          have e5 := q3_coming y2 c2.1 c2.2
          have e6 := q3_goingLine y2 (k := w - 10) c2.1 c2.2 (by omega)
          have e7 := q3_comingLine y2 (k := w - 40) c2.1 c2.2 (by omega)
          rw [Int.toNat_natCast] at e3 e4 e5 e6 e7
          unfold tlo
          by_cases c3 : w = 0
          · rw [if_pos c3]; simp (disch := omega) only [X6_hunkOf, rr_p, rr_bp, rr_bb, rr_0, rr_lt, rr_blt, rr_le, rr_ble, rr_eq, rr_beq, rr_nl_n, rr_nl_s, rr_bnl_n, rr_bnl_s, rr_cond_t, rr_cond_f, rr_bcond_t, rr_bcond_f, rr_bon, rr_bcv, rr_cv, rr_g, rr_gr, rr_si, rr_sz, rr_sr, rr_al, rr_ld, rr_st, rr_rl, rr_rs, rr_ni, rr_nr, rr_z, rr_div, rr_rem, rr_lc, rr_mx, rr_mn, rr_ab, rr_no, gd_t, bc_t, bc_f, gd_tt, bc_tt, bc_ff, or_true, true_or, and_true, true_and, Nat.reduceAdd, mo_b_s e1, mo_b_s e2, mo_b_s e3]
          · rw [if_neg c3]
            by_cases c3 : w = 1
            · rw [if_pos c3]; simp (disch := omega) only [X6_hunkOf, rr_p, rr_bp, rr_bb, rr_0, rr_lt, rr_blt, rr_le, rr_ble, rr_eq, rr_beq, rr_nl_n, rr_nl_s, rr_bnl_n, rr_bnl_s, rr_cond_t, rr_cond_f, rr_bcond_t, rr_bcond_f, rr_bon, rr_bcv, rr_cv, rr_g, rr_gr, rr_si, rr_sz, rr_sr, rr_al, rr_ld, rr_st, rr_rl, rr_rs, rr_ni, rr_nr, rr_z, rr_div, rr_rem, rr_lc, rr_mx, rr_mn, rr_ab, rr_no, gd_t, bc_t, bc_f, gd_tt, bc_tt, bc_ff, or_true, true_or, and_true, true_and, Nat.reduceAdd, mo_b_s e1, mo_b_s e2, mo_b_s e4]
            · rw [if_neg c3]
              by_cases c3 : w = 2
              · rw [if_pos c3]; simp (disch := omega) only [X6_hunkOf, rr_p, rr_bp, rr_bb, rr_0, rr_lt, rr_blt, rr_le, rr_ble, rr_eq, rr_beq, rr_nl_n, rr_nl_s, rr_bnl_n, rr_bnl_s, rr_cond_t, rr_cond_f, rr_bcond_t, rr_bcond_f, rr_bon, rr_bcv, rr_cv, rr_g, rr_gr, rr_si, rr_sz, rr_sr, rr_al, rr_ld, rr_st, rr_rl, rr_rs, rr_ni, rr_nr, rr_z, rr_div, rr_rem, rr_lc, rr_mx, rr_mn, rr_ab, rr_no, gd_t, bc_t, bc_f, gd_tt, bc_tt, bc_ff, or_true, true_or, and_true, true_and, Nat.reduceAdd, mo_b_s e1, mo_b_s e2, mo_b_s e5]
              · rw [if_neg c3]
                by_cases c3 : w < 40
                · rw [if_pos c3]
                  simp (disch := omega) only [X6_hunkOf, rr_p, rr_bp, rr_bb, rr_0, rr_lt, rr_blt, rr_le, rr_ble, rr_eq, rr_beq, rr_nl_n, rr_nl_s, rr_bnl_n, rr_bnl_s, rr_cond_t, rr_cond_f, rr_bcond_t, rr_bcond_f, rr_bon, rr_bcv, rr_cv, rr_g, rr_gr, rr_si, rr_sz, rr_sr, rr_al, rr_ld, rr_st, rr_rl, rr_rs, rr_ni, rr_nr, rr_z, rr_div, rr_rem, rr_lc, rr_mx, rr_mn, rr_ab, rr_no, gd_t, bc_t, bc_f, gd_tt, bc_tt, bc_ff, or_true, true_or, and_true, true_and, Nat.reduceAdd, mo_b_s e1, mo_b_s e2, mo_b_s e6]
                  by_cases c4 : w - 10 < ((hk (pt s.2.2.1 pn) i0).2.1.length : Int)
                  · rw [if_pos c4, if_pos (by omega)]
                  · rw [if_neg c4, if_neg (by omega)]
                · rw [if_neg c3]
                  simp (disch := omega) only [X6_hunkOf, rr_p, rr_bp, rr_bb, rr_0, rr_lt, rr_blt, rr_le, rr_ble, rr_eq, rr_beq, rr_nl_n, rr_nl_s, rr_bnl_n, rr_bnl_s, rr_cond_t, rr_cond_f, rr_bcond_t, rr_bcond_f, rr_bon, rr_bcv, rr_cv, rr_g, rr_gr, rr_si, rr_sz, rr_sr, rr_al, rr_ld, rr_st, rr_rl, rr_rs, rr_ni, rr_nr, rr_z, rr_div, rr_rem, rr_lc, rr_mx, rr_mn, rr_ab, rr_no, gd_t, bc_t, bc_f, gd_tt, bc_tt, bc_ff, or_true, true_or, and_true, true_and, Nat.reduceAdd, mo_b_s e1, mo_b_s e2, mo_b_s e7]
                  by_cases c4 : w - 40 < ((hk (pt s.2.2.1 pn) i0).2.2.length : Int)
                  · rw [if_pos c4, if_pos (by omega)]
                  · rw [if_neg c4, if_neg (by omega)]
        · intro m h hM
          have mT := hM.1.1
          have hQ := MI_Q hM ho (p := pn) (by omega)
          have w1 := hQ.2.1.1
          obtain ⟨p7, t7, n7⟩ := ms7 hM.1
          have e1 := q7_isPatch hM oQ1 hp2
          rw [bc_t c1] at e1
          have e2 := m_told hQ (i := i0) (by omega) cw
          rcases cw with cw | cw | cw
          · simp (disch := omega) only [X7_hunkOf, X7_within, rr_p, rr_bp, rr_bb, rr_0, rr_lt, rr_blt, rr_le, rr_ble, rr_eq, rr_beq, rr_nl_n, rr_nl_s, rr_bnl_n, rr_bnl_s, rr_cond_t, rr_cond_f, rr_bcond_t, rr_bcond_f, rr_bon, rr_bcv, rr_cv, rr_g, rr_gr, rr_si, rr_sz, rr_sr, rr_al, rr_ld, rr_st, rr_rl, rr_rs, rr_ni, rr_nr, rr_z, rr_div, rr_rem, rr_lc, rr_mx, rr_mn, rr_ab, rr_no, gd_t, bc_t, bc_f, gd_tt, bc_tt, bc_ff, or_true, true_or, and_true, true_and, Nat.reduceAdd, p7, w1, mo_b_s e1, mo_b_s e2]
          · simp (disch := omega) only [X7_hunkOf, X7_within, rr_p, rr_bp, rr_bb, rr_0, rr_lt, rr_blt, rr_le, rr_ble, rr_eq, rr_beq, rr_nl_n, rr_nl_s, rr_bnl_n, rr_bnl_s, rr_cond_t, rr_cond_f, rr_bcond_t, rr_bcond_f, rr_bon, rr_bcv, rr_cv, rr_g, rr_gr, rr_si, rr_sz, rr_sr, rr_al, rr_ld, rr_st, rr_rl, rr_rs, rr_ni, rr_nr, rr_z, rr_div, rr_rem, rr_lc, rr_mx, rr_mn, rr_ab, rr_no, gd_t, bc_t, bc_f, gd_tt, bc_tt, bc_ff, or_true, true_or, and_true, true_and, Nat.reduceAdd, p7, w1, mo_b_s e1, mo_b_s e2]
          · simp (disch := omega) only [X7_hunkOf, X7_within, rr_p, rr_bp, rr_bb, rr_0, rr_lt, rr_blt, rr_le, rr_ble, rr_eq, rr_beq, rr_nl_n, rr_nl_s, rr_bnl_n, rr_bnl_s, rr_cond_t, rr_cond_f, rr_bcond_t, rr_bcond_f, rr_bon, rr_bcv, rr_cv, rr_g, rr_gr, rr_si, rr_sz, rr_sr, rr_al, rr_ld, rr_st, rr_rl, rr_rs, rr_ni, rr_nr, rr_z, rr_div, rr_rem, rr_lc, rr_mx, rr_mn, rr_ab, rr_no, gd_t, bc_t, bc_f, gd_tt, bc_tt, bc_ff, or_true, true_or, and_true, true_and, Nat.reduceAdd, p7, w1, mo_b_s e1, mo_b_s e2]
      · refine CJ.same (-102) ho ?_ ?_
        · intro x h hK
          obtain ⟨hR, nD, hSc, A, B, hB⟩ := id hK
          obtain ⟨⟨o1, ⟨p0, p1, p2, p4, p6, p7, p8, p9, p10, p11, p12⟩, o3, o4, o5, o6, o7, o8, o9⟩, ⟨f3, f5, f13⟩, hA, hQ, hM, hX⟩ := id hB
          have e1 := q6_patchOrNull hB oQ1 hp2
          rw [if_pos c1, Int.toNat_natCast] at e1
          obtain ⟨y1, y2, y3, y4⟩ := hQ pn (by omega)
          have t0 := y2.1.1.1
          have e2 := q3_hunks y2
          by_cases c3 : w < 10
          · simp (disch := omega) only [X6_hunkOf, rr_p, rr_bp, rr_bb, rr_0, rr_lt, rr_blt, rr_le, rr_ble, rr_eq, rr_beq, rr_nl_n, rr_nl_s, rr_bnl_n, rr_bnl_s, rr_cond_t, rr_cond_f, rr_bcond_t, rr_bcond_f, rr_bon, rr_bcv, rr_cv, rr_g, rr_gr, rr_si, rr_sz, rr_sr, rr_al, rr_ld, rr_st, rr_rl, rr_rs, rr_ni, rr_nr, rr_z, rr_div, rr_rem, rr_lc, rr_mx, rr_mn, rr_ab, rr_no, gd_t, bc_t, bc_f, gd_tt, bc_tt, bc_ff, or_true, true_or, and_true, true_and, Nat.reduceAdd, mo_b_s e1, mo_b_s e2]
          · by_cases c4 : w < 40
            · simp (disch := omega) only [X6_hunkOf, rr_p, rr_bp, rr_bb, rr_0, rr_lt, rr_blt, rr_le, rr_ble, rr_eq, rr_beq, rr_nl_n, rr_nl_s, rr_bnl_n, rr_bnl_s, rr_cond_t, rr_cond_f, rr_bcond_t, rr_bcond_f, rr_bon, rr_bcv, rr_cv, rr_g, rr_gr, rr_si, rr_sz, rr_sr, rr_al, rr_ld, rr_st, rr_rl, rr_rs, rr_ni, rr_nr, rr_z, rr_div, rr_rem, rr_lc, rr_mx, rr_mn, rr_ab, rr_no, gd_t, bc_t, bc_f, gd_tt, bc_tt, bc_ff, or_true, true_or, and_true, true_and, Nat.reduceAdd, mo_b_s e1, mo_b_s e2]
            · simp (disch := omega) only [X6_hunkOf, rr_p, rr_bp, rr_bb, rr_0, rr_lt, rr_blt, rr_le, rr_ble, rr_eq, rr_beq, rr_nl_n, rr_nl_s, rr_bnl_n, rr_bnl_s, rr_cond_t, rr_cond_f, rr_bcond_t, rr_bcond_f, rr_bon, rr_bcv, rr_cv, rr_g, rr_gr, rr_si, rr_sz, rr_sr, rr_al, rr_ld, rr_st, rr_rl, rr_rs, rr_ni, rr_nr, rr_z, rr_div, rr_rem, rr_lc, rr_mx, rr_mn, rr_ab, rr_no, gd_t, bc_t, bc_f, gd_tt, bc_tt, bc_ff, or_true, true_or, and_true, true_and, Nat.reduceAdd, mo_b_s e1, mo_b_s e2]
        · intro m h hM
          have mT := hM.1.1
          have hQ := MI_Q hM ho (p := pn) (by omega)
          have w1 := hQ.2.1.1
          obtain ⟨p7, t7, n7⟩ := ms7 hM.1
          have e1 := q7_isPatch hM oQ1 hp2
          rw [bc_t c1] at e1
          have d1 : X7_within w 0 2 h = some (0, h) := by rw [q7_within (by unfold am_r; omega) (by unfold am_r; omega) (by unfold am_r; omega), bc_f (by omega)]
          have d2 : X7_within w 10 37 h = some (0, h) := by rw [q7_within (by unfold am_r; omega) (by unfold am_r; omega) (by unfold am_r; omega), bc_f (by omega)]
          have d3 : X7_within w 40 67 h = some (0, h) := by rw [q7_within (by unfold am_r; omega) (by unfold am_r; omega) (by unfold am_r; omega), bc_f (by omega)]
          have d4 : X7_within (i0 : Int) 0 (((pt s.2.2.1 pn).length : Int) - 1) h = some (1, h) := by rw [q7_within (by unfold am_r; omega) (by unfold am_r; omega) (by unfold am_r; omega), bc_t (by omega)]
          simp (disch := omega) only [X7_hunkOf, rr_p, rr_bp, rr_bb, rr_0, rr_lt, rr_blt, rr_le, rr_ble, rr_eq, rr_beq, rr_nl_n, rr_nl_s, rr_bnl_n, rr_bnl_s, rr_cond_t, rr_cond_f, rr_bcond_t, rr_bcond_f, rr_bon, rr_bcv, rr_cv, rr_g, rr_gr, rr_si, rr_sz, rr_sr, rr_al, rr_ld, rr_st, rr_rl, rr_rs, rr_ni, rr_nr, rr_z, rr_div, rr_rem, rr_lc, rr_mx, rr_mn, rr_ab, rr_no, gd_t, bc_t, bc_f, gd_tt, bc_tt, bc_ff, or_true, true_or, and_true, true_and, Nat.reduceAdd, p7, w1, mo_b_s e1, mo_b_s d1, mo_b_s d2, mo_b_s d3, mo_b_s d4]
    · refine CJ.same (-101) ho ?_ ?_
      · intro x h hK
        obtain ⟨hR, nD, hSc, A, B, hB⟩ := id hK
        obtain ⟨⟨o1, ⟨p0, p1, p2, p4, p6, p7, p8, p9, p10, p11, p12⟩, o3, o4, o5, o6, o7, o8, o9⟩, ⟨f3, f5, f13⟩, hA, hQ, hM, hX⟩ := id hB
        have e1 := q6_patchOrNull hB oQ1 hp2
        rw [if_pos c1, Int.toNat_natCast] at e1
        obtain ⟨y1, y2, y3, y4⟩ := hQ pn (by omega)
        have t0 := y2.1.1.1
        have e2 := q3_hunks y2
        by_cases c3 : i < 0
        · simp (disch := omega) only [X6_hunkOf, rr_p, rr_bp, rr_bb, rr_0, rr_lt, rr_blt, rr_le, rr_ble, rr_eq, rr_beq, rr_nl_n, rr_nl_s, rr_bnl_n, rr_bnl_s, rr_cond_t, rr_cond_f, rr_bcond_t, rr_bcond_f, rr_bon, rr_bcv, rr_cv, rr_g, rr_gr, rr_si, rr_sz, rr_sr, rr_al, rr_ld, rr_st, rr_rl, rr_rs, rr_ni, rr_nr, rr_z, rr_div, rr_rem, rr_lc, rr_mx, rr_mn, rr_ab, rr_no, gd_t, bc_t, bc_f, gd_tt, bc_tt, bc_ff, or_true, true_or, and_true, true_and, Nat.reduceAdd, mo_b_s e1, mo_b_s e2]
        · simp (disch := omega) only [X6_hunkOf, rr_p, rr_bp, rr_bb, rr_0, rr_lt, rr_blt, rr_le, rr_ble, rr_eq, rr_beq, rr_nl_n, rr_nl_s, rr_bnl_n, rr_bnl_s, rr_cond_t, rr_cond_f, rr_bcond_t, rr_bcond_f, rr_bon, rr_bcv, rr_cv, rr_g, rr_gr, rr_si, rr_sz, rr_sr, rr_al, rr_ld, rr_st, rr_rl, rr_rs, rr_ni, rr_nr, rr_z, rr_div, rr_rem, rr_lc, rr_mx, rr_mn, rr_ab, rr_no, gd_t, bc_t, bc_f, gd_tt, bc_tt, bc_ff, or_true, true_or, and_true, true_and, Nat.reduceAdd, mo_b_s e1, mo_b_s e2]
      · intro m h hM
        have mT := hM.1.1
        have hQ := MI_Q hM ho (p := pn) (by omega)
        have w1 := hQ.2.1.1
        obtain ⟨p7, t7, n7⟩ := ms7 hM.1
        have e1 := q7_isPatch hM oQ1 hp2
        rw [bc_t c1] at e1
        have d4 : X7_within i 0 (((pt s.2.2.1 pn).length : Int) - 1) h = some (0, h) := by rw [q7_within (by unfold am_r; omega) (by unfold am_r; omega) (by unfold am_r; omega), bc_f (by omega)]
        simp (disch := omega) only [X7_hunkOf, rr_p, rr_bp, rr_bb, rr_0, rr_lt, rr_blt, rr_le, rr_ble, rr_eq, rr_beq, rr_nl_n, rr_nl_s, rr_bnl_n, rr_bnl_s, rr_cond_t, rr_cond_f, rr_bcond_t, rr_bcond_f, rr_bon, rr_bcv, rr_cv, rr_g, rr_gr, rr_si, rr_sz, rr_sr, rr_al, rr_ld, rr_st, rr_rl, rr_rs, rr_ni, rr_nr, rr_z, rr_div, rr_rem, rr_lc, rr_mx, rr_mn, rr_ab, rr_no, gd_t, bc_t, bc_f, gd_tt, bc_tt, bc_ff, or_true, true_or, and_true, true_and, Nat.reduceAdd, p7, w1, mo_b_s e1, mo_b_s d4]
  · refine CJ.same (-101) ho ?_ ?_
    · intro x h hK
      obtain ⟨hR, nD, hSc, A, B, hB⟩ := id hK
      obtain ⟨⟨o1, ⟨p0, p1, p2, p4, p6, p7, p8, p9, p10, p11, p12⟩, o3, o4, o5, o6, o7, o8, o9⟩, ⟨f3, f5, f13⟩, hA, hQ, hM, hX⟩ := id hB
      have e1 := q6_patchOrNull hB oQ1 hp2
      rw [if_neg c1] at e1
      simp (disch := omega) only [X6_hunkOf, rr_p, rr_bp, rr_bb, rr_0, rr_lt, rr_blt, rr_le, rr_ble, rr_eq, rr_beq, rr_nl_n, rr_nl_s, rr_bnl_n, rr_bnl_s, rr_cond_t, rr_cond_f, rr_bcond_t, rr_bcond_f, rr_bon, rr_bcv, rr_cv, rr_g, rr_gr, rr_si, rr_sz, rr_sr, rr_al, rr_ld, rr_st, rr_rl, rr_rs, rr_ni, rr_nr, rr_z, rr_div, rr_rem, rr_lc, rr_mx, rr_mn, rr_ab, rr_no, gd_t, bc_t, bc_f, gd_tt, bc_tt, bc_ff, or_true, true_or, and_true, true_and, Nat.reduceAdd, mo_b_s e1]
    · intro m h hM
      have mT := hM.1.1
      have e1 := q7_isPatch hM oQ1 hp2
      rw [bc_f c1] at e1
      simp (disch := omega) only [X7_hunkOf, rr_p, rr_bp, rr_bb, rr_0, rr_lt, rr_blt, rr_le, rr_ble, rr_eq, rr_beq, rr_nl_n, rr_nl_s, rr_bnl_n, rr_bnl_s, rr_cond_t, rr_cond_f, rr_bcond_t, rr_bcond_f, rr_bon, rr_bcv, rr_cv, rr_g, rr_gr, rr_si, rr_sz, rr_sr, rr_al, rr_ld, rr_st, rr_rl, rr_rs, rr_ni, rr_nr, rr_z, rr_div, rr_rem, rr_lc, rr_mx, rr_mn, rr_ab, rr_no, gd_t, bc_t, bc_f, gd_tt, bc_tt, bc_ff, or_true, true_or, and_true, true_and, Nat.reduceAdd, mo_b_s e1]
