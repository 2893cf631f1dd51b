def agC (P Q : List HK) (i j : Nat) : Prop := ∃ z : Int, (hB P i ≤ z ∧ z < hB P i + ((hk P i).2.2.length : Int)) ∧ ((hk Q j).1 ≤ z ∧ z < (hk Q j).1 + ((hk Q j).2.1.length : Int)) ∧ (hk P i).2.2.getD (z - hB P i).toNat 0 ≠ (hk Q j).2.1.getD (z - (hk Q j).1).toNat 0
theorem q7_ag64 {h : AH} {m p q i j : Nat} {P Q : List HK} (hP : mQ h m p P) (hQ : mQ h m q Q) (vP : pV P) (vQ : pV Q) (hi : i < P.length) (hj : j < Q.length) {s : Int} (hs : s = if hB P i ≤ (hk Q j).1 then (hk Q j).1 else hB P i) (h0 : 0 ≤ hB P i) : mo_lp mo_N (X7_agree_L64 (hB P i) (hk Q j).1 m (p : Int) (q : Int) (i : Int) (j : Int)) s h = some (br (agC P Q i j) (.inr (.inr 0)) (.inl ((j : Int) + 1)), h) := by
  obtain ⟨hS, hPt, hp, l1, l2, l3⟩ := id hP
  obtain ⟨-, hQt, hq, k1, k2, k3⟩ := id hQ
  have mT := hS.1
  obtain ⟨p9, t9, n9⟩ := ms9 hS
  obtain ⟨p10, t10, n10⟩ := ms10 hS
  obtain ⟨p11, t11, n11⟩ := ms11 hS
  obtain ⟨p12, t12, n12⟩ := ms12 hS
  obtain ⟨a1, a2, a3⟩ := mQ_a hP (i := (i : Int)) (by omega) (by omega)
  obtain ⟨b1, b2, b3⟩ := mQ_a hQ (i := (j : Int)) (by omega) (by omega)
  rw [Int.toNat_natCast] at a3 b2
  have r1 := hB_rM hP vP i
  have r2 := (vQ j).1
  have g1 := @hcs_s P i hi
  have g2 := @hcs_le P (i + 1)
  have g3 := @hgs_s Q j hj
  have g4 := @hgs_le Q (j + 1)
  have e1 := q7_comeFrom hP (i := i) (by omega)
  have e2 := q7_goFrom hQ (i := j) (by omega)
  have hs2 : hB P i ≤ s ∧ (hk Q j).1 ≤ s ∧ (s = hB P i ∨ s = (hk Q j).1) := by
    by_cases c : hB P i ≤ (hk Q j).1
    · rw [if_pos c] at hs; omega
    · rw [if_neg c] at hs; omega
  have hL := lp_inv (F := X7_agree_L64 (hB P i) (hk Q j).1 m (p : Int) (q : Int) (i : Int) (j : Int)) (fun z h' => h' = h ∧ s ≤ z ∧ z ≤ s + 100 ∧ (z = s ∨ z ≤ hB P i + ((hk P i).2.2.length : Int)) ∧ ∀ y, s ≤ y → y < z → y < hB P i + ((hk P i).2.2.length : Int) → y < (hk Q j).1 + ((hk Q j).2.1.length : Int) → (hk P i).2.2.getD (y - hB P i).toNat 0 = (hk Q j).2.1.getD (y - (hk Q j).1).toNat 0) (fun z => (s + 100 - z).toNat) (fun r h' => h' = h ∧ r = br (agC P Q i j) (.inr (.inr 0)) (.inl ((j : Int) + 1))) ?_ mo_N s h ⟨rfl, by omega, by omega, by omega, fun y y1 y2 => by omega⟩ (by rw [mo_N_v]; omega)
  · obtain ⟨b, h', e3, rfl, rfl⟩ := hL
    exact e3
  · rintro z h' ⟨rfl, z1, z2, z3, z4⟩
    have hno : (hB P i + ((hk P i).2.2.length : Int) ≤ z ∨ (hk Q j).1 + ((hk Q j).2.1.length : Int) ≤ z) → ¬ agC P Q i j := by
      rintro hz ⟨y, ⟨y1, y2⟩, ⟨y3, y4⟩, y5⟩
      exact y5 (z4 y (by omega) (by omega) y2 y4)
    by_cases c1 : z < hB P i + ((hk P i).2.2.length : Int)
    · by_cases c2 : z < (hk Q j).1 + ((hk Q j).2.1.length : Int)
      · have q1 := mQ_cl hP (i := i) (k := (z - hB P i).toNat) hi (by omega)
        have q2 := mQ_gl hQ (i := j) (k := (z - (hk Q j).1).toNat) hj (by omega)
        rw [show 28 * (p : Int) + (hcs P i : Int) + (((z - hB P i).toNat : Nat) : Int) = 28 * (p : Int) + (hcs P i : Int) + z - hB P i by omega] at q1
        rw [show 28 * (q : Int) + (hgs Q j : Int) + (((z - (hk Q j).1).toNat : Nat) : Int) = 28 * (q : Int) + (hgs Q j : Int) + z - (hk Q j).1 by omega] at q2
        have r3 := (vP i).2.2 (z - hB P i).toNat
        have r4 := (vQ j).2.1 (z - (hk Q j).1).toNat
        by_cases cv : (hk P i).2.2.getD (z - hB P i).toNat 0 = (hk Q j).2.1.getD (z - (hk Q j).1).toNat 0
        · left
          refine ⟨z + 1, h', by simp (disch := omega) only [X7_agree_L64, rr_p, rr_bp, rr_bb, rr_0, rr_lt, rr_blt, rr_le, rr_ble, rr_eq, rr_beq, rr_nl_n, rr_nl_s, rr_bnl_n, rr_bnl_s, rr_cond_t, rr_cond_f, rr_bcond_t, rr_bcond_f, rr_bon, rr_bcv, rr_cv, rr_g, rr_gr, rr_si, rr_sz, rr_sr, rr_al, rr_ld, rr_st, rr_rl, rr_rs, rr_ni, rr_nr, rr_z, rr_div, rr_rem, rr_lc, rr_mx, rr_mn, rr_ab, rr_no, gd_t, bc_t, bc_f, gd_tt, bc_tt, bc_ff, or_true, true_or, and_true, true_and, Nat.reduceAdd, p9, p10, p11, p12, a3, b2, mo_b_s e1, mo_b_s e2, q1, q2], ⟨rfl, by omega, by omega, by omega, fun y y1 y2 y3 y4 => ?_⟩, by omega⟩
          by_cases cy : y = z
          · subst cy; exact cv
          · exact z4 y y1 (by omega) y3 y4
        · right
          refine ⟨.inr (.inr 0), h', by simp (disch := omega) only [X7_agree_L64, rr_p, rr_bp, rr_bb, rr_0, rr_lt, rr_blt, rr_le, rr_ble, rr_eq, rr_beq, rr_nl_n, rr_nl_s, rr_bnl_n, rr_bnl_s, rr_cond_t, rr_cond_f, rr_bcond_t, rr_bcond_f, rr_bon, rr_bcv, rr_cv, rr_g, rr_gr, rr_si, rr_sz, rr_sr, rr_al, rr_ld, rr_st, rr_rl, rr_rs, rr_ni, rr_nr, rr_z, rr_div, rr_rem, rr_lc, rr_mx, rr_mn, rr_ab, rr_no, gd_t, bc_t, bc_f, gd_tt, bc_tt, bc_ff, or_true, true_or, and_true, true_and, Nat.reduceAdd, p9, p10, p11, p12, a3, b2, mo_b_s e1, mo_b_s e2, q1, q2], rfl, ?_⟩
          rw [bc_t ⟨z, ⟨by omega, c1⟩, ⟨by omega, c2⟩, cv⟩]
      · right
        refine ⟨.inl ((j : Int) + 1), h', by simp (disch := omega) only [X7_agree_L64, rr_p, rr_bp, rr_bb, rr_0, rr_lt, rr_blt, rr_le, rr_ble, rr_eq, rr_beq, rr_nl_n, rr_nl_s, rr_bnl_n, rr_bnl_s, rr_cond_t, rr_cond_f, rr_bcond_t, rr_bcond_f, rr_bon, rr_bcv, rr_cv, rr_g, rr_gr, rr_si, rr_sz, rr_sr, rr_al, rr_ld, rr_st, rr_rl, rr_rs, rr_ni, rr_nr, rr_z, rr_div, rr_rem, rr_lc, rr_mx, rr_mn, rr_ab, rr_no, gd_t, bc_t, bc_f, gd_tt, bc_tt, bc_ff, or_true, true_or, and_true, true_and, Nat.reduceAdd, p9, p10, a3, b2], rfl, ?_⟩
        rw [bc_f (hno (by omega))]
    · right
      refine ⟨.inl ((j : Int) + 1), h', by simp (disch := omega) only [X7_agree_L64, rr_p, rr_bp, rr_bb, rr_0, rr_lt, rr_blt, rr_le, rr_ble, rr_eq, rr_beq, rr_nl_n, rr_nl_s, rr_bnl_n, rr_bnl_s, rr_cond_t, rr_cond_f, rr_bcond_t, rr_bcond_f, rr_bon, rr_bcv, rr_cv, rr_g, rr_gr, rr_si, rr_sz, rr_sr, rr_al, rr_ld, rr_st, rr_rl, rr_rs, rr_ni, rr_nr, rr_z, rr_div, rr_rem, rr_lc, rr_mx, rr_mn, rr_ab, rr_no, gd_t, bc_t, bc_f, gd_tt, bc_tt, bc_ff, or_true, true_or, and_true, true_and, Nat.reduceAdd, p10, a3], rfl, ?_⟩
      rw [bc_f (hno (by omega))]
theorem q7_agree {h : AH} {m p q : Nat} {P Q : List HK} (hP : mQ h m p P) (hQ : mQ h m q Q) (vP : pV P) (vQ : pV Q) (sP : sW P) : X7_agree m (p : Int) (q : Int) h = some (br (agW P Q) 1 0, h) := by
  obtain ⟨hS, hPt, hp, l1, l2, l3⟩ := id hP
  obtain ⟨-, hQt, hq, k1, k2, k3⟩ := id hQ
  have mT := hS.1
  have w1 := hPt.1
  have w2 := hQt.1
  obtain ⟨p7, t7, n7⟩ := ms7 hS
  obtain ⟨p8, t8, n8⟩ := ms8 hS
  have inner : ∀ i : Nat, i < P.length → mo_lp mo_N (X7_agree_L23 (hB P i) m (p : Int) (q : Int) (i : Int)) 0 h = some (br (∃ j, j < Q.length ∧ agC P Q i j) (.inr 0) (.inl ((i : Int) + 1)), h) := by
    intro i hi
    have r1 := hB_rM hP vP i
    have h0 := hB_0 sP hi
    have hs := lp_sr (F := X7_agree_L23 (hB P i) m (p : Int) (q : Int) (i : Int)) (h := h) (fun j => agC P Q i j) (fun _ => .inr 0) (.inl ((i : Int) + 1)) Q.length ?_ ?_ ?_ Q.length 0 mo_N (by omega) (by rw [mo_N_v]; omega)
    · rw [sr_c] at hs
      have e : (∃ j, 0 ≤ j ∧ j < 0 + Q.length ∧ agC P Q i j) ↔ ∃ j, j < Q.length ∧ agC P Q i j := ⟨fun ⟨j, _, h2, h3⟩ => ⟨j, by omega, h3⟩, fun ⟨j, h2, h3⟩ => ⟨j, by omega, by omega, h3⟩⟩
      rw [propext e] at hs
      exact hs
    · intro j hj hn
      obtain ⟨b1, b2, b3⟩ := mQ_a hQ (i := (j : Int)) (by omega) (by omega)
      rw [Int.toNat_natCast] at b1
      have r2 := (vQ j).1
      by_cases c : hB P i ≤ (hk Q j).1
      · have e1 := q7_ag64 hP hQ vP vQ hi hj (s := (hk Q j).1) (by rw [if_pos c]) h0
        rw [bc_f hn] at e1
        simp (disch := omega) only [X7_agree_L23, rr_p, rr_bp, rr_bb, rr_0, rr_lt, rr_blt, rr_le, rr_ble, rr_eq, rr_beq, rr_nl_n, rr_nl_s, rr_bnl_n, rr_bnl_s, rr_cond_t, rr_cond_f, rr_bcond_t, rr_bcond_f, rr_bon, rr_bcv, rr_cv, rr_g, rr_gr, rr_si, rr_sz, rr_sr, rr_al, rr_ld, rr_st, rr_rl, rr_rs, rr_ni, rr_nr, rr_z, rr_div, rr_rem, rr_lc, rr_mx, rr_mn, rr_ab, rr_no, gd_t, bc_t, bc_f, gd_tt, bc_tt, bc_ff, or_true, true_or, and_true, true_and, Nat.reduceAdd, p7, p8, w2, b1, e1]
      · have e1 := q7_ag64 hP hQ vP vQ hi hj (s := hB P i) (by rw [if_neg c]) h0
        rw [bc_f hn] at e1
        simp (disch := omega) only [X7_agree_L23, rr_p, rr_bp, rr_bb, rr_0, rr_lt, rr_blt, rr_le, rr_ble, rr_eq, rr_beq, rr_nl_n, rr_nl_s, rr_bnl_n, rr_bnl_s, rr_cond_t, rr_cond_f, rr_bcond_t, rr_bcond_f, rr_bon, rr_bcv, rr_cv, rr_g, rr_gr, rr_si, rr_sz, rr_sr, rr_al, rr_ld, rr_st, rr_rl, rr_rs, rr_ni, rr_nr, rr_z, rr_div, rr_rem, rr_lc, rr_mx, rr_mn, rr_ab, rr_no, gd_t, bc_t, bc_f, gd_tt, bc_tt, bc_ff, or_true, true_or, and_true, true_and, Nat.reduceAdd, p7, p8, w2, b1, e1]
    · intro j hj hn
      obtain ⟨b1, b2, b3⟩ := mQ_a hQ (i := (j : Int)) (by omega) (by omega)
      rw [Int.toNat_natCast] at b1
      have r2 := (vQ j).1
      by_cases c : hB P i ≤ (hk Q j).1
      · have e1 := q7_ag64 hP hQ vP vQ hi hj (s := (hk Q j).1) (by rw [if_pos c]) h0
        rw [bc_t hn] at e1
        simp (disch := omega) only [X7_agree_L23, rr_p, rr_bp, rr_bb, rr_0, rr_lt, rr_blt, rr_le, rr_ble, rr_eq, rr_beq, rr_nl_n, rr_nl_s, rr_bnl_n, rr_bnl_s, rr_cond_t, rr_cond_f, rr_bcond_t, rr_bcond_f, rr_bon, rr_bcv, rr_cv, rr_g, rr_gr, rr_si, rr_sz, rr_sr, rr_al, rr_ld, rr_st, rr_rl, rr_rs, rr_ni, rr_nr, rr_z, rr_div, rr_rem, rr_lc, rr_mx, rr_mn, rr_ab, rr_no, gd_t, bc_t, bc_f, gd_tt, bc_tt, bc_ff, or_true, true_or, and_true, true_and, Nat.reduceAdd, p7, p8, w2, b1, e1]
      · have e1 := q7_ag64 hP hQ vP vQ hi hj (s := hB P i) (by rw [if_neg c]) h0
        rw [bc_t hn] at e1
        simp (disch := omega) only [X7_agree_L23, rr_p, rr_bp, rr_bb, rr_0, rr_lt, rr_blt, rr_le, rr_ble, rr_eq, rr_beq, rr_nl_n, rr_nl_s, rr_bnl_n, rr_bnl_s, rr_cond_t, rr_cond_f, rr_bcond_t, rr_bcond_f, rr_bon, rr_bcv, rr_cv, rr_g, rr_gr, rr_si, rr_sz, rr_sr, rr_al, rr_ld, rr_st, rr_rl, rr_rs, rr_ni, rr_nr, rr_z, rr_div, rr_rem, rr_lc, rr_mx, rr_mn, rr_ab, rr_no, gd_t, bc_t, bc_f, gd_tt, bc_tt, bc_ff, or_true, true_or, and_true, true_and, Nat.reduceAdd, p7, p8, w2, b1, e1]
    · simp (disch := omega) only [X7_agree_L23, rr_p, rr_bp, rr_bb, rr_0, rr_lt, rr_blt, rr_le, rr_ble, rr_eq, rr_beq, rr_nl_n, rr_nl_s, rr_bnl_n, rr_bnl_s, rr_cond_t, rr_cond_f, rr_bcond_t, rr_bcond_f, rr_bon, rr_bcv, rr_cv, rr_g, rr_gr, rr_si, rr_sz, rr_sr, rr_al, rr_ld, rr_st, rr_rl, rr_rs, rr_ni, rr_nr, rr_z, rr_div, rr_rem, rr_lc, rr_mx, rr_mn, rr_ab, rr_no, gd_t, bc_t, bc_f, gd_tt, bc_tt, bc_ff, or_true, true_or, and_true, true_and, Nat.reduceAdd, p7, w2]
  have hs := lp_sr (F := X7_agree_L2 m (p : Int) (q : Int)) (h := h) (fun i => ∃ j, j < Q.length ∧ agC P Q i j) (fun _ => 0) 1 P.length ?_ ?_ ?_ P.length 0 mo_N (by omega) (by rw [mo_N_v]; omega)
  · rw [sr_c] at hs
    have e : (∃ i, 0 ≤ i ∧ i < 0 + P.length ∧ ∃ j, j < Q.length ∧ agC P Q i j) ↔ ¬ agW P Q := by
      constructor
      · rintro ⟨i, _, h2, j, h3, z, ⟨z1, z2⟩, ⟨z3, z4⟩, z5⟩ ha
        exact z5 (ha i j z (by omega) h3 z1 z2 z3 z4)
      · intro hn
        by_cases c : ∃ i, 0 ≤ i ∧ i < 0 + P.length ∧ ∃ j, j < Q.length ∧ agC P Q i j
        · exact c
        · refine absurd (fun i j z hi hj h1 h2 h3 h4 => ?_) hn
          by_cases c2 : (hk P i).2.2.getD (z - hB P i).toNat 0 = (hk Q j).2.1.getD (z - (hk Q j).1).toNat 0
          · exact c2
          · exact absurd ⟨i, by omega, by omega, j, hj, z, ⟨h1, h2⟩, ⟨h3, h4⟩, c2⟩ c
    rw [propext e] at hs
    have hs : X7_agree m (p : Int) (q : Int) h = _ := hs
    rw [hs]
    by_cases ca : agW P Q
    · rw [bc_f (fun z => z ca), bc_t ca]
    · rw [bc_t ca, bc_f ca]
  · intro i hi hn
    have e1 := inner i hi
    rw [bc_f hn] at e1
    have e2 := q7_standsAt hP hi
    simp (disch := omega) only [X7_agree_L2, rr_p, rr_bp, rr_bb, rr_0, rr_lt, rr_blt, rr_le, rr_ble, rr_eq, rr_beq, rr_nl_n, rr_nl_s, rr_bnl_n, rr_bnl_s, rr_cond_t, rr_cond_f, rr_bcond_t, rr_bcond_f, rr_bon, rr_bcv, rr_cv, rr_g, rr_gr, rr_si, rr_sz, rr_sr, rr_al, rr_ld, rr_st, rr_rl, rr_rs, rr_ni, rr_nr, rr_z, rr_div, rr_rem, rr_lc, rr_mx, rr_mn, rr_ab, rr_no, gd_t, bc_t, bc_f, gd_tt, bc_tt, bc_ff, or_true, true_or, and_true, true_and, Nat.reduceAdd, p7, w1, mo_b_s e2, e1]
  · intro i hi hn
    have e1 := inner i hi
    rw [bc_t hn] at e1
    have e2 := q7_standsAt hP hi
    simp (disch := omega) only [X7_agree_L2, rr_p, rr_bp, rr_bb, rr_0, rr_lt, rr_blt, rr_le, rr_ble, rr_eq, rr_beq, rr_nl_n, rr_nl_s, rr_bnl_n, rr_bnl_s, rr_cond_t, rr_cond_f, rr_bcond_t, rr_bcond_f, rr_bon, rr_bcv, rr_cv, rr_g, rr_gr, rr_si, rr_sz, rr_sr, rr_al, rr_ld, rr_st, rr_rl, rr_rs, rr_ni, rr_nr, rr_z, rr_div, rr_rem, rr_lc, rr_mx, rr_mn, rr_ab, rr_no, gd_t, bc_t, bc_f, gd_tt, bc_tt, bc_ff, or_true, true_or, and_true, true_and, Nat.reduceAdd, p7, w1, mo_b_s e2, e1]
  · simp (disch := omega) only [X7_agree_L2, rr_p, rr_bp, rr_bb, rr_0, rr_lt, rr_blt, rr_le, rr_ble, rr_eq, rr_beq, rr_nl_n, rr_nl_s, rr_bnl_n, rr_bnl_s, rr_cond_t, rr_cond_f, rr_bcond_t, rr_bcond_f, rr_bon, rr_bcv, rr_cv, rr_g, rr_gr, rr_si, rr_sz, rr_sr, rr_al, rr_ld, rr_st, rr_rl, rr_rs, rr_ni, rr_nr, rr_z, rr_div, rr_rem, rr_lc, rr_mx, rr_mn, rr_ab, rr_no, gd_t, bc_t, bc_f, gd_tt, bc_tt, bc_ff, or_true, true_or, and_true, true_and, Nat.reduceAdd, p7, w1]
theorem q7_together {h : AH} {m p q : Nat} {b0 : Int} {P Q : List HK} (hP : mQ h m p P) (hQ : mQ h m q Q) (oP : OP b0 P) (oQ : OP b0 Q) (hb0 : b0 ≤ 900) (hW : mW h m []) : ∃ h', mo_lp mo_N (X7_together_L43 m (p : Int) (q : Int)) (0, 0, 0) h = some ((), h') ∧ mW h' m (tg P Q (P.length + Q.length) 0 0 []) ∧ MF m 13 18 16 23 h h' := by
  have vP := OP_pV oP (by omega)
  have vQ := OP_pV oQ (by omega)
  have lP := oP.2.1
  have lQ := oQ.2.1
  have hL := lp_inv (F := X7_together_L43 m (p : Int) (q : Int)) (fun s h' => ∃ (n i j : Nat) (acc : List HK), s = ((i : Int), (j : Int), shf P i) ∧ n ≤ i + j ∧ n ≤ P.length + Q.length ∧ mW h' m acc ∧ MF m 13 18 16 23 h h' ∧ tI (b0 + 28) P Q i j acc ∧ tg P Q (P.length + Q.length - n) i j acc = tg P Q (P.length + Q.length) 0 0 []) (fun s => ((P.length : Int) + (Q.length : Int) - s.1 - s.2.1).toNat) (fun _ h' => mW h' m (tg P Q (P.length + Q.length) 0 0 []) ∧ MF m 13 18 16 23 h h') ?_ mo_N (0, 0, 0) h ⟨0, 0, 0, [], rfl, by omega, by omega, hW, MF.rf, tI_0 oP.1 oQ.1, rfl⟩ (by rw [mo_N_v]; dsimp only; omega)
  · obtain ⟨_, h', e, q⟩ := hL; exact ⟨h', e, q⟩
  · rintro s h' ⟨n, i, j, acc, rfl, hn, hn2, hA, hf, hT, hE⟩
    have hP' := mQ_fr hP hf (by omega)
    have hQ' := mQ_fr hQ hf (by omega)
    have mT := hP'.1.1
    have pl := hP'.2.2.1
    have ql := hQ'.2.2.1
    have w1 := hP'.2.1.1
    have w2 := hQ'.2.1.1
    obtain ⟨p7, t7, n7⟩ := ms7 hP'.1
    obtain ⟨p8, t8, n8⟩ := ms8 hP'.1
    have hT2 := hT
    obtain ⟨ep, ⟨t1, t2, t3⟩, ⟨t4, t5⟩, ⟨t6, t7⟩, ⟨t8, t9, t10⟩, -⟩ := hT2
    by_cases cl : i < P.length ∨ j < Q.length
    · left
      obtain ⟨i1, j1, e, e2, hS, hX⟩ := q7_closure hP' hQ' vP vQ oP.1 oQ.1 t1 t2 cl rfl
      obtain ⟨u1, ⟨u2, u3, u4, u5⟩, u6, u7, u8, u9⟩ := tI_step oP oQ hT cl hS hX
      obtain ⟨G1, G2, G3⟩ := gL_f (X := ivP P) (Y := ivQ Q) cl
      have hes := tg_s (n := P.length + Q.length - n - 1) (acc := acc) cl hS hX
      rw [show P.length + Q.length - n - 1 + 1 = P.length + Q.length - n by omega, hE] at hes
      obtain ⟨⟨⟨-, -, cle⟩, D1, D2⟩, -, -, hcnt⟩ := id hS
      have hcnt : e - gL (ivP P) (ivQ Q) i j ≤ ((hcs P i1 : Int) - (hcs P i : Int)) + ((hgs Q j1 : Int) - (hgs Q j : Int)) := hcnt
      have z1 := @hcs_le P i1
      have z2 := @hgs_le Q j1
      have z3 := @hgs_le P i1
      have z4 := @hcs_le Q j1
      have z5 := oP.2.2.1
      have z6 := oP.2.2.2.1
      have z7 := oQ.2.2.1
      have z8 := oQ.2.2.2.1
      have rlo : 0 ≤ gL (ivP P) (ivQ Q) i j ∧ gL (ivP P) (ivQ Q) i j ≤ 100056 := by
        rcases G3 with ⟨y1, y2⟩ | ⟨y1, y2⟩
        · rw [y2]; exact ⟨hB_0 oP.1 y1, (hB_rM hP vP i).2⟩
        · rw [y2]; have q1 := (vQ j).1; have q2 := oQ.1.1 j y1; show 0 ≤ (hk Q j).1 ∧ (hk Q j).1 ≤ 100056; omega
      have hlo : ep < gL (ivP P) (ivQ Q) i j := by
        rcases G3 with ⟨y1, y2⟩ | ⟨y1, y2⟩
        · rw [y2]; exact t4 y1
        · rw [y2]; exact t5 y1
      have outQ : ∀ z : Int, gL (ivP P) (ivQ Q) i j ≤ z → z < e → ∀ t, t < Q.length → (t < j ∨ j1 ≤ t) → ¬ ((hk Q t).1 ≤ z ∧ z < (hk Q t).1 + ((hk Q t).2.1.length : Int)) := by
        rintro z y1 y2 t y3 (y4 | y4)
        · have := t7 t y4; omega
        · have x1 : e < (hk Q j1).1 := hX.2 (by show j1 < Q.length; omega)
          by_cases c : t = j1
          · subst c; omega
          · have := (sW_mono oQ.1 t j1 (by omega) y3).2 (by omega); omega
      have outP : ∀ z : Int, gL (ivP P) (ivQ Q) i j ≤ z → z < e → ∀ t, t < P.length → (t < i ∨ i1 ≤ t) → ¬ (hB P t ≤ z ∧ z < hB P t + ((hk P t).2.2.length : Int)) := by
        rintro z y1 y2 t y3 (y4 | y4)
        · have := t6 t y4; omega
        · have x1 : e < hB P i1 := hX.1 (by show i1 < P.length; omega)
          by_cases c : t = i1
          · subst c; omega
          · have := hB_mono oP.1 i1 t (by omega) y3; omega
      obtain ⟨h3, e4, r4, g4⟩ := q7_newHunk hP'.1 hA (p := gL (ivP P) (ivQ Q) i j - shf P i) (by omega)
      have hP3 := mQ_fr hP' g4 (by omega)
      have hQ3 := mQ_fr hQ' g4 (by omega)
      have mT3 := hP3.1.1
      obtain ⟨h4, e5, r5, g5⟩ := q7_layAhead hP3 hQ3 vP vQ oP.1 oQ.1 r4 ⟨u2, u3⟩ ⟨u4, u5⟩ rlo.1 cle (by omega) (fun hr => G1 hr) D1 outQ (by omega) (by
        have : (fG acc).length + (gH P Q i j i1 j1 (gL (ivP P) (ivQ Q) i j) e).2.1.length ≤ 120 := by omega
        exact this)
      have hP4 := mQ_fr hP3 g5 (by omega)
      have hQ4 := mQ_fr hQ3 g5 (by omega)
      have mT4 := hP4.1.1
      obtain ⟨h5, e6, r6, g6⟩ := q7_layBehind hP4 hQ4 vP vQ oP.1 oQ.1 r5 ⟨u2, u3⟩ ⟨u4, u5⟩ rlo.1 cle (by omega) (fun hr => G2 hr) D2 outP (by omega) (by
        have : (fC acc).length + (gH P Q i j i1 j1 (gL (ivP P) (ivQ Q) i j) e).2.2.length ≤ 120 := by omega
        exact this)
      have r6 : mW h5 m (acc ++ [gH P Q i j i1 j1 (gL (ivP P) (ivQ Q) i j) e]) := r6
      have hP5 := mQ_fr hP4 g6 (by omega)
      have mT5 := hP5.1.1
      have e7 := q7_shiftSum hP5 (i := i) (i1 := i1) ⟨u2, u3⟩
      have vA := (tI_pV u7 (by omega)) acc.length
      rw [hk_last] at vA
      obtain ⟨h6, e8, r8, g8⟩ := q7_leaveOutIdle hP5.1 r6 (by omega) (by rw [fG_app, fG_one, List.length_append]; omega) (by rw [fC_app, fC_one, List.length_append]; omega) vA.2.1 vA.2.2
      have F : MF m 13 18 16 23 h h6 := hf.tr (((g4.tr g5 (a3 := 13) (b3 := 18) (c3 := 16) (d3 := 23) (by omega)).tr g6 (a3 := 13) (b3 := 18) (c3 := 16) (d3 := 23) (by omega)).tr g8 (a3 := 13) (b3 := 18) (c3 := 16) (d3 := 23) (by omega)) (by omega)
      refine ⟨((i1 : Int), (j1 : Int), shf P i1), h6, ?_, ⟨n + 1, i1, j1, _, rfl, by omega, by omega, r8, F, ?_, ?_⟩, by dsimp only; omega⟩
      · by_cases ci : i < P.length
        · have E1 := q7_standsAt hP' ci
          have rB := hB_rM hP' vP i
          by_cases cj : j < Q.length
          · obtain ⟨b1, b2, b3⟩ := mQ_a hQ' (i := (j : Int)) (by omega) (by omega)
            rw [Int.toNat_natCast] at b1
            have r2 := (vQ j).1
            by_cases cc : hB P i ≤ (hk Q j).1
            · have eL : gL (ivP P) (ivQ Q) i j = hB P i := bc_t ⟨ci, fun _ => cc⟩
              rw [bc_t ⟨ci, fun _ => cc⟩, eL] at e2
              rw [eL] at e4 e5 e6
              simp (disch := omega) only [X7_together_L43, rr_p, rr_bp, rr_bb, rr_0, rr_lt, rr_blt, rr_le, rr_ble, rr_eq, rr_beq, rr_nl_n, rr_nl_s, rr_bnl_n, rr_bnl_s, rr_cond_t, rr_cond_f, rr_bcond_t, rr_bcond_f, rr_bon, rr_bcv, rr_cv, rr_g, rr_gr, rr_si, rr_sz, rr_sr, rr_al, rr_ld, rr_st, rr_rl, rr_rs, rr_ni, rr_nr, rr_z, rr_div, rr_rem, rr_lc, rr_mx, rr_mn, rr_ab, rr_no, gd_t, bc_t, bc_f, gd_tt, bc_tt, bc_ff, or_true, true_or, and_true, true_and, Nat.reduceAdd, p7, p8, w1, w2, b1, mo_b_s E1, mo_b_s e2, mo_b_s e4, mo_b_s e5, mo_b_s e6, mo_b_s e7, mo_b_s e8]
            · have eL : gL (ivP P) (ivQ Q) i j = (hk Q j).1 := bc_f (fun z => cc (z.2 cj))
              rw [bc_f (fun z => cc (z.2 cj)), eL] at e2
              rw [eL] at e4 e5 e6
              simp (disch := omega) only [X7_together_L43, rr_p, rr_bp, rr_bb, rr_0, rr_lt, rr_blt, rr_le, rr_ble, rr_eq, rr_beq, rr_nl_n, rr_nl_s, rr_bnl_n, rr_bnl_s, rr_cond_t, rr_cond_f, rr_bcond_t, rr_bcond_f, rr_bon, rr_bcv, rr_cv, rr_g, rr_gr, rr_si, rr_sz, rr_sr, rr_al, rr_ld, rr_st, rr_rl, rr_rs, rr_ni, rr_nr, rr_z, rr_div, rr_rem, rr_lc, rr_mx, rr_mn, rr_ab, rr_no, gd_t, bc_t, bc_f, gd_tt, bc_tt, bc_ff, or_true, true_or, and_true, true_and, Nat.reduceAdd, p7, p8, w1, w2, b1, mo_b_s E1, mo_b_s e2, mo_b_s e4, mo_b_s e5, mo_b_s e6, mo_b_s e7, mo_b_s e8]
          · have eL : gL (ivP P) (ivQ Q) i j = hB P i := bc_t ⟨ci, fun z => absurd z cj⟩
            rw [bc_t ⟨ci, fun z => absurd z cj⟩, eL] at e2
            rw [eL] at e4 e5 e6
            simp (disch := omega) only [X7_together_L43, rr_p, rr_bp, rr_bb, rr_0, rr_lt, rr_blt, rr_le, rr_ble, rr_eq, rr_beq, rr_nl_n, rr_nl_s, rr_bnl_n, rr_bnl_s, rr_cond_t, rr_cond_f, rr_bcond_t, rr_bcond_f, rr_bon, rr_bcv, rr_cv, rr_g, rr_gr, rr_si, rr_sz, rr_sr, rr_al, rr_ld, rr_st, rr_rl, rr_rs, rr_ni, rr_nr, rr_z, rr_div, rr_rem, rr_lc, rr_mx, rr_mn, rr_ab, rr_no, gd_t, bc_t, bc_f, gd_tt, bc_tt, bc_ff, or_true, true_or, and_true, true_and, Nat.reduceAdd, p7, p8, w1, w2, mo_b_s E1, mo_b_s e2, mo_b_s e4, mo_b_s e5, mo_b_s e6, mo_b_s e7, mo_b_s e8]
        · have cj : j < Q.length := by omega
          obtain ⟨b1, b2, b3⟩ := mQ_a hQ' (i := (j : Int)) (by omega) (by omega)
          rw [Int.toNat_natCast] at b1
          have r2 := (vQ j).1
          have eL : gL (ivP P) (ivQ Q) i j = (hk Q j).1 := bc_f (fun z => ci z.1)
          rw [bc_f (fun z => ci z.1), eL] at e2
          rw [eL] at e4 e5 e6
          simp (disch := omega) only [X7_together_L43, rr_p, rr_bp, rr_bb, rr_0, rr_lt, rr_blt, rr_le, rr_ble, rr_eq, rr_beq, rr_nl_n, rr_nl_s, rr_bnl_n, rr_bnl_s, rr_cond_t, rr_cond_f, rr_bcond_t, rr_bcond_f, rr_bon, rr_bcv, rr_cv, rr_g, rr_gr, rr_si, rr_sz, rr_sr, rr_al, rr_ld, rr_st, rr_rl, rr_rs, rr_ni, rr_nr, rr_z, rr_div, rr_rem, rr_lc, rr_mx, rr_mn, rr_ab, rr_no, gd_t, bc_t, bc_f, gd_tt, bc_tt, bc_ff, or_true, true_or, and_true, true_and, Nat.reduceAdd, p7, p8, w1, w2, b1, mo_b_s e2, mo_b_s e4, mo_b_s e5, mo_b_s e6, mo_b_s e7, mo_b_s e8]
      · by_cases ce : (gH P Q i j i1 j1 (gL (ivP P) (ivQ Q) i j) e).2.1 = (gH P Q i j i1 j1 (gL (ivP P) (ivQ Q) i j) e).2.2
        · rw [bc_t ce]; exact u6
        · rw [bc_f ce]; exact u7
      · rw [show P.length + Q.length - (n + 1) = P.length + Q.length - n - 1 by omega]; exact hes.symm
    · right
      rw [tg_e cl] at hE
      rw [← hE]
      exact ⟨(), h', by simp (disch := omega) only [X7_together_L43, rr_p, rr_bp, rr_bb, rr_0, rr_lt, rr_blt, rr_le, rr_ble, rr_eq, rr_beq, rr_nl_n, rr_nl_s, rr_bnl_n, rr_bnl_s, rr_cond_t, rr_cond_f, rr_bcond_t, rr_bcond_f, rr_bon, rr_bcv, rr_cv, rr_g, rr_gr, rr_si, rr_sz, rr_sr, rr_al, rr_ld, rr_st, rr_rl, rr_rs, rr_ni, rr_nr, rr_z, rr_div, rr_rem, rr_lc, rr_mx, rr_mn, rr_ab, rr_no, gd_t, bc_t, bc_f, gd_tt, bc_tt, bc_ff, or_true, true_or, and_true, true_and, Nat.reduceAdd, p7, w1, w2], hA, hf⟩
