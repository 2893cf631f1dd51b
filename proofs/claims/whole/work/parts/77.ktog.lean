def agW (P Q : List HK) : Prop := ∀ (i j : Nat) (z : Int), i < P.length → j < Q.length → hB P i ≤ z → z < hB P i + ((hk P i).2.2.length : Int) → (hk Q j).1 ≤ z → z < (hk Q j).1 + ((hk Q j).2.1.length : Int) → (hk P i).2.2.getD (z - hB P i).toNat 0 = (hk Q j).2.1.getD (z - (hk Q j).1).toNat 0
def agB (P Q : List HK) (i : Nat) : Prop := ∃ k : Nat, k < (hk P i).2.2.length ∧ gAt Q (hB P i + (k : Int)) ≠ -1 ∧ gAt Q (hB P i + (k : Int)) ≠ (hk P i).2.2.getD k 0
theorem agW_K {P Q : List HK} (hQ : sW Q) (wQ : ∀ j : Nat, j < Q.length → wL (hk Q j).2.1) : (∃ i : Nat, i < P.length ∧ agB P Q i) ↔ ¬ agW P Q := by
  constructor
  · rintro ⟨i, hi, k, hk1, h1, h2⟩ ha
    by_cases c : ∃ t : Nat, t < Q.length ∧ (hk Q t).1 ≤ hB P i + (k : Int) ∧ hB P i + (k : Int) < (hk Q t).1 + ((hk Q t).2.1.length : Int)
    · obtain ⟨t, t1, t2, t3⟩ := c
      rw [gAt_in hQ t1 t2 t3] at h2
      have := ha i t (hB P i + (k : Int)) hi t1 (by omega) (by omega) t2 t3
      rw [show hB P i + (k : Int) - hB P i = (k : Int) by omega, Int.toNat_natCast] at this
      exact h2 this.symm
    · exact h1 (gAt_no (fun t t1 t2 => c ⟨t, t1, t2.1, t2.2⟩))
  · intro hn
    by_cases c : ∃ i : Nat, i < P.length ∧ agB P Q i
    · exact c
    · refine absurd (fun i j z hi hj h1 h2 h3 h4 => ?_) hn
      have e := gAt_in hQ hj h3 h4
      have w := wQ j hj (z - (hk Q j).1).toNat (by omega)
      by_cases c2 : (hk P i).2.2.getD (z - hB P i).toNat 0 = (hk Q j).2.1.getD (z - (hk Q j).1).toNat 0
      · exact c2
      · refine absurd ⟨i, hi, (z - hB P i).toNat, by omega, ?_, ?_⟩ c
        · rw [show hB P i + (((z - hB P i).toNat : Nat) : Int) = z by omega, e]; omega
        · rw [show hB P i + (((z - hB P i).toNat : Nat) : Int) = z by omega, e]; exact fun y => c2 y.symm
theorem gAt_r {Q : List HK} (hV : pV Q) (z : Int) : -100000 ≤ gAt Q z ∧ gAt Q z ≤ 100000 := by
  by_cases c : ∃ t : Nat, t < Q.length ∧ (hk Q t).1 ≤ z ∧ z < (hk Q t).1 + ((hk Q t).2.1.length : Int)
  · have key : ∀ n : Nat, (∃ t, t < n ∧ t < Q.length ∧ (hk Q t).1 ≤ z ∧ z < (hk Q t).1 + ((hk Q t).2.1.length : Int)) → ∃ t, t < Q.length ∧ ((hk Q t).1 ≤ z ∧ z < (hk Q t).1 + ((hk Q t).2.1.length : Int)) ∧ ∀ s, s < t → ¬ ((hk Q s).1 ≤ z ∧ z < (hk Q s).1 + ((hk Q s).2.1.length : Int)) := by
      intro n
      induction n with
      | zero => rintro ⟨t, ht, _⟩; omega
      | succ n ih =>
        rintro ⟨t, ht, h2, h3⟩
        by_cases c : ∃ t, t < n ∧ t < Q.length ∧ (hk Q t).1 ≤ z ∧ z < (hk Q t).1 + ((hk Q t).2.1.length : Int)
        · exact ih c
        · have : t = n := by
            by_cases y : t = n
            · exact y
            · exact absurd ⟨t, by omega, h2, h3⟩ c
          subst this
          exact ⟨t, h2, h3, fun s hs hh => c ⟨s, hs, by omega, hh⟩⟩
    obtain ⟨t, t1, t2⟩ := c
    obtain ⟨s, s1, s2, s3⟩ := key (t + 1) ⟨t, by omega, t1, t2⟩
    have e : gAt Q z = (hk Q s).2.1.getD (z - (hk Q s).1).toNat 0 := by
      unfold gAt
      exact sr_yes _ _ s (by omega) (by omega) s2 (fun l _ l2 => s3 l l2)
    rw [e]; exact (hV s).2.1 _
  · rw [gAt_no (fun t t1 t2 => c ⟨t, t1, t2.1, t2.2⟩)]; omega
theorem q0_agree {h : AH} {a b c mh ml mh2 ml2 : Nat} {P Q : List HK} (hP : kP h a mh ml P) (vP : pV P) (hQ : kP h b mh2 ml2 Q) (vQ : pV Q) (sQ : sW Q) (wQ : ∀ j : Nat, j < Q.length → wL (hk Q j).2.1) : X0_agree c (some a) (some b) h = some (br (agW P Q) 1 0, h) := by
  have t0 := hP.1.1.1
  have t1 := hQ.1.1.1
  have hl := hP.2.2.1
  have hm := hP.1.2.2.2
  have e0 := q3_hunks hP
  have inner : ∀ i : Nat, i < P.length → mo_lp mo_N (X0_agree_L13 (some a) (some b) (i : Int)) 0 h = some (br (agB P Q i) (.inr 0) (.inl ((i : Int) + 1)), h) := by
    intro i hi
    have e1 := q3_coming hP (i := (i : Int)) (by omega) (by omega)
    have e2 := q3_beginsBehind hP (i := (i : Int)) (by omega) (by omega)
    rw [Int.toNat_natCast] at e1 e2
    have r1 := hB_r hP vP i
    have g1 := @hcs_le P (i + 1)
    have g2 := @hcs_s P i hi
    have hs := lp_sr (F := X0_agree_L13 (some a) (some b) (i : Int)) (h := h) (fun k => gAt Q (hB P i + (k : Int)) ≠ -1 ∧ gAt Q (hB P i + (k : Int)) ≠ (hk P i).2.2.getD k 0) (fun _ => .inr 0) (.inl ((i : Int) + 1)) (hk P i).2.2.length ?_ ?_ ?_ (hk P i).2.2.length 0 mo_N (by omega) (by rw [mo_N_v]; omega)
    · rw [sr_c] at hs
      have e : (∃ j, 0 ≤ j ∧ j < 0 + (hk P i).2.2.length ∧ (gAt Q (hB P i + (j : Int)) ≠ -1 ∧ gAt Q (hB P i + (j : Int)) ≠ (hk P i).2.2.getD j 0)) ↔ agB P Q i := ⟨fun ⟨j, _, h2, h3⟩ => ⟨j, by omega, h3⟩, fun ⟨j, h2, h3⟩ => ⟨j, by omega, by omega, h3⟩⟩
      rw [propext e] at hs
      exact hs
    · intro k hk1 hn
      have e3 := q3_goingAt hQ vQ (p := hB P i + (k : Int)) (by omega)
      have e4 := q3_comingLine hP (i := (i : Int)) (k := (k : Int)) (by omega) (by omega) (by omega)
      rw [Int.toNat_natCast, Int.toNat_natCast, if_pos (by omega)] at e4
      have r2 := gAt_r vQ (hB P i + (k : Int))
      have r3 := (vP i).2.2 k
      by_cases c1 : gAt Q (hB P i + (k : Int)) = -1
      · rw [c1] at e3
        simp (disch := omega) only [X0_agree_L13, rr_p, rr_bp, rr_bb, rr_0, rr_lt, rr_blt, rr_le, rr_ble, rr_eq, rr_beq, rr_nl_n, rr_nl_s, rr_bnl_n, rr_bnl_s, rr_cond_t, rr_cond_f, rr_bcond_t, rr_bcond_f, rr_bon, rr_bcv, rr_cv, rr_g, rr_gr, rr_si, rr_sz, rr_sr, rr_al, rr_ld, rr_st, rr_rl, rr_rs, rr_ni, rr_nr, rr_z, rr_div, rr_rem, rr_lc, rr_mx, rr_mn, rr_ab, rr_no, gd_t, bc_t, bc_f, gd_tt, bc_tt, bc_ff, or_true, true_or, and_true, true_and, Nat.reduceAdd, mo_b_s e1, mo_b_s e2, mo_b_s e3]
      · have c2 : gAt Q (hB P i + (k : Int)) = (hk P i).2.2.getD k 0 := by
          by_cases z : gAt Q (hB P i + (k : Int)) = (hk P i).2.2.getD k 0
          · exact z
          · exact absurd ⟨c1, z⟩ hn
        simp (disch := omega) only [X0_agree_L13, rr_p, rr_bp, rr_bb, rr_0, rr_lt, rr_blt, rr_le, rr_ble, rr_eq, rr_beq, rr_nl_n, rr_nl_s, rr_bnl_n, rr_bnl_s, rr_cond_t, rr_cond_f, rr_bcond_t, rr_bcond_f, rr_bon, rr_bcv, rr_cv, rr_g, rr_gr, rr_si, rr_sz, rr_sr, rr_al, rr_ld, rr_st, rr_rl, rr_rs, rr_ni, rr_nr, rr_z, rr_div, rr_rem, rr_lc, rr_mx, rr_mn, rr_ab, rr_no, gd_t, bc_t, bc_f, gd_tt, bc_tt, bc_ff, or_true, true_or, and_true, true_and, Nat.reduceAdd, mo_b_s e1, mo_b_s e2, mo_b_s e3, mo_b_s e4]
    · rintro k hk1 ⟨c1, c2⟩
      have e3 := q3_goingAt hQ vQ (p := hB P i + (k : Int)) (by omega)
      have e4 := q3_comingLine hP (i := (i : Int)) (k := (k : Int)) (by omega) (by omega) (by omega)
      rw [Int.toNat_natCast, Int.toNat_natCast, if_pos (by omega)] at e4
      have r2 := gAt_r vQ (hB P i + (k : Int))
      have r3 := (vP i).2.2 k
      simp (disch := omega) only [X0_agree_L13, rr_p, rr_bp, rr_bb, rr_0, rr_lt, rr_blt, rr_le, rr_ble, rr_eq, rr_beq, rr_nl_n, rr_nl_s, rr_bnl_n, rr_bnl_s, rr_cond_t, rr_cond_f, rr_bcond_t, rr_bcond_f, rr_bon, rr_bcv, rr_cv, rr_g, rr_gr, rr_si, rr_sz, rr_sr, rr_al, rr_ld, rr_st, rr_rl, rr_rs, rr_ni, rr_nr, rr_z, rr_div, rr_rem, rr_lc, rr_mx, rr_mn, rr_ab, rr_no, gd_t, bc_t, bc_f, gd_tt, bc_tt, bc_ff, or_true, true_or, and_true, true_and, Nat.reduceAdd, mo_b_s e1, mo_b_s e2, mo_b_s e3, mo_b_s e4]
    · simp (disch := omega) only [X0_agree_L13, rr_p, rr_bp, rr_bb, rr_0, rr_lt, rr_blt, rr_le, rr_ble, rr_eq, rr_beq, rr_nl_n, rr_nl_s, rr_bnl_n, rr_bnl_s, rr_cond_t, rr_cond_f, rr_bcond_t, rr_bcond_f, rr_bon, rr_bcv, rr_cv, rr_g, rr_gr, rr_si, rr_sz, rr_sr, rr_al, rr_ld, rr_st, rr_rl, rr_rs, rr_ni, rr_nr, rr_z, rr_div, rr_rem, rr_lc, rr_mx, rr_mn, rr_ab, rr_no, gd_t, bc_t, bc_f, gd_tt, bc_tt, bc_ff, or_true, true_or, and_true, true_and, Nat.reduceAdd, mo_b_s e1]
  have hs := lp_sr (F := X0_agree_L2 (some a) (some b)) (h := h) (fun i => agB P Q i) (fun _ => 0) 1 P.length ?_ ?_ ?_ P.length 0 mo_N (by omega) (by rw [mo_N_v]; omega)
  · rw [sr_c] at hs
    have e : (∃ j, 0 ≤ j ∧ j < 0 + P.length ∧ agB P Q j) ↔ ¬ agW P Q := by
      rw [← agW_K sQ wQ]
      exact ⟨fun ⟨j, _, h2, h3⟩ => ⟨j, by omega, h3⟩, fun ⟨j, h2, h3⟩ => ⟨j, by omega, by omega, h3⟩⟩
    rw [propext e] at hs
    have hs : X0_agree c (some a) (some b) h = _ := hs
    rw [hs]
    by_cases ca : agW P Q
    · rw [bc_f (fun z => z ca), bc_t ca]
    · rw [bc_t ca, bc_f ca]
  · intro i hi hn
    have e1 := inner i hi
    rw [bc_f hn] at e1
    simp (disch := omega) only [X0_agree_L2, rr_p, rr_bp, rr_bb, rr_0, rr_lt, rr_blt, rr_le, rr_ble, rr_eq, rr_beq, rr_nl_n, rr_nl_s, rr_bnl_n, rr_bnl_s, rr_cond_t, rr_cond_f, rr_bcond_t, rr_bcond_f, rr_bon, rr_bcv, rr_cv, rr_g, rr_gr, rr_si, rr_sz, rr_sr, rr_al, rr_ld, rr_st, rr_rl, rr_rs, rr_ni, rr_nr, rr_z, rr_div, rr_rem, rr_lc, rr_mx, rr_mn, rr_ab, rr_no, gd_t, bc_t, bc_f, gd_tt, bc_tt, bc_ff, or_true, true_or, and_true, true_and, Nat.reduceAdd, mo_b_s e0, e1]
  · intro i hi hn
    have e1 := inner i hi
    rw [bc_t hn] at e1
    simp (disch := omega) only [X0_agree_L2, rr_p, rr_bp, rr_bb, rr_0, rr_lt, rr_blt, rr_le, rr_ble, rr_eq, rr_beq, rr_nl_n, rr_nl_s, rr_bnl_n, rr_bnl_s, rr_cond_t, rr_cond_f, rr_bcond_t, rr_bcond_f, rr_bon, rr_bcv, rr_cv, rr_g, rr_gr, rr_si, rr_sz, rr_sr, rr_al, rr_ld, rr_st, rr_rl, rr_rs, rr_ni, rr_nr, rr_z, rr_div, rr_rem, rr_lc, rr_mx, rr_mn, rr_ab, rr_no, gd_t, bc_t, bc_f, gd_tt, bc_tt, bc_ff, or_true, true_or, and_true, true_and, Nat.reduceAdd, mo_b_s e0, e1]
  · simp (disch := omega) only [X0_agree_L2, rr_p, rr_bp, rr_bb, rr_0, rr_lt, rr_blt, rr_le, rr_ble, rr_eq, rr_beq, rr_nl_n, rr_nl_s, rr_bnl_n, rr_bnl_s, rr_cond_t, rr_cond_f, rr_bcond_t, rr_bcond_f, rr_bon, rr_bcv, rr_cv, rr_g, rr_gr, rr_si, rr_sz, rr_sr, rr_al, rr_ld, rr_st, rr_rl, rr_rs, rr_ni, rr_nr, rr_z, rr_div, rr_rem, rr_lc, rr_mx, rr_mn, rr_ab, rr_no, gd_t, bc_t, bc_f, gd_tt, bc_tt, bc_ff, or_true, true_or, and_true, true_and, Nat.reduceAdd, mo_b_s e0]
/-- the composer's numbers -/
def kC (h : AH) (c i0 i j0 j : Nat) (lo e : Int) : Prop := ah_T h c = 10 ∧ ah_F h c 0 = (i0 : Int) ∧ ah_F h c 1 = (i : Int) ∧ ah_F h c 2 = (j0 : Int) ∧ ah_F h c 3 = (j : Int) ∧ ah_F h c 4 = lo ∧ ah_F h c 5 = e
theorem kC_fr {h h' : AH} {c i0 i j0 j lo1 hi1 : Nat} {lo e : Int} (hK : kC h c i0 i j0 j lo e) (f : FRM h h' lo1 hi1) (hd : c < lo1 ∨ hi1 ≤ c) : kC h' c i0 i j0 j lo e := by
  unfold kC at hK ⊢
  rw [f.1, f.2.2.2.2.2.1 c (by omega)]; exact hK
theorem q0_gather {h : AH} {a b c mh ml mh2 ml2 i j : Nat} {P Q : List HK} (hP : kP h a mh ml P) (vP : pV P) (sP : sW P) (hQ : kP h b mh2 ml2 Q) (vQ : pV Q) (sQ : sW Q) (ca : c + 1 ≤ a ∨ a + 6 ≤ c) (cb : c + 1 ≤ b ∨ b + 6 ≤ c) (tc : ah_T h c = 10) (f1 : ah_F h c 1 = (i : Int)) (f3 : ah_F h c 3 = (j : Int)) (hi : i ≤ P.length) (hj : j ≤ Q.length) (hl : i < P.length ∨ j < Q.length) : ∃ (i1 j1 : Nat) (e : Int) (h' : AH), X0_gather c (some a) (some b) h = some ((), h') ∧ kC h' c i i1 j j1 (gL (ivP P) (ivQ Q) i j) e ∧ FRM h h' c (c + 1) ∧ cS (ivP P) (ivQ Q) i j (gL (ivP P) (ivQ Q) i j) i1 j1 e ∧ cX (ivP P) (ivQ Q) i1 j1 e := by
  have t0 := hP.1.1.1
  have t1 := hQ.1.1.1
  have hlP := hP.2.2.1
  have hmP := hP.1.2.2.2
  have hlQ := hQ.2.2.1
  have hmQ := hQ.1.2.2.2
  have e0 := q3_hunks hP
  have e1 := q3_hunks hQ
  have rlo : -100056 ≤ gL (ivP P) (ivQ Q) i j ∧ gL (ivP P) (ivQ Q) i j ≤ 100056 := by
    rcases (gL_f (X := ivP P) (Y := ivQ Q) hl).2.2 with ⟨_, z⟩ | ⟨_, z⟩
    · rw [z]; exact hB_r hP vP i
    · rw [z]; have := (vQ j).1; show -100056 ≤ (hk Q j).1 ∧ (hk Q j).1 ≤ 100056; omega
  -- the loop
  have loop : ∀ h0 : AH, FRM h h0 c (c + 1) → kC h0 c i i j j (gL (ivP P) (ivQ Q) i j) (gL (ivP P) (ivQ Q) i j) → ∃ (i1 j1 : Nat) (e : Int) (h' : AH), mo_lp mo_N (X0_gather_L109 c (some a) (some b)) 0 h0 = some ((), h') ∧ kC h' c i i1 j j1 (gL (ivP P) (ivQ Q) i j) e ∧ FRM h h' c (c + 1) ∧ cS (ivP P) (ivQ Q) i j (gL (ivP P) (ivQ Q) i j) i1 j1 e ∧ cX (ivP P) (ivQ Q) i1 j1 e := by
    intro h0 g0 k0
    have hL := lp_inv (F := X0_gather_L109 c (some a) (some b)) (fun s h' => ∃ (n i1 j1 : Nat) (e : Int), s = (n : Int) ∧ n ≤ P.length + Q.length ∧ kC h' c i i1 j j1 (gL (ivP P) (ivQ Q) i j) e ∧ FRM h h' c (c + 1) ∧ cS (ivP P) (ivQ Q) i j (gL (ivP P) (ivQ Q) i j) i1 j1 e ∧ (n + i + j ≤ i1 + j1 ∨ cX (ivP P) (ivQ Q) i1 j1 e)) (fun s => (((P.length + Q.length : Nat) : Int) - s).toNat) (fun _ h' => ∃ (i1 j1 : Nat) (e : Int), kC h' c i i1 j j1 (gL (ivP P) (ivQ Q) i j) e ∧ FRM h h' c (c + 1) ∧ cS (ivP P) (ivQ Q) i j (gL (ivP P) (ivQ Q) i j) i1 j1 e ∧ cX (ivP P) (ivQ Q) i1 j1 e) ?_ mo_N 0 h0 ⟨0, i, j, _, rfl, by omega, k0, g0, cS0 hi hj, Or.inl (by omega)⟩ (by rw [mo_N_v]; omega)
    · obtain ⟨_, h', e2, i1, j1, e, q⟩ := hL
      exact ⟨i1, j1, e, h', e2, q⟩
    · rintro s h' ⟨n, i1, j1, e, rfl, hn, hkc, hf, hS, hd⟩
      have hP' := kP_fr hP hf (by omega)
      have hQ' := kP_fr hQ hf (by omega)
      have s0 := hP'.1.1.1
      have s1 := hQ'.1.1.1
      have E0 := q3_hunks hP'
      have E1 := q3_hunks hQ'
      obtain ⟨k1, k2, k3, k4, k5, k6, k7⟩ := id hkc
      obtain ⟨⟨⟨⟨a1, a2⟩, ⟨b1, b2⟩, c1⟩, -⟩, -, -, hcnt⟩ := id hS
      have a2 : i1 ≤ P.length := a2
      have b2 : j1 ≤ Q.length := b2
      have hcnt : e - gL (ivP P) (ivQ Q) i j ≤ ((hcs P i1 : Int) - (hcs P i : Int)) + ((hgs Q j1 : Int) - (hgs Q j : Int)) := hcnt
      have y1 := @hcs_le P i1
      have y2 := @hgs_le Q j1
      by_cases cn : n < P.length + Q.length
      · left
        by_cases c1 : i1 < P.length ∧ hB P i1 ≤ e
        · have e2 := q3_beginsBehind hP' (i := (i1 : Int)) (by omega) (by omega)
          have e3 := q3_endsBehind hP' (i := (i1 : Int)) (by omega) (by omega)
          rw [Int.toNat_natCast] at e2 e3
          have y3 := @hcs_s P i1 c1.1
          have y4 := @hcs_le P (i1 + 1)
          have r1 := hB_r hP vP i1
          refine ⟨(n : Int) + 1, ah_sF (ah_sF h' c 5 (max e (hB P i1 + ((hk P i1).2.2.length : Int)))) c 1 ((i1 : Int) + 1), by simp (disch := omega) only [X0_gather_L109, rr_p, rr_bp, rr_bb, rr_0, rr_lt, rr_blt, rr_le, rr_ble, rr_eq, rr_beq, rr_nl_n, rr_nl_s, rr_bnl_n, rr_bnl_s, rr_cond_t, rr_cond_f, rr_bcond_t, rr_bcond_f, rr_bon, rr_bcv, rr_cv, rr_g, rr_gr, rr_si, rr_sz, rr_sr, rr_al, rr_ld, rr_st, rr_rl, rr_rs, rr_ni, rr_nr, rr_z, rr_div, rr_rem, rr_lc, rr_mx, rr_mn, rr_ab, rr_no, gd_t, bc_t, bc_f, gd_tt, bc_tt, bc_ff, or_true, true_or, and_true, true_and, Nat.reduceAdd, hl_T_sF, hl_N_sF, hl_P_sF, hl_I_sF, hl_R_sF, hl_S_sF, hl_T_sP, hl_N_sP, hl_F_sP, hl_I_sP, hl_R_sP, hl_S_sP, hl_T_sI, hl_N_sI, hl_F_sI, hl_P_sI, hl_R_sI, hl_S_sI, hl_T_sR, hl_N_sR, hl_F_sR, hl_P_sR, hl_I_sR, hl_S_sR, hl_T_wI, hl_N_wI, hl_F_wI, hl_P_wI, hl_R_wI, hl_S_wI, hl_F_sF_s, hl_F_sF_n, hl_P_sP_s, hl_P_sP_n, hl_I_sI_s, hl_I_sI_n, hl_R_sR_s, hl_R_sR_n, hl_I_wI_s, hl_I_wI_n, mo_b_s E0, mo_b_s E1, k3, k7, mo_b_s e2, mo_b_s e3], ⟨n + 1, i1 + 1, j1, max e (hB P i1 + ((hk P i1).2.2.length : Int)), by simp, by omega, ?_, (hf.tr (FRM.sF (lo := c) (hi := c + 1) (by omega) (by omega)) (lo3 := c) (hi3 := c + 1) (by omega) (by omega) (by omega) (by omega)).tr (FRM.sF (lo := c) (hi := c + 1) (by omega) (by omega)) (by omega) (by omega) (by omega) (by omega), cS_i (okP sP) hS c1.1 c1.2, ?_⟩, by omega⟩
          · unfold kC
            simp (disch := omega) only [hl_T_sF, hl_N_sF, hl_P_sF, hl_I_sF, hl_R_sF, hl_S_sF, hl_T_sP, hl_N_sP, hl_F_sP, hl_I_sP, hl_R_sP, hl_S_sP, hl_T_sI, hl_N_sI, hl_F_sI, hl_P_sI, hl_R_sI, hl_S_sI, hl_T_sR, hl_N_sR, hl_F_sR, hl_P_sR, hl_I_sR, hl_S_sR, hl_T_wI, hl_N_wI, hl_F_wI, hl_P_wI, hl_R_wI, hl_S_wI, hl_F_sF_s, hl_F_sF_n, hl_P_sP_s, hl_P_sP_n, hl_I_sI_s, hl_I_sI_n, hl_R_sR_s, hl_R_sR_n, hl_I_wI_s, hl_I_wI_n, Int.natCast_add, Int.natCast_one]
            exact ⟨k1, k2, trivial, k4, k5, k6, trivial⟩
          · rcases hd with z | z
            · exact Or.inl (by omega)
            · have := z.1 c1.1
              have : e < hB P i1 := this
              omega
        · have h1 : (i1 < P.length → e < hB P i1) := fun z => by
            by_cases y : hB P i1 ≤ e
            · exact absurd ⟨z, y⟩ c1
            · omega
          by_cases c2 : j1 < Q.length ∧ (hk Q j1).1 ≤ e
          · have e2 := q3_begins hQ' (i := (j1 : Int)) (by omega) (by omega)
            have e3 := q3_ends hQ' (i := (j1 : Int)) (by omega) (by omega)
            rw [Int.toNat_natCast] at e2 e3
            have y3 := @hgs_s Q j1 c2.1
            have y4 := @hgs_le Q (j1 + 1)
            have r1 := (vQ j1).1
            refine ⟨(n : Int) + 1, ah_sF (ah_sF h' c 5 (max e ((hk Q j1).1 + ((hk Q j1).2.1.length : Int)))) c 3 ((j1 : Int) + 1), ?_, ⟨n + 1, i1, j1 + 1, max e ((hk Q j1).1 + ((hk Q j1).2.1.length : Int)), by simp, by omega, ?_, (hf.tr (FRM.sF (lo := c) (hi := c + 1) (by omega) (by omega)) (lo3 := c) (hi3 := c + 1) (by omega) (by omega) (by omega) (by omega)).tr (FRM.sF (lo := c) (hi := c + 1) (by omega) (by omega)) (by omega) (by omega) (by omega) (by omega), cS_j (okQ sQ) hS c2.1 c2.2, ?_⟩, by omega⟩
            · by_cases ci : i1 < P.length
              · have z1 := h1 ci
                have r2 := hB_r hP vP i1
                have e4 := q3_beginsBehind hP' (i := (i1 : Int)) (by omega) (by omega)
                rw [Int.toNat_natCast] at e4
                simp (disch := omega) only [X0_gather_L109, rr_p, rr_bp, rr_bb, rr_0, rr_lt, rr_blt, rr_le, rr_ble, rr_eq, rr_beq, rr_nl_n, rr_nl_s, rr_bnl_n, rr_bnl_s, rr_cond_t, rr_cond_f, rr_bcond_t, rr_bcond_f, rr_bon, rr_bcv, rr_cv, rr_g, rr_gr, rr_si, rr_sz, rr_sr, rr_al, rr_ld, rr_st, rr_rl, rr_rs, rr_ni, rr_nr, rr_z, rr_div, rr_rem, rr_lc, rr_mx, rr_mn, rr_ab, rr_no, gd_t, bc_t, bc_f, gd_tt, bc_tt, bc_ff, or_true, true_or, and_true, true_and, Nat.reduceAdd, hl_T_sF, hl_N_sF, hl_P_sF, hl_I_sF, hl_R_sF, hl_S_sF, hl_T_sP, hl_N_sP, hl_F_sP, hl_I_sP, hl_R_sP, hl_S_sP, hl_T_sI, hl_N_sI, hl_F_sI, hl_P_sI, hl_R_sI, hl_S_sI, hl_T_sR, hl_N_sR, hl_F_sR, hl_P_sR, hl_I_sR, hl_S_sR, hl_T_wI, hl_N_wI, hl_F_wI, hl_P_wI, hl_R_wI, hl_S_wI, hl_F_sF_s, hl_F_sF_n, hl_P_sP_s, hl_P_sP_n, hl_I_sI_s, hl_I_sI_n, hl_R_sR_s, hl_R_sR_n, hl_I_wI_s, hl_I_wI_n, mo_b_s E0, mo_b_s E1, k3, k5, k7, mo_b_s e4, mo_b_s e2, mo_b_s e3]
              · simp (disch := omega) only [X0_gather_L109, rr_p, rr_bp, rr_bb, rr_0, rr_lt, rr_blt, rr_le, rr_ble, rr_eq, rr_beq, rr_nl_n, rr_nl_s, rr_bnl_n, rr_bnl_s, rr_cond_t, rr_cond_f, rr_bcond_t, rr_bcond_f, rr_bon, rr_bcv, rr_cv, rr_g, rr_gr, rr_si, rr_sz, rr_sr, rr_al, rr_ld, rr_st, rr_rl, rr_rs, rr_ni, rr_nr, rr_z, rr_div, rr_rem, rr_lc, rr_mx, rr_mn, rr_ab, rr_no, gd_t, bc_t, bc_f, gd_tt, bc_tt, bc_ff, or_true, true_or, and_true, true_and, Nat.reduceAdd, hl_T_sF, hl_N_sF, hl_P_sF, hl_I_sF, hl_R_sF, hl_S_sF, hl_T_sP, hl_N_sP, hl_F_sP, hl_I_sP, hl_R_sP, hl_S_sP, hl_T_sI, hl_N_sI, hl_F_sI, hl_P_sI, hl_R_sI, hl_S_sI, hl_T_sR, hl_N_sR, hl_F_sR, hl_P_sR, hl_I_sR, hl_S_sR, hl_T_wI, hl_N_wI, hl_F_wI, hl_P_wI, hl_R_wI, hl_S_wI, hl_F_sF_s, hl_F_sF_n, hl_P_sP_s, hl_P_sP_n, hl_I_sI_s, hl_I_sI_n, hl_R_sR_s, hl_R_sR_n, hl_I_wI_s, hl_I_wI_n, mo_b_s E0, mo_b_s E1, k3, k5, k7, mo_b_s e2, mo_b_s e3]
            · unfold kC
              simp (disch := omega) only [hl_T_sF, hl_N_sF, hl_P_sF, hl_I_sF, hl_R_sF, hl_S_sF, hl_T_sP, hl_N_sP, hl_F_sP, hl_I_sP, hl_R_sP, hl_S_sP, hl_T_sI, hl_N_sI, hl_F_sI, hl_P_sI, hl_R_sI, hl_S_sI, hl_T_sR, hl_N_sR, hl_F_sR, hl_P_sR, hl_I_sR, hl_S_sR, hl_T_wI, hl_N_wI, hl_F_wI, hl_P_wI, hl_R_wI, hl_S_wI, hl_F_sF_s, hl_F_sF_n, hl_P_sP_s, hl_P_sP_n, hl_I_sI_s, hl_I_sI_n, hl_R_sR_s, hl_R_sR_n, hl_I_wI_s, hl_I_wI_n, Int.natCast_add, Int.natCast_one]
              exact ⟨k1, k2, k3, k4, trivial, k6, trivial⟩
            · rcases hd with z | z
              · exact Or.inl (by omega)
              · have := z.2 c2.1
                have : e < (hk Q j1).1 := this
                omega
          · have h2 : (j1 < Q.length → e < (hk Q j1).1) := fun z => by
              by_cases y : (hk Q j1).1 ≤ e
              · exact absurd ⟨z, y⟩ c2
              · omega
            refine ⟨(n : Int) + 1, h', ?_, ⟨n + 1, i1, j1, e, by simp, by omega, hkc, hf, hS, Or.inr ⟨h1, h2⟩⟩, by omega⟩
            by_cases ci : i1 < P.length
            · have z1 := h1 ci
              have r2 := hB_r hP vP i1
              have e4 := q3_beginsBehind hP' (i := (i1 : Int)) (by omega) (by omega)
              rw [Int.toNat_natCast] at e4
              by_cases cj : j1 < Q.length
              · have z2 := h2 cj
                have r3 := (vQ j1).1
                have e2 := q3_begins hQ' (i := (j1 : Int)) (by omega) (by omega)
                rw [Int.toNat_natCast] at e2
                simp (disch := omega) only [X0_gather_L109, rr_p, rr_bp, rr_bb, rr_0, rr_lt, rr_blt, rr_le, rr_ble, rr_eq, rr_beq, rr_nl_n, rr_nl_s, rr_bnl_n, rr_bnl_s, rr_cond_t, rr_cond_f, rr_bcond_t, rr_bcond_f, rr_bon, rr_bcv, rr_cv, rr_g, rr_gr, rr_si, rr_sz, rr_sr, rr_al, rr_ld, rr_st, rr_rl, rr_rs, rr_ni, rr_nr, rr_z, rr_div, rr_rem, rr_lc, rr_mx, rr_mn, rr_ab, rr_no, gd_t, bc_t, bc_f, gd_tt, bc_tt, bc_ff, or_true, true_or, and_true, true_and, Nat.reduceAdd, mo_b_s E0, mo_b_s E1, k3, k5, k7, mo_b_s e4, mo_b_s e2]
              · simp (disch := omega) only [X0_gather_L109, rr_p, rr_bp, rr_bb, rr_0, rr_lt, rr_blt, rr_le, rr_ble, rr_eq, rr_beq, rr_nl_n, rr_nl_s, rr_bnl_n, rr_bnl_s, rr_cond_t, rr_cond_f, rr_bcond_t, rr_bcond_f, rr_bon, rr_bcv, rr_cv, rr_g, rr_gr, rr_si, rr_sz, rr_sr, rr_al, rr_ld, rr_st, rr_rl, rr_rs, rr_ni, rr_nr, rr_z, rr_div, rr_rem, rr_lc, rr_mx, rr_mn, rr_ab, rr_no, gd_t, bc_t, bc_f, gd_tt, bc_tt, bc_ff, or_true, true_or, and_true, true_and, Nat.reduceAdd, mo_b_s E0, mo_b_s E1, k3, k5, k7, mo_b_s e4]
            · by_cases cj : j1 < Q.length
              · have z2 := h2 cj
                have r3 := (vQ j1).1
                have e2 := q3_begins hQ' (i := (j1 : Int)) (by omega) (by omega)
                rw [Int.toNat_natCast] at e2
                simp (disch := omega) only [X0_gather_L109, rr_p, rr_bp, rr_bb, rr_0, rr_lt, rr_blt, rr_le, rr_ble, rr_eq, rr_beq, rr_nl_n, rr_nl_s, rr_bnl_n, rr_bnl_s, rr_cond_t, rr_cond_f, rr_bcond_t, rr_bcond_f, rr_bon, rr_bcv, rr_cv, rr_g, rr_gr, rr_si, rr_sz, rr_sr, rr_al, rr_ld, rr_st, rr_rl, rr_rs, rr_ni, rr_nr, rr_z, rr_div, rr_rem, rr_lc, rr_mx, rr_mn, rr_ab, rr_no, gd_t, bc_t, bc_f, gd_tt, bc_tt, bc_ff, or_true, true_or, and_true, true_and, Nat.reduceAdd, mo_b_s E0, mo_b_s E1, k3, k5, k7, mo_b_s e2]
              · simp (disch := omega) only [X0_gather_L109, rr_p, rr_bp, rr_bb, rr_0, rr_lt, rr_blt, rr_le, rr_ble, rr_eq, rr_beq, rr_nl_n, rr_nl_s, rr_bnl_n, rr_bnl_s, rr_cond_t, rr_cond_f, rr_bcond_t, rr_bcond_f, rr_bon, rr_bcv, rr_cv, rr_g, rr_gr, rr_si, rr_sz, rr_sr, rr_al, rr_ld, rr_st, rr_rl, rr_rs, rr_ni, rr_nr, rr_z, rr_div, rr_rem, rr_lc, rr_mx, rr_mn, rr_ab, rr_no, gd_t, bc_t, bc_f, gd_tt, bc_tt, bc_ff, or_true, true_or, and_true, true_and, Nat.reduceAdd, mo_b_s E0, mo_b_s E1, k3, k5, k7]
      · right
        refine ⟨(), h', by simp (disch := omega) only [X0_gather_L109, rr_p, rr_bp, rr_bb, rr_0, rr_lt, rr_blt, rr_le, rr_ble, rr_eq, rr_beq, rr_nl_n, rr_nl_s, rr_bnl_n, rr_bnl_s, rr_cond_t, rr_cond_f, rr_bcond_t, rr_bcond_f, rr_bon, rr_bcv, rr_cv, rr_g, rr_gr, rr_si, rr_sz, rr_sr, rr_al, rr_ld, rr_st, rr_rl, rr_rs, rr_ni, rr_nr, rr_z, rr_div, rr_rem, rr_lc, rr_mx, rr_mn, rr_ab, rr_no, gd_t, bc_t, bc_f, gd_tt, bc_tt, bc_ff, or_true, true_or, and_true, true_and, Nat.reduceAdd, mo_b_s E0, mo_b_s E1], i1, j1, e, hkc, hf, hS, ?_⟩
        rcases hd with z | z
        · exact ⟨fun (y : i1 < P.length) => by omega, fun (y : j1 < Q.length) => by omega⟩
        · exact z
  -- what stands before it
  have hg : ∀ lo : Int, lo = gL (ivP P) (ivQ Q) i j → FRM h (ah_sF (ah_sF (ah_sF (ah_sF h c 0 (i : Int)) c 2 (j : Int)) c 4 lo) c 5 lo) c (c + 1) ∧ kC (ah_sF (ah_sF (ah_sF (ah_sF h c 0 (i : Int)) c 2 (j : Int)) c 4 lo) c 5 lo) c i i j j (gL (ivP P) (ivQ Q) i j) (gL (ivP P) (ivQ Q) i j) := by
    intro lo hlo
    refine ⟨(((FRM.sF (lo := c) (hi := c + 1) (by omega) (by omega)).tr (FRM.sF (lo := c) (hi := c + 1) (by omega) (by omega)) (lo3 := c) (hi3 := c + 1) (by omega) (by omega) (by omega) (by omega)).tr (FRM.sF (lo := c) (hi := c + 1) (by omega) (by omega)) (lo3 := c) (hi3 := c + 1) (by omega) (by omega) (by omega) (by omega)).tr (FRM.sF (lo := c) (hi := c + 1) (by omega) (by omega)) (by omega) (by omega) (by omega) (by omega), ?_⟩
    unfold kC
    simp (disch := omega) only [hl_T_sF, hl_N_sF, hl_P_sF, hl_I_sF, hl_R_sF, hl_S_sF, hl_T_sP, hl_N_sP, hl_F_sP, hl_I_sP, hl_R_sP, hl_S_sP, hl_T_sI, hl_N_sI, hl_F_sI, hl_P_sI, hl_R_sI, hl_S_sI, hl_T_sR, hl_N_sR, hl_F_sR, hl_P_sR, hl_I_sR, hl_S_sR, hl_T_wI, hl_N_wI, hl_F_wI, hl_P_wI, hl_R_wI, hl_S_wI, hl_F_sF_s, hl_F_sF_n, hl_P_sP_s, hl_P_sP_n, hl_I_sI_s, hl_I_sI_n, hl_R_sR_s, hl_R_sR_n, hl_I_wI_s, hl_I_wI_n]
    exact ⟨tc, trivial, f1, trivial, f3, hlo, hlo⟩
  have ff : FRM h (ah_sF (ah_sF h c 0 (i : Int)) c 2 (j : Int)) c (c + 1) := (FRM.sF (lo := c) (hi := c + 1) (by omega) (by omega)).tr (FRM.sF (lo := c) (hi := c + 1) (by omega) (by omega)) (by omega) (by omega) (by omega) (by omega)
  have f0' : FRM h (ah_sF h c 0 (i : Int)) c (c + 1) := FRM.sF (by omega) (by omega)
  have hP0 := kP_fr hP f0' (by omega)
  have hPf := kP_fr hP ff (by omega)
  have hQf := kP_fr hQ ff (by omega)
  have E0 := q3_hunks hPf
  have E1 := q3_hunks hQf
  obtain ⟨g0, k0⟩ := hg _ rfl
  obtain ⟨i1, j1, e, h', el, q⟩ := loop _ g0 k0
  refine ⟨i1, j1, e, h', ?_, q⟩
  by_cases ci : i < P.length
  · have e2 := q3_beginsBehind hPf (i := (i : Int)) (by omega) (by omega)
    rw [Int.toNat_natCast] at e2
    have r2 := hB_r hP vP i
    by_cases cj : j < Q.length
    · have e3 := q3_begins hQf (i := (j : Int)) (by omega) (by omega)
      rw [Int.toNat_natCast] at e3
      have r3 := (vQ j).1
      by_cases cl : hB P i ≤ (hk Q j).1
      · have eL : gL (ivP P) (ivQ Q) i j = hB P i := bc_t ⟨ci, fun _ => cl⟩
        rw [eL] at el
        simp (disch := omega) only [X0_gather, rr_p, rr_bp, rr_bb, rr_0, rr_lt, rr_blt, rr_le, rr_ble, rr_eq, rr_beq, rr_nl_n, rr_nl_s, rr_bnl_n, rr_bnl_s, rr_cond_t, rr_cond_f, rr_bcond_t, rr_bcond_f, rr_bon, rr_bcv, rr_cv, rr_g, rr_gr, rr_si, rr_sz, rr_sr, rr_al, rr_ld, rr_st, rr_rl, rr_rs, rr_ni, rr_nr, rr_z, rr_div, rr_rem, rr_lc, rr_mx, rr_mn, rr_ab, rr_no, gd_t, bc_t, bc_f, gd_tt, bc_tt, bc_ff, or_true, true_or, and_true, true_and, Nat.reduceAdd, hl_T_sF, hl_N_sF, hl_P_sF, hl_I_sF, hl_R_sF, hl_S_sF, hl_T_sP, hl_N_sP, hl_F_sP, hl_I_sP, hl_R_sP, hl_S_sP, hl_T_sI, hl_N_sI, hl_F_sI, hl_P_sI, hl_R_sI, hl_S_sI, hl_T_sR, hl_N_sR, hl_F_sR, hl_P_sR, hl_I_sR, hl_S_sR, hl_T_wI, hl_N_wI, hl_F_wI, hl_P_wI, hl_R_wI, hl_S_wI, hl_F_sF_s, hl_F_sF_n, hl_P_sP_s, hl_P_sP_n, hl_I_sI_s, hl_I_sI_n, hl_R_sR_s, hl_R_sR_n, hl_I_wI_s, hl_I_wI_n, f1, f3, mo_b_s E0, mo_b_s E1, mo_b_s e2, mo_b_s e3, mo_b_s el]
      · have eL : gL (ivP P) (ivQ Q) i j = (hk Q j).1 := bc_f (fun z => cl (z.2 cj))
        rw [eL] at el
        simp (disch := omega) only [X0_gather, rr_p, rr_bp, rr_bb, rr_0, rr_lt, rr_blt, rr_le, rr_ble, rr_eq, rr_beq, rr_nl_n, rr_nl_s, rr_bnl_n, rr_bnl_s, rr_cond_t, rr_cond_f, rr_bcond_t, rr_bcond_f, rr_bon, rr_bcv, rr_cv, rr_g, rr_gr, rr_si, rr_sz, rr_sr, rr_al, rr_ld, rr_st, rr_rl, rr_rs, rr_ni, rr_nr, rr_z, rr_div, rr_rem, rr_lc, rr_mx, rr_mn, rr_ab, rr_no, gd_t, bc_t, bc_f, gd_tt, bc_tt, bc_ff, or_true, true_or, and_true, true_and, Nat.reduceAdd, hl_T_sF, hl_N_sF, hl_P_sF, hl_I_sF, hl_R_sF, hl_S_sF, hl_T_sP, hl_N_sP, hl_F_sP, hl_I_sP, hl_R_sP, hl_S_sP, hl_T_sI, hl_N_sI, hl_F_sI, hl_P_sI, hl_R_sI, hl_S_sI, hl_T_sR, hl_N_sR, hl_F_sR, hl_P_sR, hl_I_sR, hl_S_sR, hl_T_wI, hl_N_wI, hl_F_wI, hl_P_wI, hl_R_wI, hl_S_wI, hl_F_sF_s, hl_F_sF_n, hl_P_sP_s, hl_P_sP_n, hl_I_sI_s, hl_I_sI_n, hl_R_sR_s, hl_R_sR_n, hl_I_wI_s, hl_I_wI_n, f1, f3, mo_b_s E0, mo_b_s E1, mo_b_s e2, mo_b_s e3, mo_b_s el]
    · have e3 := q3_begins_o hQf (i := (j : Int)) (by omega) (by omega)
      have eL : gL (ivP P) (ivQ Q) i j = hB P i := bc_t ⟨ci, fun z => absurd z cj⟩
      rw [eL] at el
      simp (disch := omega) only [X0_gather, rr_p, rr_bp, rr_bb, rr_0, rr_lt, rr_blt, rr_le, rr_ble, rr_eq, rr_beq, rr_nl_n, rr_nl_s, rr_bnl_n, rr_bnl_s, rr_cond_t, rr_cond_f, rr_bcond_t, rr_bcond_f, rr_bon, rr_bcv, rr_cv, rr_g, rr_gr, rr_si, rr_sz, rr_sr, rr_al, rr_ld, rr_st, rr_rl, rr_rs, rr_ni, rr_nr, rr_z, rr_div, rr_rem, rr_lc, rr_mx, rr_mn, rr_ab, rr_no, gd_t, bc_t, bc_f, gd_tt, bc_tt, bc_ff, or_true, true_or, and_true, true_and, Nat.reduceAdd, hl_T_sF, hl_N_sF, hl_P_sF, hl_I_sF, hl_R_sF, hl_S_sF, hl_T_sP, hl_N_sP, hl_F_sP, hl_I_sP, hl_R_sP, hl_S_sP, hl_T_sI, hl_N_sI, hl_F_sI, hl_P_sI, hl_R_sI, hl_S_sI, hl_T_sR, hl_N_sR, hl_F_sR, hl_P_sR, hl_I_sR, hl_S_sR, hl_T_wI, hl_N_wI, hl_F_wI, hl_P_wI, hl_R_wI, hl_S_wI, hl_F_sF_s, hl_F_sF_n, hl_P_sP_s, hl_P_sP_n, hl_I_sI_s, hl_I_sI_n, hl_R_sR_s, hl_R_sR_n, hl_I_wI_s, hl_I_wI_n, f1, f3, mo_b_s E0, mo_b_s E1, mo_b_s e2, mo_b_s e3, mo_b_s el]
  · have hie : i = P.length := by omega
    have e2 := q3_beginsBehind_o hPf
    have cj : j < Q.length := by omega
    have e3 := q3_begins hQf (i := (j : Int)) (by omega) (by omega)
    rw [Int.toNat_natCast] at e3
    rw [← hie] at e2
    have eL : gL (ivP P) (ivQ Q) i j = (hk Q j).1 := bc_f (fun z => ci z.1)
    rw [eL] at el
    simp (disch := omega) only [X0_gather, rr_p, rr_bp, rr_bb, rr_0, rr_lt, rr_blt, rr_le, rr_ble, rr_eq, rr_beq, rr_nl_n, rr_nl_s, rr_bnl_n, rr_bnl_s, rr_cond_t, rr_cond_f, rr_bcond_t, rr_bcond_f, rr_bon, rr_bcv, rr_cv, rr_g, rr_gr, rr_si, rr_sz, rr_sr, rr_al, rr_ld, rr_st, rr_rl, rr_rs, rr_ni, rr_nr, rr_z, rr_div, rr_rem, rr_lc, rr_mx, rr_mn, rr_ab, rr_no, gd_t, bc_t, bc_f, gd_tt, bc_tt, bc_ff, or_true, true_or, and_true, true_and, Nat.reduceAdd, hl_T_sF, hl_N_sF, hl_P_sF, hl_I_sF, hl_R_sF, hl_S_sF, hl_T_sP, hl_N_sP, hl_F_sP, hl_I_sP, hl_R_sP, hl_S_sP, hl_T_sI, hl_N_sI, hl_F_sI, hl_P_sI, hl_R_sI, hl_S_sI, hl_T_sR, hl_N_sR, hl_F_sR, hl_P_sR, hl_I_sR, hl_S_sR, hl_T_wI, hl_N_wI, hl_F_wI, hl_P_wI, hl_R_wI, hl_S_wI, hl_F_sF_s, hl_F_sF_n, hl_P_sP_s, hl_P_sP_n, hl_I_sI_s, hl_I_sI_n, hl_R_sR_s, hl_R_sR_n, hl_I_wI_s, hl_I_wI_n, f1, f3, mo_b_s E0, mo_b_s E1, mo_b_s e2, mo_b_s e3, mo_b_s el]
