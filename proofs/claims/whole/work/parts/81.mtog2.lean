theorem q7_takenAt {h : AH} {m q j j1 : Nat} {Q : List HK} (hQ : mQ h m q Q) (vQ : pV Q) (sQ : sW Q) (hj : j ≤ j1) (hj1 : j1 ≤ Q.length) {z : Int} (hz : 0 ≤ z ∧ z ≤ 300000) (ho : ∀ t, t < Q.length → (t < j ∨ j1 ≤ t) → ¬ ((hk Q t).1 ≤ z ∧ z < (hk Q t).1 + ((hk Q t).2.1.length : Int))) : X7_takenAt m (q : Int) (j : Int) (j1 : Int) z h = some (gAt Q z, h) := by
  obtain ⟨hS, hQt, hq, k1, k2, k3⟩ := id hQ
  have mT := hS.1
  obtain ⟨p8, t8, n8⟩ := ms8 hS
  obtain ⟨p9, t9, n9⟩ := ms9 hS
  obtain ⟨p11, t11, n11⟩ := ms11 hS
  have hL := lp_inv (F := X7_takenAt_L6 m (q : Int) (j1 : Int) z) (fun s h' => h' = h ∧ ∃ n : Nat, s.2 = (n : Int) ∧ j ≤ n ∧ n ≤ j1 ∧ ((∃ t, j ≤ t ∧ t < n ∧ ((hk Q t).1 ≤ z ∧ z < (hk Q t).1 + ((hk Q t).2.1.length : Int)) ∧ s.1 = (hk Q t).2.1.getD (z - (hk Q t).1).toNat 0) ∨ ((∀ t, j ≤ t → t < n → ¬ ((hk Q t).1 ≤ z ∧ z < (hk Q t).1 + ((hk Q t).2.1.length : Int))) ∧ s.1 = -1))) (fun s => ((j1 : Int) - s.2).toNat) (fun r h' => h' = h ∧ r = gAt Q z) ?_ mo_N (-1, (j : Int)) h ⟨rfl, j, rfl, by omega, hj, Or.inr ⟨fun t t1 t2 => by omega, rfl⟩⟩ (by rw [mo_N_v]; dsimp only; omega)
  · obtain ⟨r, h', e1, rfl, rfl⟩ := hL
    simp (disch := omega) only [X7_takenAt, rr_p, rr_bp, rr_bb, rr_0, rr_lt, rr_blt, rr_le, rr_ble, rr_eq, rr_beq, rr_nl_n, rr_nl_s, rr_bnl_n, rr_bnl_s, rr_cond_t, rr_cond_f, rr_bcond_t, rr_bcond_f, rr_bon, rr_bcv, rr_cv, rr_g, rr_gr, rr_si, rr_sz, rr_sr, rr_al, rr_ld, rr_st, rr_rl, rr_rs, rr_ni, rr_nr, rr_z, rr_div, rr_rem, rr_lc, rr_mx, rr_mn, rr_ab, rr_no, gd_t, bc_t, bc_f, gd_tt, bc_tt, bc_ff, or_true, true_or, and_true, true_and, Nat.reduceAdd, mo_b_s e1]
  · rintro ⟨v, s2⟩ h' ⟨rfl, n, rfl, n1, n2, hv⟩
    dsimp only at hv ⊢
    by_cases cn : n < j1
    · left
      obtain ⟨b1, b2, b3⟩ := mQ_a hQ (i := (n : Int)) (by omega) (by omega)
      rw [Int.toNat_natCast] at b1 b2
      have r1 := (vQ n).1
      have g3 := @hgs_s Q n (by omega)
      have g4 := @hgs_le Q (n + 1)
      have e1 := q7_within (h := h') (v := z) (lo := (hk Q n).1) (hi := (hk Q n).1 + ((hk Q n).2.1.length : Int) - 1) (by unfold am_r; omega) (by unfold am_r; omega) (by unfold am_r; omega)
      by_cases cw : (hk Q n).1 ≤ z ∧ z < (hk Q n).1 + ((hk Q n).2.1.length : Int)
      · rw [bc_t (by omega)] at e1
        have e2 := q7_goFrom hQ (i := n) (by omega)
        have a3 := mQ_gl hQ (i := n) (k := (z - (hk Q n).1).toNat) (by omega) (by omega)
        rw [show 28 * (q : Int) + (hgs Q n : Int) + (((z - (hk Q n).1).toNat : Nat) : Int) = 28 * (q : Int) + (hgs Q n : Int) + z - (hk Q n).1 by omega] at a3
        refine ⟨((hk Q n).2.1.getD (z - (hk Q n).1).toNat 0, (n : Int) + 1), h', by simp (disch := omega) only [X7_takenAt_L6, rr_p, rr_bp, rr_bb, rr_0, rr_lt, rr_blt, rr_le, rr_ble, rr_eq, rr_beq, rr_nl_n, rr_nl_s, rr_bnl_n, rr_bnl_s, rr_cond_t, rr_cond_f, rr_bcond_t, rr_bcond_f, rr_bon, rr_bcv, rr_cv, rr_g, rr_gr, rr_si, rr_sz, rr_sr, rr_al, rr_ld, rr_st, rr_rl, rr_rs, rr_ni, rr_nr, rr_z, rr_div, rr_rem, rr_lc, rr_mx, rr_mn, rr_ab, rr_no, gd_t, bc_t, bc_f, gd_tt, bc_tt, bc_ff, or_true, true_or, and_true, true_and, Nat.reduceAdd, p8, p9, p11, b1, b2, mo_b_s e1, mo_b_s e2, a3], ⟨rfl, n + 1, by simp, by omega, by omega, Or.inl ⟨n, n1, by omega, cw, rfl⟩⟩, by omega⟩
      · rw [bc_f (by omega)] at e1
        refine ⟨(v, (n : Int) + 1), h', by simp (disch := omega) only [X7_takenAt_L6, rr_p, rr_bp, rr_bb, rr_0, rr_lt, rr_blt, rr_le, rr_ble, rr_eq, rr_beq, rr_nl_n, rr_nl_s, rr_bnl_n, rr_bnl_s, rr_cond_t, rr_cond_f, rr_bcond_t, rr_bcond_f, rr_bon, rr_bcv, rr_cv, rr_g, rr_gr, rr_si, rr_sz, rr_sr, rr_al, rr_ld, rr_st, rr_rl, rr_rs, rr_ni, rr_nr, rr_z, rr_div, rr_rem, rr_lc, rr_mx, rr_mn, rr_ab, rr_no, gd_t, bc_t, bc_f, gd_tt, bc_tt, bc_ff, or_true, true_or, and_true, true_and, Nat.reduceAdd, p8, p9, b1, b2, mo_b_s e1], ⟨rfl, n + 1, by simp, by omega, by omega, ?_⟩, by omega⟩
        rcases hv with ⟨t, t1, t2, t3⟩ | ⟨t1, t2⟩
        · exact Or.inl ⟨t, t1, by omega, t3⟩
        · refine Or.inr ⟨fun t u1 u2 => ?_, t2⟩
          by_cases c : t = n
          · subst c; exact cw
          · exact t1 t u1 (by omega)
    · right
      refine ⟨v, h', by simp (disch := omega) only [X7_takenAt_L6, rr_p, rr_bp, rr_bb, rr_0, rr_lt, rr_blt, rr_le, rr_ble, rr_eq, rr_beq, rr_nl_n, rr_nl_s, rr_bnl_n, rr_bnl_s, rr_cond_t, rr_cond_f, rr_bcond_t, rr_bcond_f, rr_bon, rr_bcv, rr_cv, rr_g, rr_gr, rr_si, rr_sz, rr_sr, rr_al, rr_ld, rr_st, rr_rl, rr_rs, rr_ni, rr_nr, rr_z, rr_div, rr_rem, rr_lc, rr_mx, rr_mn, rr_ab, rr_no, gd_t, bc_t, bc_f, gd_tt, bc_tt, bc_ff, or_true, true_or, and_true, true_and, Nat.reduceAdd], rfl, ?_⟩
      rcases hv with ⟨t, t1, t2, t3, t4⟩ | ⟨t1, t2⟩
      · rw [t4, gAt_in sQ (by omega) t3.1 t3.2]
      · rw [t2, gAt_no (fun t u1 => ?_)]
        by_cases c : t < j ∨ j1 ≤ t
        · exact ho t u1 c
        · exact t1 t (by omega) (by omega)
theorem q7_broughtAt {h : AH} {m p i i1 : Nat} {P : List HK} (hP : mQ h m p P) (vP : pV P) (sP : sW P) (hi : i ≤ i1) (hi1 : i1 ≤ P.length) {z : Int} (hz : 0 ≤ z ∧ z ≤ 300000) (ho : ∀ t, t < P.length → (t < i ∨ i1 ≤ t) → ¬ (hB P t ≤ z ∧ z < hB P t + ((hk P t).2.2.length : Int))) : X7_broughtAt m (p : Int) (i : Int) (i1 : Int) z h = some (cAt P z, h) := by
  obtain ⟨hS, hQt, hq, k1, k2, k3⟩ := id hP
  have mT := hS.1
  obtain ⟨p10, t10, n10⟩ := ms10 hS
  obtain ⟨p12, t12, n12⟩ := ms12 hS
  have hL := lp_inv (F := X7_broughtAt_L6 m (p : Int) (i1 : Int) z) (fun s h' => h' = h ∧ ∃ n : Nat, s.2 = (n : Int) ∧ i ≤ n ∧ n ≤ i1 ∧ ((∃ t, i ≤ t ∧ t < n ∧ (hB P t ≤ z ∧ z < hB P t + ((hk P t).2.2.length : Int)) ∧ s.1 = (hk P t).2.2.getD (z - hB P t).toNat 0) ∨ ((∀ t, i ≤ t → t < n → ¬ (hB P t ≤ z ∧ z < hB P t + ((hk P t).2.2.length : Int))) ∧ s.1 = -1))) (fun s => ((i1 : Int) - s.2).toNat) (fun r h' => h' = h ∧ r = cAt P z) ?_ mo_N (-1, (i : Int)) h ⟨rfl, i, rfl, by omega, hi, Or.inr ⟨fun t t1 t2 => by omega, rfl⟩⟩ (by rw [mo_N_v]; dsimp only; omega)
  · obtain ⟨r, h', e1, rfl, rfl⟩ := hL
    simp (disch := omega) only [X7_broughtAt, rr_p, rr_bp, rr_bb, rr_0, rr_lt, rr_blt, rr_le, rr_ble, rr_eq, rr_beq, rr_nl_n, rr_nl_s, rr_bnl_n, rr_bnl_s, rr_cond_t, rr_cond_f, rr_bcond_t, rr_bcond_f, rr_bon, rr_bcv, rr_cv, rr_g, rr_gr, rr_si, rr_sz, rr_sr, rr_al, rr_ld, rr_st, rr_rl, rr_rs, rr_ni, rr_nr, rr_z, rr_div, rr_rem, rr_lc, rr_mx, rr_mn, rr_ab, rr_no, gd_t, bc_t, bc_f, gd_tt, bc_tt, bc_ff, or_true, true_or, and_true, true_and, Nat.reduceAdd, mo_b_s e1]
  · rintro ⟨v, s2⟩ h' ⟨rfl, n, rfl, n1, n2, hv⟩
    dsimp only at hv ⊢
    by_cases cn : n < i1
    · left
      obtain ⟨b1, b2, b3⟩ := mQ_a hP (i := (n : Int)) (by omega) (by omega)
      rw [Int.toNat_natCast] at b3
      have e0 := q7_standsAt hP (i := n) (by omega)
      have r1 := hB_rM hP vP n
      have g3 := @hcs_s P n (by omega)
      have g4 := @hcs_le P (n + 1)
      have e1 := q7_within (h := h') (v := z) (lo := hB P n) (hi := hB P n + ((hk P n).2.2.length : Int) - 1) (by unfold am_r; omega) (by unfold am_r; omega) (by unfold am_r; omega)
      by_cases cw : hB P n ≤ z ∧ z < hB P n + ((hk P n).2.2.length : Int)
      · rw [bc_t (by omega)] at e1
        have e2 := q7_comeFrom hP (i := n) (by omega)
        have a3 := mQ_cl hP (i := n) (k := (z - hB P n).toNat) (by omega) (by omega)
        rw [show 28 * (p : Int) + (hcs P n : Int) + (((z - hB P n).toNat : Nat) : Int) = 28 * (p : Int) + (hcs P n : Int) + z - hB P n by omega] at a3
        refine ⟨((hk P n).2.2.getD (z - hB P n).toNat 0, (n : Int) + 1), h', by simp (disch := omega) only [X7_broughtAt_L6, rr_p, rr_bp, rr_bb, rr_0, rr_lt, rr_blt, rr_le, rr_ble, rr_eq, rr_beq, rr_nl_n, rr_nl_s, rr_bnl_n, rr_bnl_s, rr_cond_t, rr_cond_f, rr_bcond_t, rr_bcond_f, rr_bon, rr_bcv, rr_cv, rr_g, rr_gr, rr_si, rr_sz, rr_sr, rr_al, rr_ld, rr_st, rr_rl, rr_rs, rr_ni, rr_nr, rr_z, rr_div, rr_rem, rr_lc, rr_mx, rr_mn, rr_ab, rr_no, gd_t, bc_t, bc_f, gd_tt, bc_tt, bc_ff, or_true, true_or, and_true, true_and, Nat.reduceAdd, p10, p12, mo_b_s e0, b3, mo_b_s e1, mo_b_s e2, a3], ⟨rfl, n + 1, by simp, by omega, by omega, Or.inl ⟨n, n1, by omega, cw, rfl⟩⟩, by omega⟩
      · rw [bc_f (by omega)] at e1
        refine ⟨(v, (n : Int) + 1), h', by simp (disch := omega) only [X7_broughtAt_L6, rr_p, rr_bp, rr_bb, rr_0, rr_lt, rr_blt, rr_le, rr_ble, rr_eq, rr_beq, rr_nl_n, rr_nl_s, rr_bnl_n, rr_bnl_s, rr_cond_t, rr_cond_f, rr_bcond_t, rr_bcond_f, rr_bon, rr_bcv, rr_cv, rr_g, rr_gr, rr_si, rr_sz, rr_sr, rr_al, rr_ld, rr_st, rr_rl, rr_rs, rr_ni, rr_nr, rr_z, rr_div, rr_rem, rr_lc, rr_mx, rr_mn, rr_ab, rr_no, gd_t, bc_t, bc_f, gd_tt, bc_tt, bc_ff, or_true, true_or, and_true, true_and, Nat.reduceAdd, p10, mo_b_s e0, b3, mo_b_s e1], ⟨rfl, n + 1, by simp, by omega, by omega, ?_⟩, by omega⟩
        rcases hv with ⟨t, t1, t2, t3⟩ | ⟨t1, t2⟩
        · exact Or.inl ⟨t, t1, by omega, t3⟩
        · refine Or.inr ⟨fun t u1 u2 => ?_, t2⟩
          by_cases c : t = n
          · subst c; exact cw
          · exact t1 t u1 (by omega)
    · right
      refine ⟨v, h', by simp (disch := omega) only [X7_broughtAt_L6, rr_p, rr_bp, rr_bb, rr_0, rr_lt, rr_blt, rr_le, rr_ble, rr_eq, rr_beq, rr_nl_n, rr_nl_s, rr_bnl_n, rr_bnl_s, rr_cond_t, rr_cond_f, rr_bcond_t, rr_bcond_f, rr_bon, rr_bcv, rr_cv, rr_g, rr_gr, rr_si, rr_sz, rr_sr, rr_al, rr_ld, rr_st, rr_rl, rr_rs, rr_ni, rr_nr, rr_z, rr_div, rr_rem, rr_lc, rr_mx, rr_mn, rr_ab, rr_no, gd_t, bc_t, bc_f, gd_tt, bc_tt, bc_ff, or_true, true_or, and_true, true_and, Nat.reduceAdd], rfl, ?_⟩
      rcases hv with ⟨t, t1, t2, t3, t4⟩ | ⟨t1, t2⟩
      · rw [t4, cAt_in sP (by omega) t3.1 t3.2]
      · rw [t2, cAt_no (fun t u1 => ?_)]
        by_cases c : t < i ∨ i1 ≤ t
        · exact ho t u1 c
        · exact t1 t (by omega) (by omega)
theorem q7_layAhead {h : AH} {m p q i i1 j j1 : Nat} {lo e ps : Int} {P Q W : List HK} (hP : mQ h m p P) (hQ : mQ h m q Q) (vP : pV P) (vQ : pV Q) (sP : sW P) (sQ : sW Q) (hW : mW h m (W ++ [(ps, [], [])])) (hi : i ≤ i1 ∧ i1 ≤ P.length) (hj : j ≤ j1 ∧ j1 ≤ Q.length) (h0 : 0 ≤ lo) (h1 : lo ≤ e) (h2 : e ≤ 190000) (h3 : i < P.length → lo ≤ hB P i) (h4 : ∀ s, i ≤ s → s < i1 → hB P s + ((hk P s).2.2.length : Int) ≤ e) (ho : ∀ z : Int, lo ≤ z → z < e → ∀ t, t < Q.length → (t < j ∨ j1 ≤ t) → ¬ ((hk Q t).1 ≤ z ∧ z < (hk Q t).1 + ((hk Q t).2.1.length : Int))) (hw : W.length < 40) (hl : (fG W).length + (mkL (ivP P) (gAt Q) (fun t => (hk P t).2.1) e (i1 - i) i lo).length ≤ 120) : ∃ h', X7_layAhead m (p : Int) (i : Int) (i1 : Int) (q : Int) (j : Int) (j1 : Int) lo e h = some ((), h') ∧ mW h' m (W ++ [(ps, mkL (ivP P) (gAt Q) (fun t => (hk P t).2.1) e (i1 - i) i lo, [])]) ∧ MF m 13 18 16 23 h h' := by
  have ok := okP sP
  have lP := hP.2.2.2.1
  have pl := hP.2.2.1
  generalize hT : mkL (ivP P) (gAt Q) (fun t => (hk P t).2.1) e (i1 - i) i lo = T at *
  have hL := lp_inv (F := X7_layAhead_L7 m (p : Int) (i1 : Int) (q : Int) (j : Int) (j1 : Int) e) (fun s h' => ∃ (t r : Nat) (nx : Int) (g : List Int), s = (nx, (t : Int)) ∧ t + r = i1 ∧ i ≤ t ∧ (lo ≤ nx ∧ nx ≤ e) ∧ (0 < r → nx ≤ hB P t) ∧ g ++ mkL (ivP P) (gAt Q) (fun t => (hk P t).2.1) e r t nx = T ∧ mW h' m (W ++ [(ps, g, [])]) ∧ MF m 13 18 16 23 h h') (fun s => (e - s.1 + (i1 : Int) - s.2).toNat) (fun _ h' => mW h' m (W ++ [(ps, T, [])]) ∧ MF m 13 18 16 23 h h') ?_ mo_N (lo, (i : Int)) h ⟨i, i1 - i, lo, [], rfl, by omega, by omega, ⟨by omega, h1⟩, fun hr => h3 (by omega), by rw [List.nil_append]; exact hT, hW, MF.rf⟩ (by rw [mo_N_v]; dsimp only; omega)
  · obtain ⟨_, h', e1, q⟩ := hL
    exact ⟨h', by simp (disch := omega) only [X7_layAhead, rr_p, rr_bp, rr_bb, rr_0, rr_lt, rr_blt, rr_le, rr_ble, rr_eq, rr_beq, rr_nl_n, rr_nl_s, rr_bnl_n, rr_bnl_s, rr_cond_t, rr_cond_f, rr_bcond_t, rr_bcond_f, rr_bon, rr_bcv, rr_cv, rr_g, rr_gr, rr_si, rr_sz, rr_sr, rr_al, rr_ld, rr_st, rr_rl, rr_rs, rr_ni, rr_nr, rr_z, rr_div, rr_rem, rr_lc, rr_mx, rr_mn, rr_ab, rr_no, gd_t, bc_t, bc_f, gd_tt, bc_tt, bc_ff, or_true, true_or, and_true, true_and, Nat.reduceAdd, mo_b_s e1], q⟩
  · rintro s h' ⟨t, r, nx, g, rfl, hr, ht, ⟨n1, n2⟩, hnx, hg, hk1, hf⟩
    have hP' := mQ_fr hP hf (by omega)
    have hQ' := mQ_fr hQ hf (by omega)
    have mT := hP'.1.1
    by_cases cA : t < i1 ∧ hB P t = nx
    · left
      obtain ⟨r, rfl⟩ : ∃ r', r = r' + 1 := ⟨r - 1, by omega⟩
      have e0 := q7_standsAt hP' (i := t) (by omega)
      have r1 := hB_rM hP' vP t
      have hx0 := hB_0 sP (i := t) (by omega)
      have q2 := h4 t ht cA.1
      have hg2 : g ++ ((hk P t).2.1 ++ mkL (ivP P) (gAt Q) (fun t => (hk P t).2.1) e r (t + 1) (hB P t + ((hk P t).2.2.length : Int))) = T := by
        rw [mkL_at (by show hB P t ≤ nx; omega)] at hg; exact hg
      have lT := congrArg List.length hg2
      rw [List.length_append, List.length_append] at lT
      obtain ⟨h2, e2, v2, f2⟩ := lp_goes (F := X7_layAhead_L41 m (p : Int) (t : Int)) (hk P t).2.1 hP'.1 hk1 (by omega) hw (by
          intro k g1 g2 hk1 hf hg
          have hQg := mQ_fr hP' hf (by omega)
          have mTg := hQg.1.1
          obtain ⟨p9, t9, n9⟩ := ms9 hQg.1
          obtain ⟨p11, t11, n11⟩ := ms11 hQg.1
          obtain ⟨c1, c2, c3⟩ := mQ_a hQg (i := (t : Int)) (by omega) (by omega)
          rw [Int.toNat_natCast] at c1 c2 c3
          have e3 := q7_goFrom hQg (i := t) (by omega)
          have s1 := @hgs_s P t (by omega)
          have s2 := @hgs_le P (t + 1)
          have s3 := hP'.2.2.2.2.1
          have a3 := mQ_gl hQg (i := t) (by omega) hk1
          simp (disch := omega) only [X7_layAhead_L41, rr_p, rr_bp, rr_bb, rr_0, rr_lt, rr_blt, rr_le, rr_ble, rr_eq, rr_beq, rr_nl_n, rr_nl_s, rr_bnl_n, rr_bnl_s, rr_cond_t, rr_cond_f, rr_bcond_t, rr_bcond_f, rr_bon, rr_bcv, rr_cv, rr_g, rr_gr, rr_si, rr_sz, rr_sr, rr_al, rr_ld, rr_st, rr_rl, rr_rs, rr_ni, rr_nr, rr_z, rr_div, rr_rem, rr_lc, rr_mx, rr_mn, rr_ab, rr_no, gd_t, bc_t, bc_f, gd_tt, bc_tt, bc_ff, or_true, true_or, and_true, true_and, Nat.reduceAdd, p9, p11, c2, mo_b_s e3, a3, mo_b_s hg]) (by
          intro g1 hf
          have hQg := mQ_fr hP' hf (by omega)
          have mTg := hQg.1.1
          obtain ⟨p9, t9, n9⟩ := ms9 hQg.1
          obtain ⟨c1, c2, c3⟩ := mQ_a hQg (i := (t : Int)) (by omega) (by omega)
          rw [Int.toNat_natCast] at c1 c2 c3
          have s1 := @hgs_s P t (by omega)
          have s2 := @hgs_le P (t + 1)
          have s3 := hP'.2.2.2.2.1
          simp (disch := omega) only [X7_layAhead_L41, rr_p, rr_bp, rr_bb, rr_0, rr_lt, rr_blt, rr_le, rr_ble, rr_eq, rr_beq, rr_nl_n, rr_nl_s, rr_bnl_n, rr_bnl_s, rr_cond_t, rr_cond_f, rr_bcond_t, rr_bcond_f, rr_bon, rr_bcv, rr_cv, rr_g, rr_gr, rr_si, rr_sz, rr_sr, rr_al, rr_ld, rr_st, rr_rl, rr_rs, rr_ni, rr_nr, rr_z, rr_div, rr_rem, rr_lc, rr_mx, rr_mn, rr_ab, rr_no, gd_t, bc_t, bc_f, gd_tt, bc_tt, bc_ff, or_true, true_or, and_true, true_and, Nat.reduceAdd, p9, c2])
      have hP2 := mQ_fr hP' f2 (by omega)
      have mT2 := hP2.1.1
      obtain ⟨p10, t10, n10⟩ := ms10 hP2.1
      obtain ⟨d1, d2, d3⟩ := mQ_a hP2 (i := (t : Int)) (by omega) (by omega)
      rw [Int.toNat_natCast] at d3
      refine ⟨(hB P t + ((hk P t).2.2.length : Int), ((t + 1 : Nat) : Int)), h2, ?_, ⟨t + 1, r, hB P t + ((hk P t).2.2.length : Int), g ++ (hk P t).2.1, rfl, by omega, by omega, ⟨by omega, q2⟩, fun hr2 => ?_, ?_, v2, hf.tr f2 (by omega)⟩, by dsimp only; omega⟩
      · by_cases c1 : nx < e
        · simp (disch := omega) only [X7_layAhead_L7, rr_p, rr_bp, rr_bb, rr_0, rr_lt, rr_blt, rr_le, rr_ble, rr_eq, rr_beq, rr_nl_n, rr_nl_s, rr_bnl_n, rr_bnl_s, rr_cond_t, rr_cond_f, rr_bcond_t, rr_bcond_f, rr_bon, rr_bcv, rr_cv, rr_g, rr_gr, rr_si, rr_sz, rr_sr, rr_al, rr_ld, rr_st, rr_rl, rr_rs, rr_ni, rr_nr, rr_z, rr_div, rr_rem, rr_lc, rr_mx, rr_mn, rr_ab, rr_no, gd_t, bc_t, bc_f, gd_tt, bc_tt, bc_ff, or_true, true_or, and_true, true_and, Nat.reduceAdd, mo_b_s e0, mo_b_s e2, p10, d3, Int.natCast_add, Int.natCast_one, cA.2]
        · simp (disch := omega) only [X7_layAhead_L7, rr_p, rr_bp, rr_bb, rr_0, rr_lt, rr_blt, rr_le, rr_ble, rr_eq, rr_beq, rr_nl_n, rr_nl_s, rr_bnl_n, rr_bnl_s, rr_cond_t, rr_cond_f, rr_bcond_t, rr_bcond_f, rr_bon, rr_bcv, rr_cv, rr_g, rr_gr, rr_si, rr_sz, rr_sr, rr_al, rr_ld, rr_st, rr_rl, rr_rs, rr_ni, rr_nr, rr_z, rr_div, rr_rem, rr_lc, rr_mx, rr_mn, rr_ab, rr_no, gd_t, bc_t, bc_f, gd_tt, bc_tt, bc_ff, or_true, true_or, and_true, true_and, Nat.reduceAdd, mo_b_s e0, mo_b_s e2, p10, d3, Int.natCast_add, Int.natCast_one, cA.2]
      · have q3 : hB P t + ((hk P t).2.2.length : Int) + 1 ≤ hB P (t + 1) := ok.2 t (by show t + 1 < P.length; omega)
        omega
      · rw [← hg2]; simp only [List.append_assoc]
    · have hne : t < i1 → nx < hB P t := fun z => by
        have := hnx (by omega)
        by_cases y : hB P t = nx
        · exact absurd ⟨z, y⟩ cA
        · omega
      by_cases cB : nx < e ∨ t < i1
      · left
        have hlt : nx < e := by
          by_cases z : t < i1
          · have q1 := hne z
            have q2 := h4 t ht z
            omega
          · omega
        have hg2 : g ++ (gAt Q nx :: mkL (ivP P) (gAt Q) (fun t => (hk P t).2.1) e r t (nx + 1)) = T := by
          rw [mkL_s (by
            by_cases z : t < i1
            · exact Or.inr ⟨by omega, hne z⟩
            · exact Or.inl ⟨by omega, hlt⟩)] at hg
          exact hg
        have lT := congrArg List.length hg2
        rw [List.length_append, List.length_cons] at lT
        have e1 := q7_takenAt hQ' vQ sQ hj.1 hj.2 (z := nx) (by omega) (ho nx n1 hlt)
        obtain ⟨h2, e2, v2, f2⟩ := q7_goes hP'.1 hk1 (v := gAt Q nx) (by omega) hw
        refine ⟨(nx + 1, (t : Int)), h2, ?_, ⟨t, r, nx + 1, g ++ [gAt Q nx], rfl, hr, ht, ⟨by omega, by omega⟩, fun z => by have := hne (by omega); omega, by rw [← hg2]; simp only [List.append_assoc]; rfl, v2, hf.tr f2 (by omega)⟩, by dsimp only; omega⟩
        by_cases z : t < i1
        · have e0 := q7_standsAt hP' (i := t) (by omega)
          have r1 := hB_rM hP' vP t
          have q1 := hne z
          simp (disch := omega) only [X7_layAhead_L7, rr_p, rr_bp, rr_bb, rr_0, rr_lt, rr_blt, rr_le, rr_ble, rr_eq, rr_beq, rr_nl_n, rr_nl_s, rr_bnl_n, rr_bnl_s, rr_cond_t, rr_cond_f, rr_bcond_t, rr_bcond_f, rr_bon, rr_bcv, rr_cv, rr_g, rr_gr, rr_si, rr_sz, rr_sr, rr_al, rr_ld, rr_st, rr_rl, rr_rs, rr_ni, rr_nr, rr_z, rr_div, rr_rem, rr_lc, rr_mx, rr_mn, rr_ab, rr_no, gd_t, bc_t, bc_f, gd_tt, bc_tt, bc_ff, or_true, true_or, and_true, true_and, Nat.reduceAdd, mo_b_s e0, mo_b_s e1, mo_b_s e2]
        · simp (disch := omega) only [X7_layAhead_L7, rr_p, rr_bp, rr_bb, rr_0, rr_lt, rr_blt, rr_le, rr_ble, rr_eq, rr_beq, rr_nl_n, rr_nl_s, rr_bnl_n, rr_bnl_s, rr_cond_t, rr_cond_f, rr_bcond_t, rr_bcond_f, rr_bon, rr_bcv, rr_cv, rr_g, rr_gr, rr_si, rr_sz, rr_sr, rr_al, rr_ld, rr_st, rr_rl, rr_rs, rr_ni, rr_nr, rr_z, rr_div, rr_rem, rr_lc, rr_mx, rr_mn, rr_ab, rr_no, gd_t, bc_t, bc_f, gd_tt, bc_tt, bc_ff, or_true, true_or, and_true, true_and, Nat.reduceAdd, mo_b_s e1, mo_b_s e2]
      · right
        have hr0 : r = 0 := by omega
        subst hr0
        have hg : g ++ seg (gAt Q) nx e = T := hg
        rw [seg_nil (by omega), List.append_nil] at hg
        subst hg
        exact ⟨(), h', by simp (disch := omega) only [X7_layAhead_L7, rr_p, rr_bp, rr_bb, rr_0, rr_lt, rr_blt, rr_le, rr_ble, rr_eq, rr_beq, rr_nl_n, rr_nl_s, rr_bnl_n, rr_bnl_s, rr_cond_t, rr_cond_f, rr_bcond_t, rr_bcond_f, rr_bon, rr_bcv, rr_cv, rr_g, rr_gr, rr_si, rr_sz, rr_sr, rr_al, rr_ld, rr_st, rr_rl, rr_rs, rr_ni, rr_nr, rr_z, rr_div, rr_rem, rr_lc, rr_mx, rr_mn, rr_ab, rr_no, gd_t, bc_t, bc_f, gd_tt, bc_tt, bc_ff, or_true, true_or, and_true, true_and, Nat.reduceAdd], hk1, hf⟩
theorem q7_layBehind {h : AH} {m p q i i1 j j1 : Nat} {lo e ps : Int} {gg : List Int} {P Q W : List HK} (hP : mQ h m p P) (hQ : mQ h m q Q) (vP : pV P) (vQ : pV Q) (sP : sW P) (sQ : sW Q) (hW : mW h m (W ++ [(ps, gg, [])])) (hi : i ≤ i1 ∧ i1 ≤ P.length) (hj : j ≤ j1 ∧ j1 ≤ Q.length) (h0 : 0 ≤ lo) (h1 : lo ≤ e) (h2 : e ≤ 190000) (h3 : j < Q.length → lo ≤ (hk Q j).1) (h4 : ∀ s, j ≤ s → s < j1 → (hk Q s).1 + ((hk Q s).2.1.length : Int) ≤ e) (ho : ∀ z : Int, lo ≤ z → z < e → ∀ t, t < P.length → (t < i ∨ i1 ≤ t) → ¬ (hB P t ≤ z ∧ z < hB P t + ((hk P t).2.2.length : Int))) (hw : W.length < 40) (hl : (fC W).length + (mkL (ivQ Q) (cAt P) (fun t => (hk Q t).2.2) e (j1 - j) j lo).length ≤ 120) : ∃ h', X7_layBehind m (p : Int) (i : Int) (i1 : Int) (q : Int) (j : Int) (j1 : Int) lo e h = some ((), h') ∧ mW h' m (W ++ [(ps, gg, mkL (ivQ Q) (cAt P) (fun t => (hk Q t).2.2) e (j1 - j) j lo)]) ∧ MF m 13 18 16 23 h h' := by
  have ok := okQ sQ
  have lQ := hQ.2.2.2.1
  have ql := hQ.2.2.1
  generalize hT : mkL (ivQ Q) (cAt P) (fun t => (hk Q t).2.2) e (j1 - j) j lo = T at *
  have hL := lp_inv (F := X7_layBehind_L8 m (p : Int) (i : Int) (i1 : Int) (q : Int) (j1 : Int) e) (fun s h' => ∃ (t r : Nat) (nx : Int) (g : List Int), s = (nx, (t : Int)) ∧ t + r = j1 ∧ j ≤ t ∧ (lo ≤ nx ∧ nx ≤ e) ∧ (0 < r → nx ≤ (hk Q t).1) ∧ g ++ mkL (ivQ Q) (cAt P) (fun t => (hk Q t).2.2) e r t nx = T ∧ mW h' m (W ++ [(ps, gg, g)]) ∧ MF m 13 18 16 23 h h') (fun s => (e - s.1 + (j1 : Int) - s.2).toNat) (fun _ h' => mW h' m (W ++ [(ps, gg, T)]) ∧ MF m 13 18 16 23 h h') ?_ mo_N (lo, (j : Int)) h ⟨j, j1 - j, lo, [], rfl, by omega, by omega, ⟨by omega, h1⟩, fun hr => h3 (by omega), by rw [List.nil_append]; exact hT, hW, MF.rf⟩ (by rw [mo_N_v]; dsimp only; omega)
  · obtain ⟨_, h', e1, q⟩ := hL
    exact ⟨h', by simp (disch := omega) only [X7_layBehind, rr_p, rr_bp, rr_bb, rr_0, rr_lt, rr_blt, rr_le, rr_ble, rr_eq, rr_beq, rr_nl_n, rr_nl_s, rr_bnl_n, rr_bnl_s, rr_cond_t, rr_cond_f, rr_bcond_t, rr_bcond_f, rr_bon, rr_bcv, rr_cv, rr_g, rr_gr, rr_si, rr_sz, rr_sr, rr_al, rr_ld, rr_st, rr_rl, rr_rs, rr_ni, rr_nr, rr_z, rr_div, rr_rem, rr_lc, rr_mx, rr_mn, rr_ab, rr_no, gd_t, bc_t, bc_f, gd_tt, bc_tt, bc_ff, or_true, true_or, and_true, true_and, Nat.reduceAdd, mo_b_s e1], q⟩
  · rintro s h' ⟨t, r, nx, g, rfl, hr, ht, ⟨n1, n2⟩, hnx, hg, hk1, hf⟩
    have hP' := mQ_fr hP hf (by omega)
    have hQ' := mQ_fr hQ hf (by omega)
    have mT := hP'.1.1
    obtain ⟨p8, t8, n8⟩ := ms8 hP'.1
    by_cases cA : t < j1 ∧ (hk Q t).1 = nx
    · left
      obtain ⟨r, rfl⟩ : ∃ r', r = r' + 1 := ⟨r - 1, by omega⟩
      obtain ⟨b1, b2, b3⟩ := mQ_a hQ' (i := (t : Int)) (by omega) (by omega)
      rw [Int.toNat_natCast] at b1
      have r1 := (vQ t).1
      have hx0 := sQ.1 t (by omega)
      have q2 := h4 t ht cA.1
      have hg2 : g ++ ((hk Q t).2.2 ++ mkL (ivQ Q) (cAt P) (fun t => (hk Q t).2.2) e r (t + 1) ((hk Q t).1 + ((hk Q t).2.1.length : Int))) = T := by
        rw [mkL_at (by show (hk Q t).1 ≤ nx; omega)] at hg; exact hg
      have lT := congrArg List.length hg2
      rw [List.length_append, List.length_append] at lT
      obtain ⟨h2, e2, v2, f2⟩ := lp_comes (F := X7_layBehind_L50 m (q : Int) (t : Int)) (hk Q t).2.2 hQ'.1 hk1 (by omega) hw (by
          intro k g1 g2 hk1 hf hg
          have hQg := mQ_fr hQ' hf (by omega)
          have mTg := hQg.1.1
          obtain ⟨p10, t10, n10⟩ := ms10 hQg.1
          obtain ⟨p12, t12, n12⟩ := ms12 hQg.1
          obtain ⟨c1, c2, c3⟩ := mQ_a hQg (i := (t : Int)) (by omega) (by omega)
          rw [Int.toNat_natCast] at c1 c2 c3
          have e3 := q7_comeFrom hQg (i := t) (by omega)
          have s1 := @hcs_s Q t (by omega)
          have s2 := @hcs_le Q (t + 1)
          have s3 := hQ'.2.2.2.2.2
          have a3 := mQ_cl hQg (i := t) (by omega) hk1
          simp (disch := omega) only [X7_layBehind_L50, rr_p, rr_bp, rr_bb, rr_0, rr_lt, rr_blt, rr_le, rr_ble, rr_eq, rr_beq, rr_nl_n, rr_nl_s, rr_bnl_n, rr_bnl_s, rr_cond_t, rr_cond_f, rr_bcond_t, rr_bcond_f, rr_bon, rr_bcv, rr_cv, rr_g, rr_gr, rr_si, rr_sz, rr_sr, rr_al, rr_ld, rr_st, rr_rl, rr_rs, rr_ni, rr_nr, rr_z, rr_div, rr_rem, rr_lc, rr_mx, rr_mn, rr_ab, rr_no, gd_t, bc_t, bc_f, gd_tt, bc_tt, bc_ff, or_true, true_or, and_true, true_and, Nat.reduceAdd, p10, p12, c3, mo_b_s e3, a3, mo_b_s hg]) (by
          intro g1 hf
          have hQg := mQ_fr hQ' hf (by omega)
          have mTg := hQg.1.1
          obtain ⟨p10, t10, n10⟩ := ms10 hQg.1
          obtain ⟨c1, c2, c3⟩ := mQ_a hQg (i := (t : Int)) (by omega) (by omega)
          rw [Int.toNat_natCast] at c1 c2 c3
          have s1 := @hcs_s Q t (by omega)
          have s2 := @hcs_le Q (t + 1)
          have s3 := hQ'.2.2.2.2.2
          simp (disch := omega) only [X7_layBehind_L50, rr_p, rr_bp, rr_bb, rr_0, rr_lt, rr_blt, rr_le, rr_ble, rr_eq, rr_beq, rr_nl_n, rr_nl_s, rr_bnl_n, rr_bnl_s, rr_cond_t, rr_cond_f, rr_bcond_t, rr_bcond_f, rr_bon, rr_bcv, rr_cv, rr_g, rr_gr, rr_si, rr_sz, rr_sr, rr_al, rr_ld, rr_st, rr_rl, rr_rs, rr_ni, rr_nr, rr_z, rr_div, rr_rem, rr_lc, rr_mx, rr_mn, rr_ab, rr_no, gd_t, bc_t, bc_f, gd_tt, bc_tt, bc_ff, or_true, true_or, and_true, true_and, Nat.reduceAdd, p10, c3])
      have hP2 := mQ_fr hQ' f2 (by omega)
      have mT2 := hP2.1.1
      obtain ⟨p9, t9, n9⟩ := ms9 hP2.1
      obtain ⟨d1, d2, d3⟩ := mQ_a hP2 (i := (t : Int)) (by omega) (by omega)
      rw [Int.toNat_natCast] at d2
      refine ⟨((hk Q t).1 + ((hk Q t).2.1.length : Int), ((t + 1 : Nat) : Int)), h2, ?_, ⟨t + 1, r, (hk Q t).1 + ((hk Q t).2.1.length : Int), g ++ (hk Q t).2.2, rfl, by omega, by omega, ⟨by omega, q2⟩, fun hr2 => ?_, ?_, v2, hf.tr f2 (by omega)⟩, by dsimp only; omega⟩
      · by_cases c1 : nx < e
        · simp (disch := omega) only [X7_layBehind_L8, rr_p, rr_bp, rr_bb, rr_0, rr_lt, rr_blt, rr_le, rr_ble, rr_eq, rr_beq, rr_nl_n, rr_nl_s, rr_bnl_n, rr_bnl_s, rr_cond_t, rr_cond_f, rr_bcond_t, rr_bcond_f, rr_bon, rr_bcv, rr_cv, rr_g, rr_gr, rr_si, rr_sz, rr_sr, rr_al, rr_ld, rr_st, rr_rl, rr_rs, rr_ni, rr_nr, rr_z, rr_div, rr_rem, rr_lc, rr_mx, rr_mn, rr_ab, rr_no, gd_t, bc_t, bc_f, gd_tt, bc_tt, bc_ff, or_true, true_or, and_true, true_and, Nat.reduceAdd, p8, b1, mo_b_s e2, p9, d2, Int.natCast_add, Int.natCast_one, cA.2]
        · simp (disch := omega) only [X7_layBehind_L8, rr_p, rr_bp, rr_bb, rr_0, rr_lt, rr_blt, rr_le, rr_ble, rr_eq, rr_beq, rr_nl_n, rr_nl_s, rr_bnl_n, rr_bnl_s, rr_cond_t, rr_cond_f, rr_bcond_t, rr_bcond_f, rr_bon, rr_bcv, rr_cv, rr_g, rr_gr, rr_si, rr_sz, rr_sr, rr_al, rr_ld, rr_st, rr_rl, rr_rs, rr_ni, rr_nr, rr_z, rr_div, rr_rem, rr_lc, rr_mx, rr_mn, rr_ab, rr_no, gd_t, bc_t, bc_f, gd_tt, bc_tt, bc_ff, or_true, true_or, and_true, true_and, Nat.reduceAdd, p8, b1, mo_b_s e2, p9, d2, Int.natCast_add, Int.natCast_one, cA.2]
      · have q3 : (hk Q t).1 + ((hk Q t).2.1.length : Int) + 1 ≤ (hk Q (t + 1)).1 := ok.2 t (by show t + 1 < Q.length; omega)
        omega
      · rw [← hg2]; simp only [List.append_assoc]
    · have hne : t < j1 → nx < (hk Q t).1 := fun z => by
        have := hnx (by omega)
        by_cases y : (hk Q t).1 = nx
        · exact absurd ⟨z, y⟩ cA
        · omega
      by_cases cB : nx < e ∨ t < j1
      · left
        have hlt : nx < e := by
          by_cases z : t < j1
          · have q1 := hne z
            have q2 := h4 t ht z
            omega
          · omega
        have hg2 : g ++ (cAt P nx :: mkL (ivQ Q) (cAt P) (fun t => (hk Q t).2.2) e r t (nx + 1)) = T := by
          rw [mkL_s (by
            by_cases z : t < j1
            · exact Or.inr ⟨by omega, hne z⟩
            · exact Or.inl ⟨by omega, hlt⟩)] at hg
          exact hg
        have lT := congrArg List.length hg2
        rw [List.length_append, List.length_cons] at lT
        have e1 := q7_broughtAt hP' vP sP hi.1 hi.2 (z := nx) (by omega) (ho nx n1 hlt)
        obtain ⟨h2, e2, v2, f2⟩ := q7_comes hP'.1 hk1 (v := cAt P nx) (by omega) hw
        refine ⟨(nx + 1, (t : Int)), h2, ?_, ⟨t, r, nx + 1, g ++ [cAt P nx], rfl, hr, ht, ⟨by omega, by omega⟩, fun z => by have := hne (by omega); omega, by rw [← hg2]; simp only [List.append_assoc]; rfl, v2, hf.tr f2 (by omega)⟩, by dsimp only; omega⟩
        by_cases z : t < j1
        · obtain ⟨b1, b2, b3⟩ := mQ_a hQ' (i := (t : Int)) (by omega) (by omega)
          rw [Int.toNat_natCast] at b1
          have r1 := (vQ t).1
          have q1 := hne z
          simp (disch := omega) only [X7_layBehind_L8, rr_p, rr_bp, rr_bb, rr_0, rr_lt, rr_blt, rr_le, rr_ble, rr_eq, rr_beq, rr_nl_n, rr_nl_s, rr_bnl_n, rr_bnl_s, rr_cond_t, rr_cond_f, rr_bcond_t, rr_bcond_f, rr_bon, rr_bcv, rr_cv, rr_g, rr_gr, rr_si, rr_sz, rr_sr, rr_al, rr_ld, rr_st, rr_rl, rr_rs, rr_ni, rr_nr, rr_z, rr_div, rr_rem, rr_lc, rr_mx, rr_mn, rr_ab, rr_no, gd_t, bc_t, bc_f, gd_tt, bc_tt, bc_ff, or_true, true_or, and_true, true_and, Nat.reduceAdd, p8, b1, mo_b_s e1, mo_b_s e2]
        · simp (disch := omega) only [X7_layBehind_L8, rr_p, rr_bp, rr_bb, rr_0, rr_lt, rr_blt, rr_le, rr_ble, rr_eq, rr_beq, rr_nl_n, rr_nl_s, rr_bnl_n, rr_bnl_s, rr_cond_t, rr_cond_f, rr_bcond_t, rr_bcond_f, rr_bon, rr_bcv, rr_cv, rr_g, rr_gr, rr_si, rr_sz, rr_sr, rr_al, rr_ld, rr_st, rr_rl, rr_rs, rr_ni, rr_nr, rr_z, rr_div, rr_rem, rr_lc, rr_mx, rr_mn, rr_ab, rr_no, gd_t, bc_t, bc_f, gd_tt, bc_tt, bc_ff, or_true, true_or, and_true, true_and, Nat.reduceAdd, mo_b_s e1, mo_b_s e2]
      · right
        have hr0 : r = 0 := by omega
        subst hr0
        have hg : g ++ seg (cAt P) nx e = T := hg
        rw [seg_nil (by omega), List.append_nil] at hg
        subst hg
        exact ⟨(), h', by simp (disch := omega) only [X7_layBehind_L8, rr_p, rr_bp, rr_bb, rr_0, rr_lt, rr_blt, rr_le, rr_ble, rr_eq, rr_beq, rr_nl_n, rr_nl_s, rr_bnl_n, rr_bnl_s, rr_cond_t, rr_cond_f, rr_bcond_t, rr_bcond_f, rr_bon, rr_bcv, rr_cv, rr_g, rr_gr, rr_si, rr_sz, rr_sr, rr_al, rr_ld, rr_st, rr_rl, rr_rs, rr_ni, rr_nr, rr_z, rr_div, rr_rem, rr_lc, rr_mx, rr_mn, rr_ab, rr_no, gd_t, bc_t, bc_f, gd_tt, bc_tt, bc_ff, or_true, true_or, and_true, true_and, Nat.reduceAdd], hk1, hf⟩
theorem q7_shiftSum {h : AH} {m p i i1 : Nat} {P : List HK} (hP : mQ h m p P) (hi : i ≤ i1 ∧ i1 ≤ P.length) : mo_lp mo_N (X7_together_L402 (i1 : Int) m (p : Int)) (shf P i, (i : Int)) h = some (shf P i1, h) := by
  obtain ⟨hS, hPt, hp, l1, l2, l3⟩ := id hP
  have mT := hS.1
  obtain ⟨p9, t9, n9⟩ := ms9 hS
  obtain ⟨p10, t10, n10⟩ := ms10 hS
  have hs := lp_seq (F := X7_together_L402 (i1 : Int) m (p : Int)) (fun k : Nat => (shf P (i + k), ((i + k : Nat) : Int))) (fun _ => h) (i1 - i) (b := shf P i1) (hE := h) ?_ ?_ mo_N (by rw [mo_N_v]; omega)
  · exact hs
  · intro k hk1
    obtain ⟨a1, a2, a3⟩ := mQ_a hP (i := ((i + k : Nat) : Int)) (by omega) (by omega)
    rw [Int.toNat_natCast] at a1 a2 a3
    have s1 := @shf_s P (i + k) (by omega)
    rw [show i + (k + 1) = i + k + 1 by omega, s1]
    simp (disch := omega) only [X7_together_L402, rr_p, rr_bp, rr_bb, rr_0, rr_lt, rr_blt, rr_le, rr_ble, rr_eq, rr_beq, rr_nl_n, rr_nl_s, rr_bnl_n, rr_bnl_s, rr_cond_t, rr_cond_f, rr_bcond_t, rr_bcond_f, rr_bon, rr_bcv, rr_cv, rr_g, rr_gr, rr_si, rr_sz, rr_sr, rr_al, rr_ld, rr_st, rr_rl, rr_rs, rr_ni, rr_nr, rr_z, rr_div, rr_rem, rr_lc, rr_mx, rr_mn, rr_ab, rr_no, gd_t, bc_t, bc_f, gd_tt, bc_tt, bc_ff, or_true, true_or, and_true, true_and, Nat.reduceAdd, p9, p10, a2, a3]
    rw [show ((i + k + 1 : Nat) : Int) = ((i + k : Nat) : Int) + 1 by omega]
  · simp (disch := omega) only [X7_together_L402, rr_p, rr_bp, rr_bb, rr_0, rr_lt, rr_blt, rr_le, rr_ble, rr_eq, rr_beq, rr_nl_n, rr_nl_s, rr_bnl_n, rr_bnl_s, rr_cond_t, rr_cond_f, rr_bcond_t, rr_bcond_f, rr_bon, rr_bcv, rr_cv, rr_g, rr_gr, rr_si, rr_sz, rr_sr, rr_al, rr_ld, rr_st, rr_rl, rr_rs, rr_ni, rr_nr, rr_z, rr_div, rr_rem, rr_lc, rr_mx, rr_mn, rr_ab, rr_no, gd_t, bc_t, bc_f, gd_tt, bc_tt, bc_ff, or_true, true_or, and_true, true_and, Nat.reduceAdd]
    rw [show i + (i1 - i) = i1 by omega]
theorem mW_drop {h : AH} {m : Nat} {W : List HK} {q : HK} (hW : mW h m (W ++ [q])) : mW (ah_sF (ah_sF (ah_sF h m 20 ((fG W).length : Int)) m 22 ((fC W).length : Int)) m 16 (W.length : Int)) m W := by
  obtain ⟨⟨f1, f2, f3⟩, c1, c2, c3⟩ := hW
  refine ⟨⟨?_, ?_, ?_⟩, fun i hi => ?_, fun j hj => ?_, fun j hj => ?_⟩
  · simp (disch := omega) only [hl_T_sF, hl_N_sF, hl_P_sF, hl_I_sF, hl_R_sF, hl_S_sF, hl_T_sP, hl_N_sP, hl_F_sP, hl_I_sP, hl_R_sP, hl_S_sP, hl_T_sI, hl_N_sI, hl_F_sI, hl_P_sI, hl_R_sI, hl_S_sI, hl_T_sR, hl_N_sR, hl_F_sR, hl_P_sR, hl_I_sR, hl_S_sR, hl_T_wI, hl_N_wI, hl_F_wI, hl_P_wI, hl_R_wI, hl_S_wI, hl_F_sF_s, hl_F_sF_n, hl_P_sP_s, hl_P_sP_n, hl_I_sI_s, hl_I_sI_n, hl_R_sR_s, hl_R_sR_n, hl_I_wI_s, hl_I_wI_n]
  · simp (disch := omega) only [hl_T_sF, hl_N_sF, hl_P_sF, hl_I_sF, hl_R_sF, hl_S_sF, hl_T_sP, hl_N_sP, hl_F_sP, hl_I_sP, hl_R_sP, hl_S_sP, hl_T_sI, hl_N_sI, hl_F_sI, hl_P_sI, hl_R_sI, hl_S_sI, hl_T_sR, hl_N_sR, hl_F_sR, hl_P_sR, hl_I_sR, hl_S_sR, hl_T_wI, hl_N_wI, hl_F_wI, hl_P_wI, hl_R_wI, hl_S_wI, hl_F_sF_s, hl_F_sF_n, hl_P_sP_s, hl_P_sP_n, hl_I_sI_s, hl_I_sI_n, hl_R_sR_s, hl_R_sR_n, hl_I_wI_s, hl_I_wI_n]
  · simp (disch := omega) only [hl_T_sF, hl_N_sF, hl_P_sF, hl_I_sF, hl_R_sF, hl_S_sF, hl_T_sP, hl_N_sP, hl_F_sP, hl_I_sP, hl_R_sP, hl_S_sP, hl_T_sI, hl_N_sI, hl_F_sI, hl_P_sI, hl_R_sI, hl_S_sI, hl_T_sR, hl_N_sR, hl_F_sR, hl_P_sR, hl_I_sR, hl_S_sR, hl_T_wI, hl_N_wI, hl_F_wI, hl_P_wI, hl_R_wI, hl_S_wI, hl_F_sF_s, hl_F_sF_n, hl_P_sP_s, hl_P_sP_n, hl_I_sI_s, hl_I_sI_n, hl_R_sR_s, hl_R_sR_n, hl_I_wI_s, hl_I_wI_n]
  · simp (disch := omega) only [hl_T_sF, hl_N_sF, hl_P_sF, hl_I_sF, hl_R_sF, hl_S_sF, hl_T_sP, hl_N_sP, hl_F_sP, hl_I_sP, hl_R_sP, hl_S_sP, hl_T_sI, hl_N_sI, hl_F_sI, hl_P_sI, hl_R_sI, hl_S_sI, hl_T_sR, hl_N_sR, hl_F_sR, hl_P_sR, hl_I_sR, hl_S_sR, hl_T_wI, hl_N_wI, hl_F_wI, hl_P_wI, hl_R_wI, hl_S_wI, hl_F_sF_s, hl_F_sF_n, hl_P_sP_s, hl_P_sP_n, hl_I_sI_s, hl_I_sI_n, hl_R_sR_s, hl_R_sR_n, hl_I_wI_s, hl_I_wI_n]
    have := c1 i (by rw [List.length_append]; omega)
    rw [hk_app_l hi] at this; exact this
  · simp (disch := omega) only [hl_T_sF, hl_N_sF, hl_P_sF, hl_I_sF, hl_R_sF, hl_S_sF, hl_T_sP, hl_N_sP, hl_F_sP, hl_I_sP, hl_R_sP, hl_S_sP, hl_T_sI, hl_N_sI, hl_F_sI, hl_P_sI, hl_R_sI, hl_S_sI, hl_T_sR, hl_N_sR, hl_F_sR, hl_P_sR, hl_I_sR, hl_S_sR, hl_T_wI, hl_N_wI, hl_F_wI, hl_P_wI, hl_R_wI, hl_S_wI, hl_F_sF_s, hl_F_sF_n, hl_P_sP_s, hl_P_sP_n, hl_I_sI_s, hl_I_sI_n, hl_R_sR_s, hl_R_sR_n, hl_I_wI_s, hl_I_wI_n]
    have := c2 j (by rw [fG_app, List.length_append]; omega)
    rw [fG_app, getD_app_l hj] at this; exact this
  · simp (disch := omega) only [hl_T_sF, hl_N_sF, hl_P_sF, hl_I_sF, hl_R_sF, hl_S_sF, hl_T_sP, hl_N_sP, hl_F_sP, hl_I_sP, hl_R_sP, hl_S_sP, hl_T_sI, hl_N_sI, hl_F_sI, hl_P_sI, hl_R_sI, hl_S_sI, hl_T_sR, hl_N_sR, hl_F_sR, hl_P_sR, hl_I_sR, hl_S_sR, hl_T_wI, hl_N_wI, hl_F_wI, hl_P_wI, hl_R_wI, hl_S_wI, hl_F_sF_s, hl_F_sF_n, hl_P_sP_s, hl_P_sP_n, hl_I_sI_s, hl_I_sI_n, hl_R_sR_s, hl_R_sR_n, hl_I_wI_s, hl_I_wI_n]
    have := c3 j (by rw [fC_app, List.length_append]; omega)
    rw [fC_app, getD_app_l hj] at this; exact this
theorem q7_leaveOutIdle {h : AH} {m : Nat} {W : List HK} {q : HK} (hS : mS h m) (hW : mW h m (W ++ [q])) (hw : W.length < 40) (h1 : (fG (W ++ [q])).length ≤ 120) (h2 : (fC (W ++ [q])).length ≤ 120) (r1 : pL q.2.1) (r2 : pL q.2.2) : ∃ h', X7_leaveOutIdle m h = some ((), h') ∧ mW h' m (br (q.2.1 = q.2.2) W (W ++ [q])) ∧ MF m 13 18 16 23 h h' := by
  obtain ⟨⟨f1, f2, f3⟩, c1, c2, c3⟩ := id hW
  have mT := hS.1
  obtain ⟨p14, t14, n14⟩ := ms14 hS
  obtain ⟨p15, t15, n15⟩ := ms15 hS
  obtain ⟨p16, t16, n16⟩ := ms16 hS
  obtain ⟨p17, t17, n17⟩ := ms17 hS
  have lW : ((W ++ [q]).length : Int) = (W.length : Int) + 1 := by simp
  have lG : (fG (W ++ [q])).length = (fG W).length + q.2.1.length := by rw [fG_app, fG_one, List.length_append]
  have lC : (fC (W ++ [q])).length = (fC W).length + q.2.2.length := by rw [fC_app, fC_one, List.length_append]
  obtain ⟨a1, a2, a3⟩ := c1 W.length (by simp)
  rw [hk_last] at a1 a2 a3
  have e1 : (W.length : Int) + 1 - 1 = (W.length : Int) := by omega
  rw [lW] at f1
  have F : MF m 13 18 16 23 h (ah_sF (ah_sF (ah_sF h m 20 ((fG W).length : Int)) m 22 ((fC W).length : Int)) m 16 (W.length : Int)) := ((MF.sF (al := 13) (ah_ := 18) (fl := 16) (fh := 23) (by omega) (by omega)).tr (MF.sF (al := 13) (ah_ := 18) (fl := 16) (fh := 23) (by omega) (by omega)) (a3 := 13) (b3 := 18) (c3 := 16) (d3 := 23) (by omega)).tr (MF.sF (al := 13) (ah_ := 18) (fl := 16) (fh := 23) (by omega) (by omega)) (by omega)
  by_cases cl : q.2.1.length = q.2.2.length
  · have hL := lp_inv (F := X7_leaveOutIdle_L30 ((W.length : Int) + 1) m) (fun s h' => h' = h ∧ ∃ n : Nat, s.2 = (n : Int) ∧ n ≤ q.2.1.length ∧ ((s.1 = 1 ∧ ∀ k, k < n → q.2.1.getD k 0 = q.2.2.getD k 0) ∨ (s.1 = 0 ∧ ∃ k, k < n ∧ q.2.1.getD k 0 ≠ q.2.2.getD k 0))) (fun s => ((q.2.1.length : Int) - s.2).toNat) (fun b h' => h' = h ∧ b = br (q.2.1 = q.2.2) 1 0) ?_ mo_N (1, 0) h ⟨rfl, 0, rfl, by omega, Or.inl ⟨rfl, fun k hk1 => by omega⟩⟩ (by rw [mo_N_v]; dsimp only; omega)
    · obtain ⟨b, h', e3, rfl, rfl⟩ := hL
      by_cases ce : q.2.1 = q.2.2
      · rw [bc_t ce] at e3 ⊢
        refine ⟨_, ?_, mW_drop hW, F⟩
        simp (disch := omega) only [X7_leaveOutIdle, rr_p, rr_bp, rr_bb, rr_0, rr_lt, rr_blt, rr_le, rr_ble, rr_eq, rr_beq, rr_nl_n, rr_nl_s, rr_bnl_n, rr_bnl_s, rr_cond_t, rr_cond_f, rr_bcond_t, rr_bcond_f, rr_bon, rr_bcv, rr_cv, rr_g, rr_gr, rr_si, rr_sz, rr_sr, rr_al, rr_ld, rr_st, rr_rl, rr_rs, rr_ni, rr_nr, rr_z, rr_div, rr_rem, rr_lc, rr_mx, rr_mn, rr_ab, rr_no, gd_t, bc_t, bc_f, gd_tt, bc_tt, bc_ff, or_true, true_or, and_true, true_and, Nat.reduceAdd, hl_T_sF, hl_N_sF, hl_P_sF, hl_I_sF, hl_R_sF, hl_S_sF, hl_T_sP, hl_N_sP, hl_F_sP, hl_I_sP, hl_R_sP, hl_S_sP, hl_T_sI, hl_N_sI, hl_F_sI, hl_P_sI, hl_R_sI, hl_S_sI, hl_T_sR, hl_N_sR, hl_F_sR, hl_P_sR, hl_I_sR, hl_S_sR, hl_T_wI, hl_N_wI, hl_F_wI, hl_P_wI, hl_R_wI, hl_S_wI, hl_F_sF_s, hl_F_sF_n, hl_P_sP_s, hl_P_sP_n, hl_I_sI_s, hl_I_sI_n, hl_R_sR_s, hl_R_sR_n, hl_I_wI_s, hl_I_wI_n, p14, p15, f1, e1, a2, a3, mo_b_s e3, f2, f3]
        rw [show ((fG (W ++ [q])).length : Int) - (q.2.1.length : Int) = ((fG W).length : Int) by omega, show ((fC (W ++ [q])).length : Int) - (q.2.2.length : Int) = ((fC W).length : Int) by omega]
      · rw [bc_f ce] at e3 ⊢
        refine ⟨h', ?_, hW, MF.rf⟩
        simp (disch := omega) only [X7_leaveOutIdle, rr_p, rr_bp, rr_bb, rr_0, rr_lt, rr_blt, rr_le, rr_ble, rr_eq, rr_beq, rr_nl_n, rr_nl_s, rr_bnl_n, rr_bnl_s, rr_cond_t, rr_cond_f, rr_bcond_t, rr_bcond_f, rr_bon, rr_bcv, rr_cv, rr_g, rr_gr, rr_si, rr_sz, rr_sr, rr_al, rr_ld, rr_st, rr_rl, rr_rs, rr_ni, rr_nr, rr_z, rr_div, rr_rem, rr_lc, rr_mx, rr_mn, rr_ab, rr_no, gd_t, bc_t, bc_f, gd_tt, bc_tt, bc_ff, or_true, true_or, and_true, true_and, Nat.reduceAdd, p14, p15, f1, e1, a2, a3, mo_b_s e3]
    · rintro ⟨s1, s2⟩ h' ⟨rfl, n, n1, n2, n3⟩
      dsimp only at n1 n3 ⊢
      subst n1
      have hne : (s1 = 0 ∧ ∃ k, k < n ∧ q.2.1.getD k 0 ≠ q.2.2.getD k 0) → (0 : Int) = br (q.2.1 = q.2.2) 1 0 := by
        rintro ⟨-, k, hk1, hk2⟩
        rw [bc_f (fun z => hk2 (by rw [z]))]
      by_cases hn : n < q.2.1.length
      · by_cases cs : s1 = 0
        · right
          rcases n3 with ⟨z1, z2⟩ | z
          · omega
          · exact ⟨s1, h', by simp (disch := omega) only [X7_leaveOutIdle_L30, rr_p, rr_bp, rr_bb, rr_0, rr_lt, rr_blt, rr_le, rr_ble, rr_eq, rr_beq, rr_nl_n, rr_nl_s, rr_bnl_n, rr_bnl_s, rr_cond_t, rr_cond_f, rr_bcond_t, rr_bcond_f, rr_bon, rr_bcv, rr_cv, rr_g, rr_gr, rr_si, rr_sz, rr_sr, rr_al, rr_ld, rr_st, rr_rl, rr_rs, rr_ni, rr_nr, rr_z, rr_div, rr_rem, rr_lc, rr_mx, rr_mn, rr_ab, rr_no, gd_t, bc_t, bc_f, gd_tt, bc_tt, bc_ff, or_true, true_or, and_true, true_and, Nat.reduceAdd, p14, e1, a2], rfl, by rw [cs]; exact hne z⟩
        · left
          have q1 := c2 ((fG W).length + n) (by omega)
          rw [fG_app, fG_one, getD_app_r (by omega), show (fG W).length + n - (fG W).length = n by omega] at q1
          have q2 := c3 ((fC W).length + n) (by omega)
          rw [fC_app, fC_one, getD_app_r (by omega), show (fC W).length + n - (fC W).length = n by omega] at q2
          rw [show (((fG W).length + n : Nat) : Int) = ((fG (W ++ [q])).length : Int) - (q.2.1.length : Int) + (n : Int) by omega] at q1
          rw [show (((fC W).length + n : Nat) : Int) = ((fC (W ++ [q])).length : Int) - (q.2.2.length : Int) + (n : Int) by omega] at q2
          have r3 := r1 n
          have r4 := r2 n
          rcases n3 with ⟨z1, z2⟩ | z
          · by_cases cv : q.2.1.getD n 0 = q.2.2.getD n 0
            · refine ⟨(1, (n : Int) + 1), h', by simp (disch := omega) only [X7_leaveOutIdle_L30, rr_p, rr_bp, rr_bb, rr_0, rr_lt, rr_blt, rr_le, rr_ble, rr_eq, rr_beq, rr_nl_n, rr_nl_s, rr_bnl_n, rr_bnl_s, rr_cond_t, rr_cond_f, rr_bcond_t, rr_bcond_f, rr_bon, rr_bcv, rr_cv, rr_g, rr_gr, rr_si, rr_sz, rr_sr, rr_al, rr_ld, rr_st, rr_rl, rr_rs, rr_ni, rr_nr, rr_z, rr_div, rr_rem, rr_lc, rr_mx, rr_mn, rr_ab, rr_no, gd_t, bc_t, bc_f, gd_tt, bc_tt, bc_ff, or_true, true_or, and_true, true_and, Nat.reduceAdd, p14, p15, p16, p17, e1, a2, a3, f2, f3, q1, q2], ⟨rfl, n + 1, by simp, by omega, Or.inl ⟨rfl, fun k hk1 => ?_⟩⟩, by dsimp only; omega⟩
              by_cases ck : k = n
              · rw [ck]; exact cv
              · exact z2 k (by omega)
            · exact ⟨(0, (n : Int) + 1), h', by simp (disch := omega) only [X7_leaveOutIdle_L30, rr_p, rr_bp, rr_bb, rr_0, rr_lt, rr_blt, rr_le, rr_ble, rr_eq, rr_beq, rr_nl_n, rr_nl_s, rr_bnl_n, rr_bnl_s, rr_cond_t, rr_cond_f, rr_bcond_t, rr_bcond_f, rr_bon, rr_bcv, rr_cv, rr_g, rr_gr, rr_si, rr_sz, rr_sr, rr_al, rr_ld, rr_st, rr_rl, rr_rs, rr_ni, rr_nr, rr_z, rr_div, rr_rem, rr_lc, rr_mx, rr_mn, rr_ab, rr_no, gd_t, bc_t, bc_f, gd_tt, bc_tt, bc_ff, or_true, true_or, and_true, true_and, Nat.reduceAdd, p14, p15, p16, p17, e1, a2, a3, f2, f3, q1, q2], ⟨rfl, n + 1, by simp, by omega, Or.inr ⟨rfl, n, by omega, cv⟩⟩, by dsimp only; omega⟩
          · exact absurd z.1 cs
      · right
        refine ⟨s1, h', by simp (disch := omega) only [X7_leaveOutIdle_L30, rr_p, rr_bp, rr_bb, rr_0, rr_lt, rr_blt, rr_le, rr_ble, rr_eq, rr_beq, rr_nl_n, rr_nl_s, rr_bnl_n, rr_bnl_s, rr_cond_t, rr_cond_f, rr_bcond_t, rr_bcond_f, rr_bon, rr_bcv, rr_cv, rr_g, rr_gr, rr_si, rr_sz, rr_sr, rr_al, rr_ld, rr_st, rr_rl, rr_rs, rr_ni, rr_nr, rr_z, rr_div, rr_rem, rr_lc, rr_mx, rr_mn, rr_ab, rr_no, gd_t, bc_t, bc_f, gd_tt, bc_tt, bc_ff, or_true, true_or, and_true, true_and, Nat.reduceAdd, p14, e1, a2], rfl, ?_⟩
        rcases n3 with ⟨z1, z2⟩ | z
        · rw [z1, bc_t (gd_ext cl (fun k hk1 => z2 k (by omega)))]
        · rw [z.1]; exact hne z
  · have e0 : mo_lp mo_N (X7_leaveOutIdle_L30 ((W.length : Int) + 1) m) (0, 0) h = some (0, h) := by
      by_cases c : 0 < q.2.1.length
      · exact lp_r (by simp (disch := omega) only [X7_leaveOutIdle_L30, rr_p, rr_bp, rr_bb, rr_0, rr_lt, rr_blt, rr_le, rr_ble, rr_eq, rr_beq, rr_nl_n, rr_nl_s, rr_bnl_n, rr_bnl_s, rr_cond_t, rr_cond_f, rr_bcond_t, rr_bcond_f, rr_bon, rr_bcv, rr_cv, rr_g, rr_gr, rr_si, rr_sz, rr_sr, rr_al, rr_ld, rr_st, rr_rl, rr_rs, rr_ni, rr_nr, rr_z, rr_div, rr_rem, rr_lc, rr_mx, rr_mn, rr_ab, rr_no, gd_t, bc_t, bc_f, gd_tt, bc_tt, bc_ff, or_true, true_or, and_true, true_and, Nat.reduceAdd, p14, e1, a2]) (by rw [mo_N_v]; omega)
      · exact lp_r (by simp (disch := omega) only [X7_leaveOutIdle_L30, rr_p, rr_bp, rr_bb, rr_0, rr_lt, rr_blt, rr_le, rr_ble, rr_eq, rr_beq, rr_nl_n, rr_nl_s, rr_bnl_n, rr_bnl_s, rr_cond_t, rr_cond_f, rr_bcond_t, rr_bcond_f, rr_bon, rr_bcv, rr_cv, rr_g, rr_gr, rr_si, rr_sz, rr_sr, rr_al, rr_ld, rr_st, rr_rl, rr_rs, rr_ni, rr_nr, rr_z, rr_div, rr_rem, rr_lc, rr_mx, rr_mn, rr_ab, rr_no, gd_t, bc_t, bc_f, gd_tt, bc_tt, bc_ff, or_true, true_or, and_true, true_and, Nat.reduceAdd, p14, e1, a2]) (by rw [mo_N_v]; omega)
    rw [bc_f (fun z => cl (by rw [z]))]
    exact ⟨h, by simp (disch := omega) only [X7_leaveOutIdle, rr_p, rr_bp, rr_bb, rr_0, rr_lt, rr_blt, rr_le, rr_ble, rr_eq, rr_beq, rr_nl_n, rr_nl_s, rr_bnl_n, rr_bnl_s, rr_cond_t, rr_cond_f, rr_bcond_t, rr_bcond_f, rr_bon, rr_bcv, rr_cv, rr_g, rr_gr, rr_si, rr_sz, rr_sr, rr_al, rr_ld, rr_st, rr_rl, rr_rs, rr_ni, rr_nr, rr_z, rr_div, rr_rem, rr_lc, rr_mx, rr_mn, rr_ab, rr_no, gd_t, bc_t, bc_f, gd_tt, bc_tt, bc_ff, or_true, true_or, and_true, true_and, Nat.reduceAdd, p14, p15, f1, e1, a2, a3, mo_b_s e0], hW, MF.rf⟩
