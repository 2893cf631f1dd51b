theorem q0_addTaken {h : AH} {b w mh ml mh2 ml2 : Nat} {Q W : List HK} {p : Int} {g c : List Int} (hQ : kP h b mh2 ml2 Q) (vQ : pV Q) (hW : kP h w mh ml (W ++ [(p, g, c)])) (hd : w + 6 ≤ b ∨ b + 6 ≤ w) {nx to : Int} (h0 : -1000 ≤ nx) (h1 : nx ≤ to) (h2 : to ≤ 200000) (hl : ((fG W).length : Int) + (g.length : Int) + (to - nx) ≤ ml) : ∃ h', X0_addTaken (some b) nx to (some w) h = some ((), h') ∧ kP h' w mh ml (W ++ [(p, g ++ (seg (gAt Q) nx to), c)]) ∧ FRM h h' w (w + 6) := by
  have hml := hW.1.2.2.2
  have hL := lp_inv (F := X0_addTaken_L3 (some b) to (some w)) (fun z h' => (nx ≤ z ∧ z ≤ to) ∧ kP h' w mh ml (W ++ [(p, g ++ (seg (gAt Q) nx z), c)]) ∧ FRM h h' w (w + 6)) (fun z => (to - z).toNat) (fun _ h' => kP h' w mh ml (W ++ [(p, g ++ (seg (gAt Q) nx to), c)]) ∧ FRM h h' w (w + 6)) ?_ mo_N nx h ⟨⟨by omega, h1⟩, by rw [seg_nil (Int.le_refl _), List.append_nil]; exact hW, FRM.rf⟩ (by rw [mo_N_v]; omega)
  · obtain ⟨_, h', e, q⟩ := hL
    exact ⟨h', by simp (disch := omega) only [X0_addTaken, rr_p, rr_bp, rr_bb, rr_0, rr_lt, rr_blt, rr_le, rr_ble, rr_eq, rr_beq, rr_nl_n, rr_nl_s, rr_bnl_n, rr_bnl_s, rr_cond_t, rr_cond_f, rr_bcond_t, rr_bcond_f, rr_bon, rr_bcv, rr_cv, rr_g, rr_gr, rr_si, rr_sz, rr_sr, rr_al, rr_ld, rr_st, rr_rl, rr_rs, rr_ni, rr_nr, rr_z, rr_div, rr_rem, rr_lc, rr_mx, rr_mn, rr_ab, rr_no, gd_t, bc_t, bc_f, gd_tt, bc_tt, bc_ff, or_true, true_or, and_true, true_and, Nat.reduceAdd, mo_b_s e], q⟩
  · rintro z h' ⟨⟨z1, z2⟩, hk1, hf⟩
    have hQ' := kP_fr hQ hf (by omega)
    have t1 := hQ'.1.1.1
    have t2 := hk1.1.1.1
    by_cases cz : z < to
    · left
      have e1 := q3_goingAt hQ' vQ (p := z) (by omega)
      obtain ⟨h2, e2, r2, g2⟩ := q3_addGoing hk1 (v := gAt Q z) (by rw [List.length_append, seg_len]; omega)
      refine ⟨z + 1, h2, by simp (disch := omega) only [X0_addTaken_L3, rr_p, rr_bp, rr_bb, rr_0, rr_lt, rr_blt, rr_le, rr_ble, rr_eq, rr_beq, rr_nl_n, rr_nl_s, rr_bnl_n, rr_bnl_s, rr_cond_t, rr_cond_f, rr_bcond_t, rr_bcond_f, rr_bon, rr_bcv, rr_cv, rr_g, rr_gr, rr_si, rr_sz, rr_sr, rr_al, rr_ld, rr_st, rr_rl, rr_rs, rr_ni, rr_nr, rr_z, rr_div, rr_rem, rr_lc, rr_mx, rr_mn, rr_ab, rr_no, gd_t, bc_t, bc_f, gd_tt, bc_tt, bc_ff, or_true, true_or, and_true, true_and, Nat.reduceAdd, mo_b_s e1, mo_b_s e2], ⟨⟨by omega, by omega⟩, ?_, hf.tr g2 (by omega) (by omega) (by omega) (by omega)⟩, by omega⟩
      rw [seg_snoc z1, ← List.append_assoc]; exact r2
    · right
      have : z = to := by omega
      subst this
      exact ⟨(), h', by simp (disch := omega) only [X0_addTaken_L3, rr_p, rr_bp, rr_bb, rr_0, rr_lt, rr_blt, rr_le, rr_ble, rr_eq, rr_beq, rr_nl_n, rr_nl_s, rr_bnl_n, rr_bnl_s, rr_cond_t, rr_cond_f, rr_bcond_t, rr_bcond_f, rr_bon, rr_bcv, rr_cv, rr_g, rr_gr, rr_si, rr_sz, rr_sr, rr_al, rr_ld, rr_st, rr_rl, rr_rs, rr_ni, rr_nr, rr_z, rr_div, rr_rem, rr_lc, rr_mx, rr_mn, rr_ab, rr_no, gd_t, bc_t, bc_f, gd_tt, bc_tt, bc_ff, or_true, true_or, and_true, true_and, Nat.reduceAdd], hk1, hf⟩
theorem q0_writeGoing {h : AH} {a b c w mh ml mh2 ml2 i i1 j j1 : Nat} {lo e : Int} {P Q W : List HK} {p : Int} (hP : kP h a mh ml P) (vP : pV P) (sP : sW P) (hQ : kP h b mh2 ml2 Q) (vQ : pV Q) (sQ : sW Q) (hW : kP h w 20 56 (W ++ [(p, [], [])])) (da : w + 6 ≤ a ∨ a + 6 ≤ w) (db : w + 6 ≤ b ∨ b + 6 ≤ w) (dc : w + 6 ≤ c ∨ c + 1 ≤ w) (hC : kC h c i i1 j j1 lo e) (hi : i ≤ i1 ∧ i1 ≤ P.length) (h0 : 0 ≤ lo) (h1 : lo ≤ e) (h2 : e ≤ 190000) (h3 : i < P.length → lo ≤ (ivP P).1 i) (h4 : ∀ s, i ≤ s → s < i1 → (ivP P).2.1 s ≤ e) (hl : (fG W).length + (mkL (ivP P) (gAt Q) (fun t => (hk P t).2.1) e (i1 - i) i lo).length ≤ 56) : ∃ h', X0_writeGoing c (some a) (some b) (some w) h = some ((), h') ∧ kP h' w 20 56 (W ++ [(p, (mkL (ivP P) (gAt Q) (fun t => (hk P t).2.1) e (i1 - i) i lo), [])]) ∧ FRM h h' w (w + 6) := by
  obtain ⟨k1, k2, k3, k4, k5, k6, k7⟩ := id hC
  have ok := okP sP
  have hlP := hP.2.2.1
  have hmP := hP.1.2.2.2
  generalize hT : mkL (ivP P) (gAt Q) (fun t => (hk P t).2.1) e (i1 - i) i lo = T at *
  have hL := lp_inv (F := X0_writeGoing_L12 c (some a) (some b) (some w)) (fun s h' => ∃ (t r : Nat) (nx : Int) (g : List Int), s = (nx, (t : Int)) ∧ t + r = i1 ∧ i ≤ t ∧ (0 ≤ nx ∧ nx ≤ e) ∧ (0 < r → nx ≤ (ivP P).1 t) ∧ g ++ mkL (ivP P) (gAt Q) (fun t => (hk P t).2.1) e r t nx = T ∧ kP h' w 20 56 (W ++ [(p, g, [])]) ∧ FRM h h' w (w + 6)) (fun s => ((i1 : Int) - s.2).toNat) (fun nx h' => ∃ g : List Int, (0 ≤ nx ∧ nx ≤ e) ∧ g ++ seg (gAt Q) nx e = T ∧ kP h' w 20 56 (W ++ [(p, g, [])]) ∧ FRM h h' w (w + 6)) ?_ mo_N (lo, (i : Int)) h ⟨i, i1 - i, lo, [], rfl, by omega, by omega, ⟨h0, h1⟩, fun hr => h3 (by omega), by rw [List.nil_append]; exact hT, hW, FRM.rf⟩ (by rw [mo_N_v]; dsimp only; omega)
  · obtain ⟨nx, h', e1, g, ⟨n1, n2⟩, hg, hk1, hf⟩ := hL
    have hC' := kC_fr hC hf (by omega)
    have kk1 := hC'.1
    have kk7 := hC'.2.2.2.2.2.2
    have hQ' := kP_fr hQ hf (by omega)
    have lT := congrArg List.length hg
    rw [List.length_append, seg_len] at lT
    obtain ⟨h2, e2, r2, g2⟩ := q0_addTaken hQ' vQ hk1 (by omega) (nx := nx) (to := e) (by omega) n2 (by omega) (by omega)
    rw [hg] at r2
    exact ⟨h2, by simp (disch := omega) only [X0_writeGoing, rr_p, rr_bp, rr_bb, rr_0, rr_lt, rr_blt, rr_le, rr_ble, rr_eq, rr_beq, rr_nl_n, rr_nl_s, rr_bnl_n, rr_bnl_s, rr_cond_t, rr_cond_f, rr_bcond_t, rr_bcond_f, rr_bon, rr_bcv, rr_cv, rr_g, rr_gr, rr_si, rr_sz, rr_sr, rr_al, rr_ld, rr_st, rr_rl, rr_rs, rr_ni, rr_nr, rr_z, rr_div, rr_rem, rr_lc, rr_mx, rr_mn, rr_ab, rr_no, gd_t, bc_t, bc_f, gd_tt, bc_tt, bc_ff, or_true, true_or, and_true, true_and, Nat.reduceAdd, k6, k2, mo_b_s e1, kk7, mo_b_s e2], r2, hf.tr g2 (by omega) (by omega) (by omega) (by omega)⟩
  · rintro s h' ⟨t, r, nx, g, rfl, hr, ht, ⟨n1, n2⟩, hnx, hg, hk1, hf⟩
    have hC' := kC_fr hC hf (by omega)
    have kk1 := hC'.1
    have kk := hC'.2.2.1
    have hX' := kP_fr hP hf (by omega)
    have hY' := kP_fr hQ hf (by omega)
    have t1 := hX'.1.1.1
    have t2 := hY'.1.1.1
    have t3 := hk1.1.1.1
    cases r with
    | zero =>
      right
      exact ⟨nx, h', by simp (disch := omega) only [X0_writeGoing_L12, rr_p, rr_bp, rr_bb, rr_0, rr_lt, rr_blt, rr_le, rr_ble, rr_eq, rr_beq, rr_nl_n, rr_nl_s, rr_bnl_n, rr_bnl_s, rr_cond_t, rr_cond_f, rr_bcond_t, rr_bcond_f, rr_bon, rr_bcv, rr_cv, rr_g, rr_gr, rr_si, rr_sz, rr_sr, rr_al, rr_ld, rr_st, rr_rl, rr_rs, rr_ni, rr_nr, rr_z, rr_div, rr_rem, rr_lc, rr_mx, rr_mn, rr_ab, rr_no, gd_t, bc_t, bc_f, gd_tt, bc_tt, bc_ff, or_true, true_or, and_true, true_and, Nat.reduceAdd, kk], g, ⟨n1, n2⟩, hg, hk1, hf⟩
    | succ r =>
      left
      have e1 := q3_beginsBehind hX' (i := (t : Int)) (by omega) (by omega)
      have e5 := q3_endsBehind hX' (i := (t : Int)) (by omega) (by omega)
      rw [Int.toNat_natCast] at e1 e5
      have q1 : nx ≤ hB P t := hnx (by omega)
      obtain ⟨x1, x2, x3⟩ := ok.1 t (by show t < P.length; omega)
      have x1 : 0 ≤ hB P t := x1
      have x2 : hB P t ≤ hB P t + ((hk P t).2.2.length : Int) := x2
      have q2 : hB P t + ((hk P t).2.2.length : Int) ≤ e := h4 t ht (by omega)
      have hg2 : g ++ (seg (gAt Q) nx (hB P t) ++ (hk P t).2.1 ++ mkL (ivP P) (gAt Q) (fun t => (hk P t).2.1) e r (t + 1) (hB P t + ((hk P t).2.2.length : Int))) = T := hg
      have lT := congrArg List.length hg2
      rw [List.length_append, List.length_append, List.length_append, seg_len] at lT
      obtain ⟨h2, e2, r2, g2⟩ := q0_addTaken hY' vQ hk1 (by omega) (nx := nx) (to := hB P t) (by omega) q1 (by omega) (by omega)
      have hX2 := kP_fr hX' g2 (by omega)
      have t3' := r2.1.1.1
      obtain ⟨h3, e3, r3, g3⟩ := q3_addGoingOf r2 hX2 (by omega) (i := (t : Int)) (by omega) (by omega) (by rw [List.length_append, seg_len, Int.toNat_natCast]; omega)
      rw [Int.toNat_natCast] at r3
      have hX3 := kP_fr hX2 g3 (by omega)
      have t13 := hX3.1.1.1
      have e4 := q3_endsBehind hX3 (i := (t : Int)) (by omega) (by omega)
      rw [Int.toNat_natCast] at e4
      refine ⟨(hB P t + ((hk P t).2.2.length : Int), ((t + 1 : Nat) : Int)), h3, by simp (disch := omega) only [X0_writeGoing_L12, rr_p, rr_bp, rr_bb, rr_0, rr_lt, rr_blt, rr_le, rr_ble, rr_eq, rr_beq, rr_nl_n, rr_nl_s, rr_bnl_n, rr_bnl_s, rr_cond_t, rr_cond_f, rr_bcond_t, rr_bcond_f, rr_bon, rr_bcv, rr_cv, rr_g, rr_gr, rr_si, rr_sz, rr_sr, rr_al, rr_ld, rr_st, rr_rl, rr_rs, rr_ni, rr_nr, rr_z, rr_div, rr_rem, rr_lc, rr_mx, rr_mn, rr_ab, rr_no, gd_t, bc_t, bc_f, gd_tt, bc_tt, bc_ff, or_true, true_or, and_true, true_and, Nat.reduceAdd, kk, mo_b_s e1, mo_b_s e2, mo_b_s e3, mo_b_s e4, Int.natCast_add, Int.natCast_one], ⟨t + 1, r, hB P t + ((hk P t).2.2.length : Int), g ++ seg (gAt Q) nx (hB P t) ++ (hk P t).2.1, rfl, by omega, by omega, ⟨by omega, q2⟩, fun hr2 => ?_, ?_, r3, (hf.tr g2 (lo3 := w) (hi3 := w + 6) (by omega) (by omega) (by omega) (by omega)).tr g3 (by omega) (by omega) (by omega) (by omega)⟩, by dsimp only; omega⟩
      · have q3 : hB P t + ((hk P t).2.2.length : Int) + 1 ≤ (ivP P).1 (t + 1) := ok.2 t (by show t + 1 < P.length; omega)
        omega
      · rw [← hg2]; simp only [List.append_assoc]
theorem q0_addBrought {h : AH} {b w mh ml mh2 ml2 : Nat} {Q W : List HK} {p : Int} {g c : List Int} (hQ : kP h b mh2 ml2 Q) (vQ : pV Q) (hW : kP h w mh ml (W ++ [(p, g, c)])) (hd : w + 6 ≤ b ∨ b + 6 ≤ w) {nx to : Int} (h0 : -1000 ≤ nx) (h1 : nx ≤ to) (h2 : to ≤ 200000) (hl : ((fC W).length : Int) + (c.length : Int) + (to - nx) ≤ ml) : ∃ h', X0_addBrought (some b) nx to (some w) h = some ((), h') ∧ kP h' w mh ml (W ++ [(p, g, c ++ (seg (cAt Q) nx to))]) ∧ FRM h h' w (w + 6) := by
  have hml := hW.1.2.2.2
  have hL := lp_inv (F := X0_addBrought_L3 (some b) to (some w)) (fun z h' => (nx ≤ z ∧ z ≤ to) ∧ kP h' w mh ml (W ++ [(p, g, c ++ (seg (cAt Q) nx z))]) ∧ FRM h h' w (w + 6)) (fun z => (to - z).toNat) (fun _ h' => kP h' w mh ml (W ++ [(p, g, c ++ (seg (cAt Q) nx to))]) ∧ FRM h h' w (w + 6)) ?_ mo_N nx h ⟨⟨by omega, h1⟩, by rw [seg_nil (Int.le_refl _), List.append_nil]; exact hW, FRM.rf⟩ (by rw [mo_N_v]; omega)
  · obtain ⟨_, h', e, q⟩ := hL
    exact ⟨h', by simp (disch := omega) only [X0_addBrought, rr_p, rr_bp, rr_bb, rr_0, rr_lt, rr_blt, rr_le, rr_ble, rr_eq, rr_beq, rr_nl_n, rr_nl_s, rr_bnl_n, rr_bnl_s, rr_cond_t, rr_cond_f, rr_bcond_t, rr_bcond_f, rr_bon, rr_bcv, rr_cv, rr_g, rr_gr, rr_si, rr_sz, rr_sr, rr_al, rr_ld, rr_st, rr_rl, rr_rs, rr_ni, rr_nr, rr_z, rr_div, rr_rem, rr_lc, rr_mx, rr_mn, rr_ab, rr_no, gd_t, bc_t, bc_f, gd_tt, bc_tt, bc_ff, or_true, true_or, and_true, true_and, Nat.reduceAdd, mo_b_s e], q⟩
  · rintro z h' ⟨⟨z1, z2⟩, hk1, hf⟩
    have hQ' := kP_fr hQ hf (by omega)
    have t1 := hQ'.1.1.1
    have t2 := hk1.1.1.1
    by_cases cz : z < to
    · left
      have e1 := q3_comingAt hQ' vQ (p := z) (by omega)
      obtain ⟨h2, e2, r2, g2⟩ := q3_addComing hk1 (v := cAt Q z) (by rw [List.length_append, seg_len]; omega)
      refine ⟨z + 1, h2, by simp (disch := omega) only [X0_addBrought_L3, rr_p, rr_bp, rr_bb, rr_0, rr_lt, rr_blt, rr_le, rr_ble, rr_eq, rr_beq, rr_nl_n, rr_nl_s, rr_bnl_n, rr_bnl_s, rr_cond_t, rr_cond_f, rr_bcond_t, rr_bcond_f, rr_bon, rr_bcv, rr_cv, rr_g, rr_gr, rr_si, rr_sz, rr_sr, rr_al, rr_ld, rr_st, rr_rl, rr_rs, rr_ni, rr_nr, rr_z, rr_div, rr_rem, rr_lc, rr_mx, rr_mn, rr_ab, rr_no, gd_t, bc_t, bc_f, gd_tt, bc_tt, bc_ff, or_true, true_or, and_true, true_and, Nat.reduceAdd, mo_b_s e1, mo_b_s e2], ⟨⟨by omega, by omega⟩, ?_, hf.tr g2 (by omega) (by omega) (by omega) (by omega)⟩, by omega⟩
      rw [seg_snoc z1, ← List.append_assoc]; exact r2
    · right
      have : z = to := by omega
      subst this
      exact ⟨(), h', by simp (disch := omega) only [X0_addBrought_L3, rr_p, rr_bp, rr_bb, rr_0, rr_lt, rr_blt, rr_le, rr_ble, rr_eq, rr_beq, rr_nl_n, rr_nl_s, rr_bnl_n, rr_bnl_s, rr_cond_t, rr_cond_f, rr_bcond_t, rr_bcond_f, rr_bon, rr_bcv, rr_cv, rr_g, rr_gr, rr_si, rr_sz, rr_sr, rr_al, rr_ld, rr_st, rr_rl, rr_rs, rr_ni, rr_nr, rr_z, rr_div, rr_rem, rr_lc, rr_mx, rr_mn, rr_ab, rr_no, gd_t, bc_t, bc_f, gd_tt, bc_tt, bc_ff, or_true, true_or, and_true, true_and, Nat.reduceAdd], hk1, hf⟩
theorem q0_writeComing {h : AH} {a b c w mh ml mh2 ml2 i i1 j j1 : Nat} {lo e : Int} {P Q W : List HK} {p : Int} {gg : List Int} (hP : kP h a mh ml P) (vP : pV P) (sP : sW P) (hQ : kP h b mh2 ml2 Q) (vQ : pV Q) (sQ : sW Q) (hW : kP h w 20 56 (W ++ [(p, gg, [])])) (da : w + 6 ≤ a ∨ a + 6 ≤ w) (db : w + 6 ≤ b ∨ b + 6 ≤ w) (dc : w + 6 ≤ c ∨ c + 1 ≤ w) (hC : kC h c i i1 j j1 lo e) (hi : j ≤ j1 ∧ j1 ≤ Q.length) (h0 : 0 ≤ lo) (h1 : lo ≤ e) (h2 : e ≤ 190000) (h3 : j < Q.length → lo ≤ (ivQ Q).1 j) (h4 : ∀ s, j ≤ s → s < j1 → (ivQ Q).2.1 s ≤ e) (hl : (fC W).length + (mkL (ivQ Q) (cAt P) (fun t => (hk Q t).2.2) e (j1 - j) j lo).length ≤ 56) : ∃ h', X0_writeComing c (some a) (some b) (some w) h = some ((), h') ∧ kP h' w 20 56 (W ++ [(p, gg, (mkL (ivQ Q) (cAt P) (fun t => (hk Q t).2.2) e (j1 - j) j lo))]) ∧ FRM h h' w (w + 6) := by
  obtain ⟨k1, k2, k3, k4, k5, k6, k7⟩ := id hC
  have ok := okQ sQ
  have hlQ := hQ.2.2.1
  have hmQ := hQ.1.2.2.2
  generalize hT : mkL (ivQ Q) (cAt P) (fun t => (hk Q t).2.2) e (j1 - j) j lo = T at *
  have hL := lp_inv (F := X0_writeComing_L12 c (some a) (some b) (some w)) (fun s h' => ∃ (t r : Nat) (nx : Int) (g : List Int), s = (nx, (t : Int)) ∧ t + r = j1 ∧ j ≤ t ∧ (0 ≤ nx ∧ nx ≤ e) ∧ (0 < r → nx ≤ (ivQ Q).1 t) ∧ g ++ mkL (ivQ Q) (cAt P) (fun t => (hk Q t).2.2) e r t nx = T ∧ kP h' w 20 56 (W ++ [(p, gg, g)]) ∧ FRM h h' w (w + 6)) (fun s => ((j1 : Int) - s.2).toNat) (fun nx h' => ∃ g : List Int, (0 ≤ nx ∧ nx ≤ e) ∧ g ++ seg (cAt P) nx e = T ∧ kP h' w 20 56 (W ++ [(p, gg, g)]) ∧ FRM h h' w (w + 6)) ?_ mo_N (lo, (j : Int)) h ⟨j, j1 - j, lo, [], rfl, by omega, by omega, ⟨h0, h1⟩, fun hr => h3 (by omega), by rw [List.nil_append]; exact hT, hW, FRM.rf⟩ (by rw [mo_N_v]; dsimp only; omega)
  · obtain ⟨nx, h', e1, g, ⟨n1, n2⟩, hg, hk1, hf⟩ := hL
    have hC' := kC_fr hC hf (by omega)
    have kk1 := hC'.1
    have kk7 := hC'.2.2.2.2.2.2
    have hQ' := kP_fr hP hf (by omega)
    have lT := congrArg List.length hg
    rw [List.length_append, seg_len] at lT
    obtain ⟨h2, e2, r2, g2⟩ := q0_addBrought hQ' vP hk1 (by omega) (nx := nx) (to := e) (by omega) n2 (by omega) (by omega)
    rw [hg] at r2
    exact ⟨h2, by simp (disch := omega) only [X0_writeComing, rr_p, rr_bp, rr_bb, rr_0, rr_lt, rr_blt, rr_le, rr_ble, rr_eq, rr_beq, rr_nl_n, rr_nl_s, rr_bnl_n, rr_bnl_s, rr_cond_t, rr_cond_f, rr_bcond_t, rr_bcond_f, rr_bon, rr_bcv, rr_cv, rr_g, rr_gr, rr_si, rr_sz, rr_sr, rr_al, rr_ld, rr_st, rr_rl, rr_rs, rr_ni, rr_nr, rr_z, rr_div, rr_rem, rr_lc, rr_mx, rr_mn, rr_ab, rr_no, gd_t, bc_t, bc_f, gd_tt, bc_tt, bc_ff, or_true, true_or, and_true, true_and, Nat.reduceAdd, k6, k4, mo_b_s e1, kk7, mo_b_s e2], r2, hf.tr g2 (by omega) (by omega) (by omega) (by omega)⟩
  · rintro s h' ⟨t, r, nx, g, rfl, hr, ht, ⟨n1, n2⟩, hnx, hg, hk1, hf⟩
    have hC' := kC_fr hC hf (by omega)
    have kk1 := hC'.1
    have kk := hC'.2.2.2.2.1
    have hX' := kP_fr hQ hf (by omega)
    have hY' := kP_fr hP hf (by omega)
    have t1 := hX'.1.1.1
    have t2 := hY'.1.1.1
    have t3 := hk1.1.1.1
    cases r with
    | zero =>
      right
      exact ⟨nx, h', by simp (disch := omega) only [X0_writeComing_L12, rr_p, rr_bp, rr_bb, rr_0, rr_lt, rr_blt, rr_le, rr_ble, rr_eq, rr_beq, rr_nl_n, rr_nl_s, rr_bnl_n, rr_bnl_s, rr_cond_t, rr_cond_f, rr_bcond_t, rr_bcond_f, rr_bon, rr_bcv, rr_cv, rr_g, rr_gr, rr_si, rr_sz, rr_sr, rr_al, rr_ld, rr_st, rr_rl, rr_rs, rr_ni, rr_nr, rr_z, rr_div, rr_rem, rr_lc, rr_mx, rr_mn, rr_ab, rr_no, gd_t, bc_t, bc_f, gd_tt, bc_tt, bc_ff, or_true, true_or, and_true, true_and, Nat.reduceAdd, kk], g, ⟨n1, n2⟩, hg, hk1, hf⟩
    | succ r =>
      left
      have e1 := q3_begins hX' (i := (t : Int)) (by omega) (by omega)
      have e5 := q3_ends hX' (i := (t : Int)) (by omega) (by omega)
      rw [Int.toNat_natCast] at e1 e5
      have q1 : nx ≤ (hk Q t).1 := hnx (by omega)
      obtain ⟨x1, x2, x3⟩ := ok.1 t (by show t < Q.length; omega)
      have x1 : 0 ≤ (hk Q t).1 := x1
      have x2 : (hk Q t).1 ≤ (hk Q t).1 + ((hk Q t).2.1.length : Int) := x2
      have q2 : (hk Q t).1 + ((hk Q t).2.1.length : Int) ≤ e := h4 t ht (by omega)
      have hg2 : g ++ (seg (cAt P) nx ((hk Q t).1) ++ (hk Q t).2.2 ++ mkL (ivQ Q) (cAt P) (fun t => (hk Q t).2.2) e r (t + 1) ((hk Q t).1 + ((hk Q t).2.1.length : Int))) = T := hg
      have lT := congrArg List.length hg2
      rw [List.length_append, List.length_append, List.length_append, seg_len] at lT
      obtain ⟨h2, e2, r2, g2⟩ := q0_addBrought hY' vP hk1 (by omega) (nx := nx) (to := (hk Q t).1) (by omega) q1 (by omega) (by omega)
      have hX2 := kP_fr hX' g2 (by omega)
      have t3' := r2.1.1.1
      obtain ⟨h3, e3, r3, g3⟩ := q3_addComingOf r2 hX2 (by omega) (i := (t : Int)) (by omega) (by omega) (by rw [List.length_append, seg_len, Int.toNat_natCast]; omega)
      rw [Int.toNat_natCast] at r3
      have hX3 := kP_fr hX2 g3 (by omega)
      have t13 := hX3.1.1.1
      have e4 := q3_ends hX3 (i := (t : Int)) (by omega) (by omega)
      rw [Int.toNat_natCast] at e4
      refine ⟨((hk Q t).1 + ((hk Q t).2.1.length : Int), ((t + 1 : Nat) : Int)), h3, by simp (disch := omega) only [X0_writeComing_L12, rr_p, rr_bp, rr_bb, rr_0, rr_lt, rr_blt, rr_le, rr_ble, rr_eq, rr_beq, rr_nl_n, rr_nl_s, rr_bnl_n, rr_bnl_s, rr_cond_t, rr_cond_f, rr_bcond_t, rr_bcond_f, rr_bon, rr_bcv, rr_cv, rr_g, rr_gr, rr_si, rr_sz, rr_sr, rr_al, rr_ld, rr_st, rr_rl, rr_rs, rr_ni, rr_nr, rr_z, rr_div, rr_rem, rr_lc, rr_mx, rr_mn, rr_ab, rr_no, gd_t, bc_t, bc_f, gd_tt, bc_tt, bc_ff, or_true, true_or, and_true, true_and, Nat.reduceAdd, kk, mo_b_s e1, mo_b_s e2, mo_b_s e3, mo_b_s e4, Int.natCast_add, Int.natCast_one], ⟨t + 1, r, (hk Q t).1 + ((hk Q t).2.1.length : Int), g ++ seg (cAt P) nx ((hk Q t).1) ++ (hk Q t).2.2, rfl, by omega, by omega, ⟨by omega, q2⟩, fun hr2 => ?_, ?_, r3, (hf.tr g2 (lo3 := w) (hi3 := w + 6) (by omega) (by omega) (by omega) (by omega)).tr g3 (by omega) (by omega) (by omega) (by omega)⟩, by dsimp only; omega⟩
      · have q3 : (hk Q t).1 + ((hk Q t).2.1.length : Int) + 1 ≤ (ivQ Q).1 (t + 1) := ok.2 t (by show t + 1 < Q.length; omega)
        omega
      · rw [← hg2]; simp only [List.append_assoc]
