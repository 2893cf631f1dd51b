theorem take_s {xs : List Int} {k : Nat} (h : k < xs.length) : xs.take (k + 1) = xs.take k ++ [xs.getD k 0] := by
  rw [List.take_add_one, List.getD_eq_getElem?_getD, List.getElem?_eq_getElem h]; rfl
theorem part_s {xs : List Int} {i k : Nat} (h : k < xs.length) (hi : i ≤ k) : (xs.take (k + 1)).drop i = (xs.take k).drop i ++ [xs.getD k 0] := by
  rw [take_s h, List.drop_append_of_le_length (by simp; omega)]
theorem q3_addGoingPart {h : AH} {a mh ml b : Nat} {W : List HK} {p : Int} {g c xs : List Int} (hP : kP h a mh ml (W ++ [(p, g, c)])) (hX : kR h b xs) (hab : a + 6 ≤ b ∨ b + 2 ≤ a) {i e : Int} (h0 : 0 ≤ i) (h1 : i ≤ e) (h2 : e ≤ xs.length) (hl : ((fG W).length : Int) + g.length + (e - i) ≤ ml) : ∃ h', X3_addGoingPart a (some b) i e h = some ((), h') ∧ kP h' a mh ml (W ++ [(p, g ++ (xs.take e.toNat).drop i.toNat, c)]) ∧ FRM h h' a (a + 6) := by
  have hNx := hX.2.2.2.2.2.1
  have hlx := hX.2.2.2.2.1
  have hL := lp_inv (F := X3_addGoingPart_L3 a (some b) e) (fun k h' => i ≤ k ∧ k ≤ e ∧ kP h' a mh ml (W ++ [(p, g ++ (xs.take k.toNat).drop i.toNat, c)]) ∧ FRM h h' a (a + 6)) (fun k => (e - k).toNat) (fun _ h' => kP h' a mh ml (W ++ [(p, g ++ (xs.take e.toNat).drop i.toNat, c)]) ∧ FRM h h' a (a + 6)) ?_ mo_N i h ⟨by omega, by omega, ?_, FRM.rf⟩ (by rw [mo_N_v]; omega)
  · obtain ⟨_, h', e1, hQ⟩ := hL
    exact ⟨h', by simp (disch := omega) only [X3_addGoingPart, rr_p, rr_bp, rr_bb, rr_0, rr_lt, rr_blt, rr_le, rr_ble, rr_eq, rr_beq, rr_nl_n, rr_nl_s, rr_bnl_n, rr_bnl_s, rr_cond_t, rr_cond_f, rr_bcond_t, rr_bcond_f, rr_bon, rr_bcv, rr_cv, rr_g, rr_gr, rr_si, rr_sz, rr_sr, rr_al, rr_ld, rr_st, rr_rl, rr_rs, rr_ni, rr_nr, rr_z, rr_div, rr_rem, rr_lc, rr_mx, rr_mn, rr_ab, rr_no, gd_t, bc_t, bc_f, gd_tt, bc_tt, bc_ff, or_true, true_or, and_true, true_and, Nat.reduceAdd, mo_b_s e1], hQ.1, hQ.2⟩
  · intro k h' ⟨k1, k2, k3, k4⟩
    have hX' : kR h' b xs := kR_fr hX k4 (by omega)
    by_cases hk : k < e
    · left
      have hat := q4_at hX' (i := k) (by omega)
      rw [if_pos (by omega)] at hat
      have hlen : ((xs.take k.toNat).drop i.toNat).length = k.toNat - i.toNat := by simp; omega
      obtain ⟨h2, e2, r2, f2⟩ := q3_addGoing k3 (v := xs.getD k.toNat 0) (by simp only [List.length_append, hlen]; omega)
      have hT := k3.1.1.1
      have hT2 := hX'.1
      refine ⟨k + 1, h2, ?_, ⟨by omega, by omega, ?_, k4.tr f2 (by omega) (by omega) (by omega) (by omega)⟩, by omega⟩
      · simp (disch := omega) only [X3_addGoingPart_L3, rr_p, rr_bp, rr_bb, rr_0, rr_lt, rr_blt, rr_le, rr_ble, rr_eq, rr_beq, rr_nl_n, rr_nl_s, rr_bnl_n, rr_bnl_s, rr_cond_t, rr_cond_f, rr_bcond_t, rr_bcond_f, rr_bon, rr_bcv, rr_cv, rr_g, rr_gr, rr_si, rr_sz, rr_sr, rr_al, rr_ld, rr_st, rr_rl, rr_rs, rr_ni, rr_nr, rr_z, rr_div, rr_rem, rr_lc, rr_mx, rr_mn, rr_ab, rr_no, gd_t, bc_t, bc_f, gd_tt, bc_tt, bc_ff, or_true, true_or, and_true, true_and, Nat.reduceAdd, mo_b_s hat, mo_b_s e2]
      · rw [show (k + 1).toNat = k.toNat + 1 by omega, part_s (by omega) (by omega), ← List.append_assoc]
        exact r2
    · right
      have hke : k = e := by omega
      subst hke
      exact ⟨(), h', by simp (disch := omega) only [X3_addGoingPart_L3, rr_p, rr_bp, rr_bb, rr_0, rr_lt, rr_blt, rr_le, rr_ble, rr_eq, rr_beq, rr_nl_n, rr_nl_s, rr_bnl_n, rr_bnl_s, rr_cond_t, rr_cond_f, rr_bcond_t, rr_bcond_f, rr_bon, rr_bcv, rr_cv, rr_g, rr_gr, rr_si, rr_sz, rr_sr, rr_al, rr_ld, rr_st, rr_rl, rr_rs, rr_ni, rr_nr, rr_z, rr_div, rr_rem, rr_lc, rr_mx, rr_mn, rr_ab, rr_no, gd_t, bc_t, bc_f, gd_tt, bc_tt, bc_ff, or_true, true_or, and_true, true_and, Nat.reduceAdd], k3, k4⟩
  · have el : (xs.take i.toNat).drop i.toNat = [] := by simp
    rw [el, List.append_nil]; exact hP
theorem q3_addComingPart {h : AH} {a mh ml b : Nat} {W : List HK} {p : Int} {g c xs : List Int} (hP : kP h a mh ml (W ++ [(p, g, c)])) (hX : kR h b xs) (hab : a + 6 ≤ b ∨ b + 2 ≤ a) {i e : Int} (h0 : 0 ≤ i) (h1 : i ≤ e) (h2 : e ≤ xs.length) (hl : ((fC W).length : Int) + c.length + (e - i) ≤ ml) : ∃ h', X3_addComingPart a (some b) i e h = some ((), h') ∧ kP h' a mh ml (W ++ [(p, g, c ++ (xs.take e.toNat).drop i.toNat)]) ∧ FRM h h' a (a + 6) := by
  have hNx := hX.2.2.2.2.2.1
  have hlx := hX.2.2.2.2.1
  have hL := lp_inv (F := X3_addComingPart_L3 a (some b) e) (fun k h' => i ≤ k ∧ k ≤ e ∧ kP h' a mh ml (W ++ [(p, g, c ++ (xs.take k.toNat).drop i.toNat)]) ∧ FRM h h' a (a + 6)) (fun k => (e - k).toNat) (fun _ h' => kP h' a mh ml (W ++ [(p, g, c ++ (xs.take e.toNat).drop i.toNat)]) ∧ FRM h h' a (a + 6)) ?_ mo_N i h ⟨by omega, by omega, ?_, FRM.rf⟩ (by rw [mo_N_v]; omega)
  · obtain ⟨_, h', e1, hQ⟩ := hL
    exact ⟨h', by simp (disch := omega) only [X3_addComingPart, rr_p, rr_bp, rr_bb, rr_0, rr_lt, rr_blt, rr_le, rr_ble, rr_eq, rr_beq, rr_nl_n, rr_nl_s, rr_bnl_n, rr_bnl_s, rr_cond_t, rr_cond_f, rr_bcond_t, rr_bcond_f, rr_bon, rr_bcv, rr_cv, rr_g, rr_gr, rr_si, rr_sz, rr_sr, rr_al, rr_ld, rr_st, rr_rl, rr_rs, rr_ni, rr_nr, rr_z, rr_div, rr_rem, rr_lc, rr_mx, rr_mn, rr_ab, rr_no, gd_t, bc_t, bc_f, gd_tt, bc_tt, bc_ff, or_true, true_or, and_true, true_and, Nat.reduceAdd, mo_b_s e1], hQ.1, hQ.2⟩
  · intro k h' ⟨k1, k2, k3, k4⟩
    have hX' : kR h' b xs := kR_fr hX k4 (by omega)
    by_cases hk : k < e
    · left
      have hat := q4_at hX' (i := k) (by omega)
      rw [if_pos (by omega)] at hat
      have hlen : ((xs.take k.toNat).drop i.toNat).length = k.toNat - i.toNat := by simp; omega
      obtain ⟨h2, e2, r2, f2⟩ := q3_addComing k3 (v := xs.getD k.toNat 0) (by simp only [List.length_append, hlen]; omega)
      have hT := k3.1.1.1
      have hT2 := hX'.1
      refine ⟨k + 1, h2, ?_, ⟨by omega, by omega, ?_, k4.tr f2 (by omega) (by omega) (by omega) (by omega)⟩, by omega⟩
      · simp (disch := omega) only [X3_addComingPart_L3, rr_p, rr_bp, rr_bb, rr_0, rr_lt, rr_blt, rr_le, rr_ble, rr_eq, rr_beq, rr_nl_n, rr_nl_s, rr_bnl_n, rr_bnl_s, rr_cond_t, rr_cond_f, rr_bcond_t, rr_bcond_f, rr_bon, rr_bcv, rr_cv, rr_g, rr_gr, rr_si, rr_sz, rr_sr, rr_al, rr_ld, rr_st, rr_rl, rr_rs, rr_ni, rr_nr, rr_z, rr_div, rr_rem, rr_lc, rr_mx, rr_mn, rr_ab, rr_no, gd_t, bc_t, bc_f, gd_tt, bc_tt, bc_ff, or_true, true_or, and_true, true_and, Nat.reduceAdd, mo_b_s hat, mo_b_s e2]
      · rw [show (k + 1).toNat = k.toNat + 1 by omega, part_s (by omega) (by omega), ← List.append_assoc]
        exact r2
    · right
      have hke : k = e := by omega
      subst hke
      exact ⟨(), h', by simp (disch := omega) only [X3_addComingPart_L3, rr_p, rr_bp, rr_bb, rr_0, rr_lt, rr_blt, rr_le, rr_ble, rr_eq, rr_beq, rr_nl_n, rr_nl_s, rr_bnl_n, rr_bnl_s, rr_cond_t, rr_cond_f, rr_bcond_t, rr_bcond_f, rr_bon, rr_bcv, rr_cv, rr_g, rr_gr, rr_si, rr_sz, rr_sr, rr_al, rr_ld, rr_st, rr_rl, rr_rs, rr_ni, rr_nr, rr_z, rr_div, rr_rem, rr_lc, rr_mx, rr_mn, rr_ab, rr_no, gd_t, bc_t, bc_f, gd_tt, bc_tt, bc_ff, or_true, true_or, and_true, true_and, Nat.reduceAdd], k3, k4⟩
  · have el : (xs.take i.toNat).drop i.toNat = [] := by simp
    rw [el, List.append_nil]; exact hP
theorem q3_addGoingOf {h : AH} {a mh ml b mh2 ml2 : Nat} {W V : List HK} {p : Int} {g c : List Int} (hP : kP h a mh ml (W ++ [(p, g, c)])) (hV : kP h b mh2 ml2 V) (hab : a + 6 ≤ b ∨ b + 6 ≤ a) {i : Int} (h0 : 0 ≤ i) (h1 : i < V.length) (hl : (fG W).length + g.length + (hk V i.toNat).2.1.length ≤ ml) : ∃ h', X3_addGoingOf a (some b) i h = some ((), h') ∧ kP h' a mh ml (W ++ [(p, g ++ (hk V i.toNat).2.1, c)]) ∧ FRM h h' a (a + 6) := by
  have hm := hP.1.2.2.2.2
  have hL := lp_inv (F := X3_addGoingOf_L2 a (some b) i) (fun k h' => 0 ≤ k ∧ k ≤ (hk V i.toNat).2.1.length ∧ kP h' a mh ml (W ++ [(p, g ++ (hk V i.toNat).2.1.take k.toNat, c)]) ∧ FRM h h' a (a + 6)) (fun k => (((hk V i.toNat).2.1.length : Int) - k).toNat) (fun _ h' => kP h' a mh ml (W ++ [(p, g ++ (hk V i.toNat).2.1, c)]) ∧ FRM h h' a (a + 6)) ?_ mo_N 0 h ⟨by omega, by omega, ?_, FRM.rf⟩ (by rw [mo_N_v]; omega)
  · obtain ⟨_, h', e1, hQ⟩ := hL
    exact ⟨h', by simp (disch := omega) only [X3_addGoingOf, rr_p, rr_bp, rr_bb, rr_0, rr_lt, rr_blt, rr_le, rr_ble, rr_eq, rr_beq, rr_nl_n, rr_nl_s, rr_bnl_n, rr_bnl_s, rr_cond_t, rr_cond_f, rr_bcond_t, rr_bcond_f, rr_bon, rr_bcv, rr_cv, rr_g, rr_gr, rr_si, rr_sz, rr_sr, rr_al, rr_ld, rr_st, rr_rl, rr_rs, rr_ni, rr_nr, rr_z, rr_div, rr_rem, rr_lc, rr_mx, rr_mn, rr_ab, rr_no, gd_t, bc_t, bc_f, gd_tt, bc_tt, bc_ff, or_true, true_or, and_true, true_and, Nat.reduceAdd, mo_b_s e1], hQ.1, hQ.2⟩
  · intro k h' ⟨k1, k2, k3, k4⟩
    have hV' : kP h' b mh2 ml2 V := kP_fr hV k4 (by omega)
    have hg := q3_going hV' h0 h1
    have hT := k3.1.1.1
    have hT2 := hV'.1.1.1
    by_cases hkk : k < (hk V i.toNat).2.1.length
    · left
      have hat := q3_goingLine hV' (i := i) (k := k) h0 h1 (by omega)
      rw [if_pos (by omega)] at hat
      obtain ⟨h2, e2, r2, f2⟩ := q3_addGoing k3 (v := (hk V i.toNat).2.1.getD k.toNat 0) (by simp only [List.length_append, List.length_take]; omega)
      refine ⟨k + 1, h2, ?_, ⟨by omega, by omega, ?_, k4.tr f2 (by omega) (by omega) (by omega) (by omega)⟩, by omega⟩
      · simp (disch := omega) only [X3_addGoingOf_L2, rr_p, rr_bp, rr_bb, rr_0, rr_lt, rr_blt, rr_le, rr_ble, rr_eq, rr_beq, rr_nl_n, rr_nl_s, rr_bnl_n, rr_bnl_s, rr_cond_t, rr_cond_f, rr_bcond_t, rr_bcond_f, rr_bon, rr_bcv, rr_cv, rr_g, rr_gr, rr_si, rr_sz, rr_sr, rr_al, rr_ld, rr_st, rr_rl, rr_rs, rr_ni, rr_nr, rr_z, rr_div, rr_rem, rr_lc, rr_mx, rr_mn, rr_ab, rr_no, gd_t, bc_t, bc_f, gd_tt, bc_tt, bc_ff, or_true, true_or, and_true, true_and, Nat.reduceAdd, mo_b_s hg, mo_b_s hat, mo_b_s e2]
      · rw [show (k + 1).toNat = k.toNat + 1 by omega, take_s (by omega), ← List.append_assoc]
        exact r2
    · right
      refine ⟨(), h', by simp (disch := omega) only [X3_addGoingOf_L2, rr_p, rr_bp, rr_bb, rr_0, rr_lt, rr_blt, rr_le, rr_ble, rr_eq, rr_beq, rr_nl_n, rr_nl_s, rr_bnl_n, rr_bnl_s, rr_cond_t, rr_cond_f, rr_bcond_t, rr_bcond_f, rr_bon, rr_bcv, rr_cv, rr_g, rr_gr, rr_si, rr_sz, rr_sr, rr_al, rr_ld, rr_st, rr_rl, rr_rs, rr_ni, rr_nr, rr_z, rr_div, rr_rem, rr_lc, rr_mx, rr_mn, rr_ab, rr_no, gd_t, bc_t, bc_f, gd_tt, bc_tt, bc_ff, or_true, true_or, and_true, true_and, Nat.reduceAdd, mo_b_s hg], ?_, k4⟩
      rw [List.take_of_length_le (by omega)] at k3
      exact k3
  · show kP h a mh ml (W ++ [(p, g ++ (hk V i.toNat).2.1.take 0, c)])
    rw [List.take_zero, List.append_nil]; exact hP
theorem q3_addComingOf {h : AH} {a mh ml b mh2 ml2 : Nat} {W V : List HK} {p : Int} {g c : List Int} (hP : kP h a mh ml (W ++ [(p, g, c)])) (hV : kP h b mh2 ml2 V) (hab : a + 6 ≤ b ∨ b + 6 ≤ a) {i : Int} (h0 : 0 ≤ i) (h1 : i < V.length) (hl : (fC W).length + c.length + (hk V i.toNat).2.2.length ≤ ml) : ∃ h', X3_addComingOf a (some b) i h = some ((), h') ∧ kP h' a mh ml (W ++ [(p, g, c ++ (hk V i.toNat).2.2)]) ∧ FRM h h' a (a + 6) := by
  have hm := hP.1.2.2.2.2
  have hL := lp_inv (F := X3_addComingOf_L2 a (some b) i) (fun k h' => 0 ≤ k ∧ k ≤ (hk V i.toNat).2.2.length ∧ kP h' a mh ml (W ++ [(p, g, c ++ (hk V i.toNat).2.2.take k.toNat)]) ∧ FRM h h' a (a + 6)) (fun k => (((hk V i.toNat).2.2.length : Int) - k).toNat) (fun _ h' => kP h' a mh ml (W ++ [(p, g, c ++ (hk V i.toNat).2.2)]) ∧ FRM h h' a (a + 6)) ?_ mo_N 0 h ⟨by omega, by omega, ?_, FRM.rf⟩ (by rw [mo_N_v]; omega)
  · obtain ⟨_, h', e1, hQ⟩ := hL
    exact ⟨h', by simp (disch := omega) only [X3_addComingOf, rr_p, rr_bp, rr_bb, rr_0, rr_lt, rr_blt, rr_le, rr_ble, rr_eq, rr_beq, rr_nl_n, rr_nl_s, rr_bnl_n, rr_bnl_s, rr_cond_t, rr_cond_f, rr_bcond_t, rr_bcond_f, rr_bon, rr_bcv, rr_cv, rr_g, rr_gr, rr_si, rr_sz, rr_sr, rr_al, rr_ld, rr_st, rr_rl, rr_rs, rr_ni, rr_nr, rr_z, rr_div, rr_rem, rr_lc, rr_mx, rr_mn, rr_ab, rr_no, gd_t, bc_t, bc_f, gd_tt, bc_tt, bc_ff, or_true, true_or, and_true, true_and, Nat.reduceAdd, mo_b_s e1], hQ.1, hQ.2⟩
  · intro k h' ⟨k1, k2, k3, k4⟩
    have hV' : kP h' b mh2 ml2 V := kP_fr hV k4 (by omega)
    have hg := q3_coming hV' h0 h1
    have hT := k3.1.1.1
    have hT2 := hV'.1.1.1
    by_cases hkk : k < (hk V i.toNat).2.2.length
    · left
      have hat := q3_comingLine hV' (i := i) (k := k) h0 h1 (by omega)
      rw [if_pos (by omega)] at hat
      obtain ⟨h2, e2, r2, f2⟩ := q3_addComing k3 (v := (hk V i.toNat).2.2.getD k.toNat 0) (by simp only [List.length_append, List.length_take]; omega)
      refine ⟨k + 1, h2, ?_, ⟨by omega, by omega, ?_, k4.tr f2 (by omega) (by omega) (by omega) (by omega)⟩, by omega⟩
      · simp (disch := omega) only [X3_addComingOf_L2, rr_p, rr_bp, rr_bb, rr_0, rr_lt, rr_blt, rr_le, rr_ble, rr_eq, rr_beq, rr_nl_n, rr_nl_s, rr_bnl_n, rr_bnl_s, rr_cond_t, rr_cond_f, rr_bcond_t, rr_bcond_f, rr_bon, rr_bcv, rr_cv, rr_g, rr_gr, rr_si, rr_sz, rr_sr, rr_al, rr_ld, rr_st, rr_rl, rr_rs, rr_ni, rr_nr, rr_z, rr_div, rr_rem, rr_lc, rr_mx, rr_mn, rr_ab, rr_no, gd_t, bc_t, bc_f, gd_tt, bc_tt, bc_ff, or_true, true_or, and_true, true_and, Nat.reduceAdd, mo_b_s hg, mo_b_s hat, mo_b_s e2]
      · rw [show (k + 1).toNat = k.toNat + 1 by omega, take_s (by omega), ← List.append_assoc]
        exact r2
    · right
      refine ⟨(), h', by simp (disch := omega) only [X3_addComingOf_L2, rr_p, rr_bp, rr_bb, rr_0, rr_lt, rr_blt, rr_le, rr_ble, rr_eq, rr_beq, rr_nl_n, rr_nl_s, rr_bnl_n, rr_bnl_s, rr_cond_t, rr_cond_f, rr_bcond_t, rr_bcond_f, rr_bon, rr_bcv, rr_cv, rr_g, rr_gr, rr_si, rr_sz, rr_sr, rr_al, rr_ld, rr_st, rr_rl, rr_rs, rr_ni, rr_nr, rr_z, rr_div, rr_rem, rr_lc, rr_mx, rr_mn, rr_ab, rr_no, gd_t, bc_t, bc_f, gd_tt, bc_tt, bc_ff, or_true, true_or, and_true, true_and, Nat.reduceAdd, mo_b_s hg], ?_, k4⟩
      rw [List.take_of_length_le (by omega)] at k3
      exact k3
  · show kP h a mh ml (W ++ [(p, g, c ++ (hk V i.toNat).2.2.take 0)])
    rw [List.take_zero, List.append_nil]; exact hP
theorem q3_addHunk {h : AH} {a mh ml b mh2 ml2 : Nat} {W V : List HK} (hP : kP h a mh ml W) (hV : kP h b mh2 ml2 V) (hab : a + 6 ≤ b ∨ b + 6 ≤ a) {i p : Int} (h0 : 0 ≤ i) (h1 : i < V.length) (hW : W.length < mh) (hl : (fG W).length + (hk V i.toNat).2.1.length ≤ ml) (hl2 : (fC W).length + (hk V i.toNat).2.2.length ≤ ml) : ∃ h', X3_addHunk a (some b) i p h = some ((), h') ∧ kP h' a mh ml (W ++ [(p, (hk V i.toNat).2.1, (hk V i.toNat).2.2)]) ∧ FRM h h' a (a + 6) := by
  obtain ⟨h1', e1, r1, f1⟩ := q3_begin hP (p := p) hW
  have hV1 := kP_fr hV f1 (by omega)
  obtain ⟨h2', e2, r2, f2⟩ := q3_addGoingOf r1 hV1 hab h0 h1 (by simpa using hl)
  have hV2 := kP_fr hV1 f2 (by omega)
  obtain ⟨h3', e3, r3, f3⟩ := q3_addComingOf r2 hV2 hab h0 h1 (by simpa using hl2)
  have t0 := hP.1.1.1
  have t1 := r1.1.1.1
  have t2 := r2.1.1.1
  refine ⟨h3', ?_, by simpa using r3, (f1.tr f2 (Nat.le_refl _) (Nat.le_refl _) (Nat.le_refl _) (Nat.le_refl _)).tr f3 (Nat.le_refl _) (Nat.le_refl _) (Nat.le_refl _) (Nat.le_refl _)⟩
  simp (disch := omega) only [X3_addHunk, rr_p, rr_bp, rr_bb, rr_0, rr_lt, rr_blt, rr_le, rr_ble, rr_eq, rr_beq, rr_nl_n, rr_nl_s, rr_bnl_n, rr_bnl_s, rr_cond_t, rr_cond_f, rr_bcond_t, rr_bcond_f, rr_bon, rr_bcv, rr_cv, rr_g, rr_gr, rr_si, rr_sz, rr_sr, rr_al, rr_ld, rr_st, rr_rl, rr_rs, rr_ni, rr_nr, rr_z, rr_div, rr_rem, rr_lc, rr_mx, rr_mn, rr_ab, rr_no, gd_t, bc_t, bc_f, gd_tt, bc_tt, bc_ff, or_true, true_or, and_true, true_and, Nat.reduceAdd, mo_b_s e1, mo_b_s e2, mo_b_s e3]
theorem hkt_s {V : List HK} {k : Nat} (h : k < V.length) : V.take (k + 1) = V.take k ++ [hk V k] := by
  rw [List.take_add_one, hk, List.getD_eq_getElem?_getD, List.getElem?_eq_getElem h]; rfl
theorem fG_take {V : List HK} (k : Nat) : (fG (V.take k)).length = hgs V k := by
  have h := hgs_all (V.take k)
  rw [← h]
  unfold hgs
  rw [List.take_length]
theorem fC_take {V : List HK} (k : Nat) : (fC (V.take k)).length = hcs V k := by
  have h := hcs_all (V.take k)
  rw [← h]
  unfold hcs
  rw [List.take_length]
theorem q3_become {h : AH} {a mh ml b mh2 ml2 : Nat} {W V : List HK} (hP : kP h a mh ml W) (hV : kP h b mh2 ml2 V) (hab : a + 6 ≤ b ∨ b + 6 ≤ a) (h1 : V.length ≤ mh) (h2 : (fG V).length ≤ ml) (h3 : (fC V).length ≤ ml) : ∃ h', X3_become a (some b) h = some ((), h') ∧ kP h' a mh ml V ∧ FRM h h' a (a + 6) := by
  obtain ⟨h0, e0, r0, f0⟩ := q3_clear hP
  have hm := hP.1.2.2.2.1
  have t0 := hP.1.1.1
  have hL := lp_inv (F := X3_become_L6 a (some b)) (fun k h' => 0 ≤ k ∧ k ≤ V.length ∧ kP h' a mh ml (V.take k.toNat) ∧ FRM h h' a (a + 6)) (fun k => ((V.length : Int) - k).toNat) (fun _ h' => kP h' a mh ml V ∧ FRM h h' a (a + 6)) ?_ mo_N 0 h0 ⟨by omega, by omega, r0, f0⟩ (by rw [mo_N_v]; omega)
  · obtain ⟨_, h', e1, hQ⟩ := hL
    exact ⟨h', by simp (disch := omega) only [X3_become, rr_p, rr_bp, rr_bb, rr_0, rr_lt, rr_blt, rr_le, rr_ble, rr_eq, rr_beq, rr_nl_n, rr_nl_s, rr_bnl_n, rr_bnl_s, rr_cond_t, rr_cond_f, rr_bcond_t, rr_bcond_f, rr_bon, rr_bcv, rr_cv, rr_g, rr_gr, rr_si, rr_sz, rr_sr, rr_al, rr_ld, rr_st, rr_rl, rr_rs, rr_ni, rr_nr, rr_z, rr_div, rr_rem, rr_lc, rr_mx, rr_mn, rr_ab, rr_no, gd_t, bc_t, bc_f, gd_tt, bc_tt, bc_ff, or_true, true_or, and_true, true_and, Nat.reduceAdd, mo_b_s e0, mo_b_s e1], hQ.1, hQ.2⟩
  · intro k h' ⟨k1, k2, k3, k4⟩
    have hV' : kP h' b mh2 ml2 V := kP_fr hV k4 (by omega)
    have hg := q3_hunks hV'
    have hT := k3.1.1.1
    have hT2 := hV'.1.1.1
    by_cases hkk : k < V.length
    · left
      have hbg := q3_begins hV' k1 hkk
      have s1 := @hgs_s V k.toNat (by omega)
      have s2 := @hgs_le V (k.toNat + 1)
      have s3 := @hcs_s V k.toNat (by omega)
      have s4 := @hcs_le V (k.toNat + 1)
      obtain ⟨h2, e2, r2, f2⟩ := q3_addHunk k3 hV' hab (p := (hk V k.toNat).1) k1 hkk (by simp; omega) (by rw [fG_take]; omega) (by rw [fC_take]; omega)
      refine ⟨k + 1, h2, ?_, ⟨by omega, by omega, ?_, k4.tr f2 (Nat.le_refl _) (Nat.le_refl _) (Nat.le_refl _) (Nat.le_refl _)⟩, by omega⟩
      · simp (disch := omega) only [X3_become_L6, rr_p, rr_bp, rr_bb, rr_0, rr_lt, rr_blt, rr_le, rr_ble, rr_eq, rr_beq, rr_nl_n, rr_nl_s, rr_bnl_n, rr_bnl_s, rr_cond_t, rr_cond_f, rr_bcond_t, rr_bcond_f, rr_bon, rr_bcv, rr_cv, rr_g, rr_gr, rr_si, rr_sz, rr_sr, rr_al, rr_ld, rr_st, rr_rl, rr_rs, rr_ni, rr_nr, rr_z, rr_div, rr_rem, rr_lc, rr_mx, rr_mn, rr_ab, rr_no, gd_t, bc_t, bc_f, gd_tt, bc_tt, bc_ff, or_true, true_or, and_true, true_and, Nat.reduceAdd, mo_b_s hg, mo_b_s hbg, mo_b_s e2]
      · rw [show (k + 1).toNat = k.toNat + 1 by omega, hkt_s (by omega)]
        exact r2
    · right
      refine ⟨(), h', by simp (disch := omega) only [X3_become_L6, rr_p, rr_bp, rr_bb, rr_0, rr_lt, rr_blt, rr_le, rr_ble, rr_eq, rr_beq, rr_nl_n, rr_nl_s, rr_bnl_n, rr_bnl_s, rr_cond_t, rr_cond_f, rr_bcond_t, rr_bcond_f, rr_bon, rr_bcv, rr_cv, rr_g, rr_gr, rr_si, rr_sz, rr_sr, rr_al, rr_ld, rr_st, rr_rl, rr_rs, rr_ni, rr_nr, rr_z, rr_div, rr_rem, rr_lc, rr_mx, rr_mn, rr_ab, rr_no, gd_t, bc_t, bc_f, gd_tt, bc_tt, bc_ff, or_true, true_or, and_true, true_and, Nat.reduceAdd, mo_b_s hg], ?_, k4⟩
      rw [List.take_of_length_le (by omega)] at k3
      exact k3
