def tbM (h : AH) (m : Nat) (xs ys : List Int) (i j : Int) : Prop := ∀ i' j' : Nat, i' ≤ xs.length → j' ≤ ys.length → (i < (i' : Int) ∨ ((i' : Int) = i ∧ j ≤ (j' : Int))) → ah_I h (m + 18) (15 * (i' : Int) + (j' : Int)) = (ml (xs.drop i') (ys.drop j') : Int)
theorem ml_step {xs ys : List Int} {i j : Nat} (hi2 : i < xs.length) (hj2 : j < ys.length) : ml (xs.drop i) (ys.drop j) = if xs.getD i 0 = ys.getD j 0 then ml (xs.drop (i + 1)) (ys.drop (j + 1)) + 1 else max (ml (xs.drop (i + 1)) (ys.drop j)) (ml (xs.drop i) (ys.drop (j + 1))) := by
  conv => lhs; rw [drop_c hi2, drop_c hj2, ml]
  rw [← drop_c hi2, ← drop_c hj2]
/-- the two rows, as the tables hold them -/
def mRows (h : AH) (m : Nat) (u v : Int) (xs ys : List Int) : Prop := mS h m ∧ (0 ≤ u ∧ u < 10 ∧ 0 ≤ v ∧ v < 10) ∧ (ah_I h (m + 2) u = (xs.length : Int) ∧ ah_I h (m + 2) v = (ys.length : Int)) ∧ (∀ k : Nat, k < xs.length → ah_I h (m + 3) (14 * u + (k : Int)) = xs.getD k 0) ∧ ∀ k : Nat, k < ys.length → ah_I h (m + 3) (14 * v + (k : Int)) = ys.getD k 0
theorem mRows_fr {m al ah_ fl fh : Nat} {h h' : AH} {u v : Int} {xs ys : List Int} (hR : mRows h m u v xs ys) (f : MF m al ah_ fl fh h h') (q : 4 ≤ al) : mRows h' m u v xs ys := by
  obtain ⟨a, b, c, d, e⟩ := hR
  refine ⟨mS_fr a f, b, ?_, ?_, ?_⟩
  · rw [f.2.2.2.2.1 2 (by omega)]; exact c
  · rw [f.2.2.2.2.1 3 (by omega)]; exact d
  · rw [f.2.2.2.2.1 3 (by omega)]; exact e
theorem q7_diff_tab {h : AH} {m : Nat} {u v : Int} {xs ys : List Int} (hR : mRows h m u v xs ys) (hx : pL xs) (hy : pL ys) (lx : xs.length ≤ 14) (ly : ys.length ≤ 14) : ∃ h', mo_lp mo_N (X7_layDifference_L18 (xs.length : Int) (ys.length : Int) m u v) (xs.length : Int) h = some ((), h') ∧ tbM h' m xs ys 0 0 ∧ MF m 18 19 27 27 h h' := by
  have hL := lp_inv (F := X7_layDifference_L18 (xs.length : Int) (ys.length : Int) m u v) (fun i h' => -1 ≤ i ∧ i ≤ xs.length ∧ tbM h' m xs ys (i + 1) 0 ∧ MF m 18 19 27 27 h h') (fun i => (i + 1).toNat) (fun _ h' => tbM h' m xs ys 0 0 ∧ MF m 18 19 27 27 h h') ?_ mo_N (xs.length : Int) h ⟨by omega, by omega, fun i' j' a1 a2 a3 => by omega, MF.rf⟩ (by rw [mo_N_v]; omega)
  · obtain ⟨_, h', e, q⟩ := hL
    exact ⟨h', e, q⟩
  · intro i h' ⟨i1, i2, iT, iF⟩
    by_cases hi : i < 0
    · right
      refine ⟨(), h', by simp (disch := omega) only [X7_layDifference_L18, rr_p, rr_bp, rr_bb, rr_0, rr_lt, rr_blt, rr_le, rr_ble, rr_eq, rr_beq, rr_nl_n, rr_nl_s, rr_bnl_n, rr_bnl_s, rr_cond_t, rr_cond_f, rr_bcond_t, rr_bcond_f, rr_bon, rr_bcv, rr_cv, rr_g, rr_gr, rr_si, rr_sz, rr_sr, rr_al, rr_ld, rr_st, rr_rl, rr_rs, rr_ni, rr_nr, rr_z, rr_div, rr_rem, rr_lc, rr_mx, rr_mn, rr_ab, rr_no, gd_t, bc_t, bc_f, gd_tt, bc_tt, bc_ff, or_true, true_or, and_true, true_and, Nat.reduceAdd], ?_, iF⟩
      rw [show i + 1 = 0 by omega] at iT
      exact iT
    · left
      have hL2 := lp_inv (F := X7_layDifference_L27 (xs.length : Int) (ys.length : Int) m u v i) (fun j h'' => -1 ≤ j ∧ j ≤ ys.length ∧ tbM h'' m xs ys i (j + 1) ∧ MF m 18 19 27 27 h h'') (fun j => (j + 1).toNat) (fun _ h'' => tbM h'' m xs ys i 0 ∧ MF m 18 19 27 27 h h'') ?_ mo_N (ys.length : Int) h' ⟨by omega, by omega, fun i' j' a1 a2 a3 => iT i' j' a1 a2 (by omega), iF⟩ (by rw [mo_N_v]; omega)
      · obtain ⟨_, h2, e2, q2, f2⟩ := hL2
        refine ⟨i + -1, h2, by simp (disch := omega) only [X7_layDifference_L18, rr_p, rr_bp, rr_bb, rr_0, rr_lt, rr_blt, rr_le, rr_ble, rr_eq, rr_beq, rr_nl_n, rr_nl_s, rr_bnl_n, rr_bnl_s, rr_cond_t, rr_cond_f, rr_bcond_t, rr_bcond_f, rr_bon, rr_bcv, rr_cv, rr_g, rr_gr, rr_si, rr_sz, rr_sr, rr_al, rr_ld, rr_st, rr_rl, rr_rs, rr_ni, rr_nr, rr_z, rr_div, rr_rem, rr_lc, rr_mx, rr_mn, rr_ab, rr_no, gd_t, bc_t, bc_f, gd_tt, bc_tt, bc_ff, or_true, true_or, and_true, true_and, Nat.reduceAdd, mo_b_s e2], ⟨by omega, by omega, ?_, f2⟩, by omega⟩
        rw [show i + -1 + 1 = i by omega]; exact q2
      · intro j h'' ⟨j1, j2, jT, jF⟩
        by_cases hj : j < 0
        · right
          refine ⟨(), h'', by simp (disch := omega) only [X7_layDifference_L27, rr_p, rr_bp, rr_bb, rr_0, rr_lt, rr_blt, rr_le, rr_ble, rr_eq, rr_beq, rr_nl_n, rr_nl_s, rr_bnl_n, rr_bnl_s, rr_cond_t, rr_cond_f, rr_bcond_t, rr_bcond_f, rr_bon, rr_bcv, rr_cv, rr_g, rr_gr, rr_si, rr_sz, rr_sr, rr_al, rr_ld, rr_st, rr_rl, rr_rs, rr_ni, rr_nr, rr_z, rr_div, rr_rem, rr_lc, rr_mx, rr_mn, rr_ab, rr_no, gd_t, bc_t, bc_f, gd_tt, bc_tt, bc_ff, or_true, true_or, and_true, true_and, Nat.reduceAdd], ?_, jF⟩
          rw [show j + 1 = 0 by omega] at jT
          exact jT
        · left
          obtain ⟨hS, ⟨u0, u1, v0, v1⟩, ⟨lu, lv⟩, cx, cy⟩ := mRows_fr hR jF (by omega)
          have mT := hS.1
          obtain ⟨p2, t2, n2⟩ := ms2 hS
          obtain ⟨p3, t3, n3⟩ := ms3 hS
          obtain ⟨p18, t18, n18⟩ := ms18 hS
          obtain ⟨i0, ei⟩ : ∃ i0 : Nat, i = (i0 : Int) := ⟨i.toNat, by omega⟩
          obtain ⟨j0, ej⟩ : ∃ j0 : Nat, j = (j0 : Int) := ⟨j.toNat, by omega⟩
          subst ei; subst ej
          refine ⟨(j0 : Int) + -1, ah_sI h'' (m + 18) (15 * (i0 : Int) + (j0 : Int)) (ml (xs.drop i0) (ys.drop j0) : Int), ?_, ⟨by omega, by omega, ?_, jF.tr (MF.sI (al := 18) (ah_ := 19) (fl := 27) (fh := 27) (by omega) (by omega)) (by omega)⟩, by omega⟩
          · by_cases hi2 : i0 < xs.length
            · by_cases hj2 : j0 < ys.length
              · have a1 := cx i0 hi2
                have a2 := cy j0 hj2
                have r1 := hx i0
                have r2 := hy j0
                have l1 := ml_le (xs.drop (i0 + 1)) (ys.drop (j0 + 1))
                have l2 := ml_le (xs.drop (i0 + 1)) (ys.drop j0)
                have l3 := ml_le (xs.drop i0) (ys.drop (j0 + 1))
                rw [List.length_drop] at l1 l2 l3
                have g1 := jT (i0 + 1) (j0 + 1) (by omega) (by omega) (Or.inl (by omega))
                have g2 := jT (i0 + 1) j0 (by omega) (by omega) (Or.inl (by omega))
                have g3 := jT i0 (j0 + 1) (by omega) (by omega) (Or.inr ⟨rfl, by omega⟩)
                rw [show 15 * ((i0 + 1 : Nat) : Int) + ((j0 + 1 : Nat) : Int) = 15 * ((i0 : Int) + 1) + (j0 : Int) + 1 by omega] at g1
                rw [show 15 * ((i0 + 1 : Nat) : Int) + (j0 : Int) = 15 * ((i0 : Int) + 1) + (j0 : Int) by omega] at g2
                rw [show 15 * (i0 : Int) + ((j0 + 1 : Nat) : Int) = 15 * (i0 : Int) + (j0 : Int) + 1 by omega] at g3
                rw [ml_step hi2 hj2]
                by_cases hc : xs.getD i0 0 = ys.getD j0 0
                · rw [if_pos hc]
                  by_cases hmx : (ml (xs.drop (i0 + 1)) (ys.drop j0) : Int) ≤ ml (xs.drop i0) (ys.drop (j0 + 1))
                  · simp (disch := omega) only [X7_layDifference_L27, rr_p, rr_bp, rr_bb, rr_0, rr_lt, rr_blt, rr_le, rr_ble, rr_eq, rr_beq, rr_nl_n, rr_nl_s, rr_bnl_n, rr_bnl_s, rr_cond_t, rr_cond_f, rr_bcond_t, rr_bcond_f, rr_bon, rr_bcv, rr_cv, rr_g, rr_gr, rr_si, rr_sz, rr_sr, rr_al, rr_ld, rr_st, rr_rl, rr_rs, rr_ni, rr_nr, rr_z, rr_div, rr_rem, rr_lc, rr_mx, rr_mn, rr_ab, rr_no, gd_t, bc_t, bc_f, gd_tt, bc_tt, bc_ff, or_true, true_or, and_true, true_and, Nat.reduceAdd, p18, p3, g1, g2, g3, a1, a2, Int.natCast_add, Int.natCast_one]
                  · simp (disch := omega) only [X7_layDifference_L27, rr_p, rr_bp, rr_bb, rr_0, rr_lt, rr_blt, rr_le, rr_ble, rr_eq, rr_beq, rr_nl_n, rr_nl_s, rr_bnl_n, rr_bnl_s, rr_cond_t, rr_cond_f, rr_bcond_t, rr_bcond_f, rr_bon, rr_bcv, rr_cv, rr_g, rr_gr, rr_si, rr_sz, rr_sr, rr_al, rr_ld, rr_st, rr_rl, rr_rs, rr_ni, rr_nr, rr_z, rr_div, rr_rem, rr_lc, rr_mx, rr_mn, rr_ab, rr_no, gd_t, bc_t, bc_f, gd_tt, bc_tt, bc_ff, or_true, true_or, and_true, true_and, Nat.reduceAdd, p18, p3, g1, g2, g3, a1, a2, Int.natCast_add, Int.natCast_one]
                · rw [if_neg hc]
                  by_cases hmx : (ml (xs.drop (i0 + 1)) (ys.drop j0) : Int) ≤ ml (xs.drop i0) (ys.drop (j0 + 1))
                  · rw [show max (ml (xs.drop (i0 + 1)) (ys.drop j0)) (ml (xs.drop i0) (ys.drop (j0 + 1))) = ml (xs.drop i0) (ys.drop (j0 + 1)) by omega]
                    simp (disch := omega) only [X7_layDifference_L27, rr_p, rr_bp, rr_bb, rr_0, rr_lt, rr_blt, rr_le, rr_ble, rr_eq, rr_beq, rr_nl_n, rr_nl_s, rr_bnl_n, rr_bnl_s, rr_cond_t, rr_cond_f, rr_bcond_t, rr_bcond_f, rr_bon, rr_bcv, rr_cv, rr_g, rr_gr, rr_si, rr_sz, rr_sr, rr_al, rr_ld, rr_st, rr_rl, rr_rs, rr_ni, rr_nr, rr_z, rr_div, rr_rem, rr_lc, rr_mx, rr_mn, rr_ab, rr_no, gd_t, bc_t, bc_f, gd_tt, bc_tt, bc_ff, or_true, true_or, and_true, true_and, Nat.reduceAdd, p18, p3, g1, g2, g3, a1, a2]
                  · rw [show max (ml (xs.drop (i0 + 1)) (ys.drop j0)) (ml (xs.drop i0) (ys.drop (j0 + 1))) = ml (xs.drop (i0 + 1)) (ys.drop j0) by omega]
                    simp (disch := omega) only [X7_layDifference_L27, rr_p, rr_bp, rr_bb, rr_0, rr_lt, rr_blt, rr_le, rr_ble, rr_eq, rr_beq, rr_nl_n, rr_nl_s, rr_bnl_n, rr_bnl_s, rr_cond_t, rr_cond_f, rr_bcond_t, rr_bcond_f, rr_bon, rr_bcv, rr_cv, rr_g, rr_gr, rr_si, rr_sz, rr_sr, rr_al, rr_ld, rr_st, rr_rl, rr_rs, rr_ni, rr_nr, rr_z, rr_div, rr_rem, rr_lc, rr_mx, rr_mn, rr_ab, rr_no, gd_t, bc_t, bc_f, gd_tt, bc_tt, bc_ff, or_true, true_or, and_true, true_and, Nat.reduceAdd, p18, p3, g1, g2, g3, a1, a2]
              · rw [List.drop_eq_nil_of_le (show ys.length ≤ j0 by omega), ml_nil2]
                simp (disch := omega) only [X7_layDifference_L27, rr_p, rr_bp, rr_bb, rr_0, rr_lt, rr_blt, rr_le, rr_ble, rr_eq, rr_beq, rr_nl_n, rr_nl_s, rr_bnl_n, rr_bnl_s, rr_cond_t, rr_cond_f, rr_bcond_t, rr_bcond_f, rr_bon, rr_bcv, rr_cv, rr_g, rr_gr, rr_si, rr_sz, rr_sr, rr_al, rr_ld, rr_st, rr_rl, rr_rs, rr_ni, rr_nr, rr_z, rr_div, rr_rem, rr_lc, rr_mx, rr_mn, rr_ab, rr_no, gd_t, bc_t, bc_f, gd_tt, bc_tt, bc_ff, or_true, true_or, and_true, true_and, Nat.reduceAdd, p18]
                rfl
            · rw [List.drop_eq_nil_of_le (show xs.length ≤ i0 by omega), ml_nil]
              simp (disch := omega) only [X7_layDifference_L27, rr_p, rr_bp, rr_bb, rr_0, rr_lt, rr_blt, rr_le, rr_ble, rr_eq, rr_beq, rr_nl_n, rr_nl_s, rr_bnl_n, rr_bnl_s, rr_cond_t, rr_cond_f, rr_bcond_t, rr_bcond_f, rr_bon, rr_bcv, rr_cv, rr_g, rr_gr, rr_si, rr_sz, rr_sr, rr_al, rr_ld, rr_st, rr_rl, rr_rs, rr_ni, rr_nr, rr_z, rr_div, rr_rem, rr_lc, rr_mx, rr_mn, rr_ab, rr_no, gd_t, bc_t, bc_f, gd_tt, bc_tt, bc_ff, or_true, true_or, and_true, true_and, Nat.reduceAdd, p18]
              rfl
          · intro i' j' a1 a2 a3
            rw [hl_I_sI]
            by_cases hc : i' = i0 ∧ j' = j0
            · obtain ⟨rfl, rfl⟩ := hc
              rw [if_pos ⟨rfl, rfl⟩]
            · rw [if_neg (fun q => hc (by omega))]
              exact jT i' j' a1 a2 (by omega)
/-- where the walk stands: hunks so far, open or not, the next lines -/
def dSt (xs ys : List Int) (acc : List HK) (op i j : Nat) : Prop := i ≤ xs.length ∧ j ≤ ys.length ∧ (i < xs.length → (trc xs ys 0).drop i = trc (xs.drop i) (ys.drop j) (j : Int)) ∧ ∃ (gf cf : Nat), gf ≤ i ∧ cf ≤ j ∧ ((op = 0 ∧ gf = i ∧ cf = j ∧ acc ++ hm xs ys ((trc xs ys 0).drop i) i gf cf = dW xs ys) ∨ (op = 1 ∧ (gf < i ∨ cf < j) ∧ ∃ acc', acc = acc' ++ [((gf : Int), (xs.take i).drop gf, (ys.take j).drop cf)] ∧ acc' ++ hm xs ys ((trc xs ys 0).drop i) i gf cf = dW xs ys))
theorem trc_end {xs ys : List Int} {i : Nat} (hi : xs.length ≤ i) : (trc xs ys 0).drop i = [] := List.drop_eq_nil_of_le (by rw [trc_len]; omega)
theorem dSt_end {xs ys : List Int} {acc : List HK} {op : Nat} (h : dSt xs ys acc op xs.length ys.length) : acc = dW xs ys := by
  obtain ⟨_, _, _, gf, cf, h1, h2, ⟨h3, h4, h5, h6⟩ | ⟨h3, h4, acc', h5, h6⟩⟩ := h
  · rw [trc_end (Nat.le_refl _), hm] at h6
    unfold hmo at h6
    rw [if_neg (by omega), List.append_nil] at h6
    exact h6
  · rw [trc_end (Nat.le_refl _), hm] at h6
    unfold hmo at h6
    rw [if_pos h4] at h6
    rw [h5, h6]
theorem drop1 {l : List Int} {i : Nat} {a : Int} {t : List Int} (h : l.drop i = a :: t) : l.drop (i + 1) = t ∧ l.getD i 0 = a := by
  refine ⟨?_, ?_⟩
  · have := congrArg (fun l => l.drop 1) h
    simp only [List.drop_drop, List.drop_one, List.tail_cons] at this
    simpa [Nat.add_comm] using this
  · have := congrArg (fun l => l.getD 0 0) h
    simpa [getD_drop] using this
/-- both lines alike: kept -/
theorem dSt_both {xs ys : List Int} {acc : List HK} {op i j : Nat} (h : dSt xs ys acc op i j) (hi : i < xs.length) (hj : j < ys.length) (hc : xs.getD i 0 = ys.getD j 0) : dSt xs ys acc 0 (i + 1) (j + 1) ∧ (trc xs ys 0).getD i 0 = (j : Int) := by
  obtain ⟨h1, h2, h3, gf, cf, h4, h5, h6⟩ := h
  have h3 := h3 hi
  rw [drop_c hi, drop_c hj, trc, if_pos hc] at h3
  obtain ⟨e1, e2⟩ := drop1 h3
  refine ⟨⟨by omega, by omega, fun _ => ?_, i + 1, j + 1, by omega, by omega, Or.inl ⟨rfl, rfl, rfl, ?_⟩⟩, e2⟩
  · rw [e1]; rfl
  · rcases h6 with ⟨q1, q2, q3, q4⟩ | ⟨q1, q2, acc', q3, q4⟩
    · rw [h3, hm, if_neg (by omega), Int.toNat_natCast] at q4
      unfold hmo at q4
      rw [if_neg (by omega), List.nil_append] at q4
      rw [e1]; exact q4
    · rw [h3, hm, if_neg (by omega), Int.toNat_natCast] at q4
      unfold hmo at q4
      rw [if_pos q2, ← List.append_assoc, ← q3] at q4
      rw [e1]; exact q4
/-- no hunk is open: one is begun -/
theorem dSt_open {xs ys : List Int} {acc : List HK} {op i j : Nat} (h : dSt xs ys acc op i j) : ∃ (acc' : List HK) (gf cf : Nat), gf ≤ i ∧ cf ≤ j ∧ (if op = 0 then acc ++ [((i : Int), [], [])] else acc) = acc' ++ [((gf : Int), (xs.take i).drop gf, (ys.take j).drop cf)] ∧ acc' ++ hm xs ys ((trc xs ys 0).drop i) i gf cf = dW xs ys ∧ (op = 0 ∨ op = 1) := by
  obtain ⟨h1, h2, h3, gf, cf, h4, h5, ⟨q1, q2, q3, q4⟩ | ⟨q1, q2, acc', q3, q4⟩⟩ := h
  · refine ⟨acc, gf, cf, h4, h5, ?_, q4, Or.inl q1⟩
    rw [if_pos q1, q2, q3]
    simp
  · exact ⟨acc', gf, cf, h4, h5, by rw [if_neg (by omega)]; exact q3, q4, Or.inr q1⟩
theorem q7_diff_walk {h : AH} {m : Nat} {u v : Int} {xs ys : List Int} (hR : mRows h m u v xs ys) (hx : pL xs) (hy : pL ys) (lx : xs.length ≤ 14) (ly : ys.length ≤ 14) (hT : tbM h m xs ys 0 0) (hW : mW h m []) (h26 : ah_F h m 26 = 0) : ∃ h', mo_lp mo_N (X7_layDifference_L196 (xs.length : Int) (ys.length : Int) m u v) (0, 0, 0) h = some ((), h') ∧ mW h' m (dW xs ys) ∧ (∀ k : Nat, k < xs.length → ah_I h' (m + 19) (k : Int) = (trc xs ys 0).getD k 0) ∧ ah_F h' m 26 + ((fG (dW xs ys)).length : Int) = (xs.length : Int) ∧ MF m 13 20 16 27 h h' := by
  have hL := lp_inv (F := X7_layDifference_L196 (xs.length : Int) (ys.length : Int) m u v) (fun s h' => ∃ (op i j : Nat) (acc : List HK), s = ((op : Int), (i : Int), (j : Int)) ∧ dSt xs ys acc op i j ∧ mW h' m acc ∧ acc.length ≤ i + j ∧ (fG acc).length ≤ i ∧ (fC acc).length ≤ j ∧ ah_F h' m 26 + ((fG acc).length : Int) = (i : Int) ∧ (∀ k : Nat, k < i → ah_I h' (m + 19) (k : Int) = (trc xs ys 0).getD k 0) ∧ tbM h' m xs ys 0 0 ∧ MF m 13 20 16 27 h h') (fun s => (28 - s.2.1 - s.2.2).toNat) (fun _ h' => mW h' m (dW xs ys) ∧ (∀ k : Nat, k < xs.length → ah_I h' (m + 19) (k : Int) = (trc xs ys 0).getD k 0) ∧ ah_F h' m 26 + ((fG (dW xs ys)).length : Int) = (xs.length : Int) ∧ MF m 13 20 16 27 h h') ?_ mo_N (0, 0, 0) h ⟨0, 0, 0, [], rfl, ⟨by omega, by omega, fun _ => rfl, 0, 0, by omega, by omega, Or.inl ⟨rfl, rfl, rfl, rfl⟩⟩, hW, by simp, by simp [fG], by simp [fC], by rw [h26]; simp [fG], fun k hk => by omega, hT, MF.rf⟩ (by rw [mo_N_v]; show (28 - (0 : Int) - 0).toNat < 200000; omega)
  · obtain ⟨_, h', e, q⟩ := hL
    exact ⟨h', e, q⟩
  · rintro s h' ⟨op, i, j, acc, rfl, hd, hW', b1, b2, b3, b4, hk', hTb, hF⟩
    have hRr := mRows_fr hR hF (by omega)
    obtain ⟨hS, ⟨u0, u1, v0, v1⟩, ⟨lu, lv⟩, cx, cy⟩ := hRr
    have mT := hS.1
    have d1 := hd.1
    have d2 := hd.2.1
    obtain ⟨p3, t3, n3⟩ := ms3 hS
    obtain ⟨p18, t18, n18⟩ := ms18 hS
    obtain ⟨p19, t19, n19⟩ := ms19 hS
    by_cases hend : i < xs.length ∨ j < ys.length
    · left
      by_cases hb : i < xs.length ∧ j < ys.length ∧ xs.getD i 0 = ys.getD j 0
      · obtain ⟨hi, hj, hc⟩ := hb
        obtain ⟨n1, n2⟩ := dSt_both hd hi hj hc
        have a1 := cx i hi
        have a2 := cy j hj
        have r1 := hx i
        have r2 := hy j
        have hF2 : MF m 13 20 16 27 h' (ah_sF (ah_sI h' (m + 19) (i : Int) (j : Int)) m 26 (ah_F h' m 26 + 1)) :=
          MF.tr (MF.sI (al := 13) (ah_ := 20) (fl := 16) (fh := 27) (by omega) (by omega)) (MF.sF (al := 13) (ah_ := 20) (fl := 16) (fh := 27) (by omega) (by omega)) (by omega)
        have hF3 : MF m 19 20 26 27 h' (ah_sF (ah_sI h' (m + 19) (i : Int) (j : Int)) m 26 (ah_F h' m 26 + 1)) :=
          MF.tr (MF.sI (al := 19) (ah_ := 20) (fl := 26) (fh := 27) (by omega) (by omega)) (MF.sF (al := 19) (ah_ := 20) (fl := 26) (fh := 27) (by omega) (by omega)) (by omega)
        refine ⟨(0, (i : Int) + 1, (j : Int) + 1), ah_sF (ah_sI h' (m + 19) (i : Int) (j : Int)) m 26 (ah_F h' m 26 + 1), ?_, ⟨0, i + 1, j + 1, acc, by simp, n1, mW_fr hW' hF3 (by omega), by omega, by omega, by omega, ?_, ?_, ?_, hF.tr hF2 (by omega)⟩, by dsimp only; omega⟩
        · simp (disch := omega) only [X7_layDifference_L196, rr_p, rr_bp, rr_bb, rr_0, rr_lt, rr_blt, rr_le, rr_ble, rr_eq, rr_beq, rr_nl_n, rr_nl_s, rr_bnl_n, rr_bnl_s, rr_cond_t, rr_cond_f, rr_bcond_t, rr_bcond_f, rr_bon, rr_bcv, rr_cv, rr_g, rr_gr, rr_si, rr_sz, rr_sr, rr_al, rr_ld, rr_st, rr_rl, rr_rs, rr_ni, rr_nr, rr_z, rr_div, rr_rem, rr_lc, rr_mx, rr_mn, rr_ab, rr_no, gd_t, bc_t, bc_f, gd_tt, bc_tt, bc_ff, or_true, true_or, and_true, true_and, Nat.reduceAdd, hl_T_sF, hl_N_sF, hl_P_sF, hl_I_sF, hl_R_sF, hl_S_sF, hl_T_sP, hl_N_sP, hl_F_sP, hl_I_sP, hl_R_sP, hl_S_sP, hl_T_sI, hl_N_sI, hl_F_sI, hl_P_sI, hl_R_sI, hl_S_sI, hl_T_sR, hl_N_sR, hl_F_sR, hl_P_sR, hl_I_sR, hl_S_sR, hl_T_wI, hl_N_wI, hl_F_wI, hl_P_wI, hl_R_wI, hl_S_wI, hl_F_sF_s, hl_F_sF_n, hl_P_sP_s, hl_P_sP_n, hl_I_sI_s, hl_I_sI_n, hl_R_sR_s, hl_R_sR_n, hl_I_wI_s, hl_I_wI_n, p3, p19, a1, a2]
        · rw [hl_F_sF_s]; omega
        · intro k hk
          rw [hl_I_sF, hl_I_sI]
          by_cases hki : k = i
          · rw [if_pos ⟨rfl, by omega⟩, hki, n2]
          · rw [if_neg (by omega)]; exact hk' k (by omega)
        · intro i' j' q1 q2 q3
          rw [hF3.2.2.2.2.1 18 (by omega)]
          exact hTb i' j' q1 q2 q3
      · have hpre : mo_b (mo_lt (i : Int) (xs.length : Int) (mo_lt (j : Int) (ys.length : Int) (mo_b (op_gr 7 (some m) 4) fun t24 => mo_b (op_ld t24 ((14 * u) + (i : Int))) fun t25 => mo_b (op_gr 7 (some m) 4) fun t26 => mo_b (op_ld t26 ((14 * v) + (j : Int))) fun t27 => mo_eq t25 t27 (mo_p 1) (mo_p 0)) (mo_p 0)) (mo_p 0)) mo_p h' = some ((0 : Int), h') := by
          by_cases hi : i < xs.length
          · by_cases hj : j < ys.length
            · have a1 := cx i hi
              have a2 := cy j hj
              have r1 := hx i
              have r2 := hy j
              have hc : ¬ (xs.getD i 0 = ys.getD j 0) := fun q => hb ⟨hi, hj, q⟩
              simp (disch := omega) only [rr_p, rr_bp, rr_bb, rr_0, rr_lt, rr_blt, rr_le, rr_ble, rr_eq, rr_beq, rr_nl_n, rr_nl_s, rr_bnl_n, rr_bnl_s, rr_cond_t, rr_cond_f, rr_bcond_t, rr_bcond_f, rr_bon, rr_bcv, rr_cv, rr_g, rr_gr, rr_si, rr_sz, rr_sr, rr_al, rr_ld, rr_st, rr_rl, rr_rs, rr_ni, rr_nr, rr_z, rr_div, rr_rem, rr_lc, rr_mx, rr_mn, rr_ab, rr_no, gd_t, bc_t, bc_f, gd_tt, bc_tt, bc_ff, or_true, true_or, and_true, true_and, Nat.reduceAdd, p3, a1, a2]
            · simp (disch := omega) only [rr_p, rr_bp, rr_bb, rr_0, rr_lt, rr_blt, rr_le, rr_ble, rr_eq, rr_beq, rr_nl_n, rr_nl_s, rr_bnl_n, rr_bnl_s, rr_cond_t, rr_cond_f, rr_bcond_t, rr_bcond_f, rr_bon, rr_bcv, rr_cv, rr_g, rr_gr, rr_si, rr_sz, rr_sr, rr_al, rr_ld, rr_st, rr_rl, rr_rs, rr_ni, rr_nr, rr_z, rr_div, rr_rem, rr_lc, rr_mx, rr_mn, rr_ab, rr_no, gd_t, bc_t, bc_f, gd_tt, bc_tt, bc_ff, or_true, true_or, and_true, true_and, Nat.reduceAdd]
          · simp (disch := omega) only [rr_p, rr_bp, rr_bb, rr_0, rr_lt, rr_blt, rr_le, rr_ble, rr_eq, rr_beq, rr_nl_n, rr_nl_s, rr_bnl_n, rr_bnl_s, rr_cond_t, rr_cond_f, rr_bcond_t, rr_bcond_f, rr_bon, rr_bcv, rr_cv, rr_g, rr_gr, rr_si, rr_sz, rr_sr, rr_al, rr_ld, rr_st, rr_rl, rr_rs, rr_ni, rr_nr, rr_z, rr_div, rr_rem, rr_lc, rr_mx, rr_mn, rr_ab, rr_no, gd_t, bc_t, bc_f, gd_tt, bc_tt, bc_ff, or_true, true_or, and_true, true_and, Nat.reduceAdd]
        rw [mo_bp] at hpre
        have hcond : mo_b (mo_lt (i : Int) (xs.length : Int) (mo_p true) (mo_lt (j : Int) (ys.length : Int) (mo_p true) (mo_p false))) mo_p h' = some (true, h') := by
          by_cases hi : i < xs.length
          · simp (disch := omega) only [rr_p, rr_bp, rr_bb, rr_0, rr_lt, rr_blt, rr_le, rr_ble, rr_eq, rr_beq, rr_nl_n, rr_nl_s, rr_bnl_n, rr_bnl_s, rr_cond_t, rr_cond_f, rr_bcond_t, rr_bcond_f, rr_bon, rr_bcv, rr_cv, rr_g, rr_gr, rr_si, rr_sz, rr_sr, rr_al, rr_ld, rr_st, rr_rl, rr_rs, rr_ni, rr_nr, rr_z, rr_div, rr_rem, rr_lc, rr_mx, rr_mn, rr_ab, rr_no, gd_t, bc_t, bc_f, gd_tt, bc_tt, bc_ff, or_true, true_or, and_true, true_and, Nat.reduceAdd]
          · simp (disch := omega) only [rr_p, rr_bp, rr_bb, rr_0, rr_lt, rr_blt, rr_le, rr_ble, rr_eq, rr_beq, rr_nl_n, rr_nl_s, rr_bnl_n, rr_bnl_s, rr_cond_t, rr_cond_f, rr_bcond_t, rr_bcond_f, rr_bon, rr_bcv, rr_cv, rr_g, rr_gr, rr_si, rr_sz, rr_sr, rr_al, rr_ld, rr_st, rr_rl, rr_rs, rr_ni, rr_nr, rr_z, rr_div, rr_rem, rr_lc, rr_mx, rr_mn, rr_ab, rr_no, gd_t, bc_t, bc_f, gd_tt, bc_tt, bc_ff, or_true, true_or, and_true, true_and, Nat.reduceAdd]
        rw [mo_bp] at hcond
        obtain ⟨acc', gf, cf, g1, g2, g3, g4, g5⟩ := dSt_open hd
        -- the hunk is begun, if none is open
        have hop : ∃ h2, mo_b (mo_eq (op : Int) 0 (mo_b (mo_cv 7 (some m) (fun b28 => X7_newHunk b28 (i : Int))) fun _ => mo_p ()) (mo_p ())) mo_p h' = some ((), h2) ∧ mW h2 m (acc' ++ [((gf : Int), (xs.take i).drop gf, (ys.take j).drop cf)]) ∧ MF m 13 18 16 23 h' h2 := by
          by_cases ho : op = 0
          · obtain ⟨h2, e2, w2, f2⟩ := q7_newHunk hS hW' (p := (i : Int)) (by omega)
            rw [if_pos ho] at g3
            rw [g3] at w2
            exact ⟨h2, by simp (disch := omega) only [rr_p, rr_bp, rr_bb, rr_0, rr_lt, rr_blt, rr_le, rr_ble, rr_eq, rr_beq, rr_nl_n, rr_nl_s, rr_bnl_n, rr_bnl_s, rr_cond_t, rr_cond_f, rr_bcond_t, rr_bcond_f, rr_bon, rr_bcv, rr_cv, rr_g, rr_gr, rr_si, rr_sz, rr_sr, rr_al, rr_ld, rr_st, rr_rl, rr_rs, rr_ni, rr_nr, rr_z, rr_div, rr_rem, rr_lc, rr_mx, rr_mn, rr_ab, rr_no, gd_t, bc_t, bc_f, gd_tt, bc_tt, bc_ff, or_true, true_or, and_true, true_and, Nat.reduceAdd, mo_b_s e2], w2, f2⟩
          · rw [if_neg ho] at g3
            rw [g3] at hW'
            exact ⟨h', by simp (disch := omega) only [rr_p, rr_bp, rr_bb, rr_0, rr_lt, rr_blt, rr_le, rr_ble, rr_eq, rr_beq, rr_nl_n, rr_nl_s, rr_bnl_n, rr_bnl_s, rr_cond_t, rr_cond_f, rr_bcond_t, rr_bcond_f, rr_bon, rr_bcv, rr_cv, rr_g, rr_gr, rr_si, rr_sz, rr_sr, rr_al, rr_ld, rr_st, rr_rl, rr_rs, rr_ni, rr_nr, rr_z, rr_div, rr_rem, rr_lc, rr_mx, rr_mn, rr_ab, rr_no, gd_t, bc_t, bc_f, gd_tt, bc_tt, bc_ff, or_true, true_or, and_true, true_and, Nat.reduceAdd], hW', MF.rf⟩
        obtain ⟨h2, e2, w2, f2⟩ := hop
        rw [mo_bp] at e2
        have hlen1 : acc'.length + 1 ≤ i + j + 1 ∧ (fG acc').length + (i - gf) ≤ i ∧ (fC acc').length + (j - cf) ≤ j := by
          have q1 := congrArg List.length g3
          have q2 := congrArg (fun l => (fG l).length) g3
          have q3 := congrArg (fun l => (fC l).length) g3
          simp only [List.length_append, fG_app, fC_app, fG_one, fC_one, List.length_drop, List.length_take, List.length_cons, List.length_nil] at q1 q2 q3
          have q4 : (if op = 0 then acc ++ [((i : Int), [], [])] else acc).length ≤ acc.length + 1 := by split <;> simp
          have q5 : (fG (if op = 0 then acc ++ [((i : Int), [], [])] else acc)).length = (fG acc).length := by split <;> simp [fG_app, fG_one]
          have q6 : (fC (if op = 0 then acc ++ [((i : Int), [], [])] else acc)).length = (fC acc).length := by split <;> simp [fC_app, fC_one]
          omega
        have hfG : (fG acc).length = (fG acc').length + (i - gf) := by
          have q2 := congrArg (fun l => (fG l).length) g3
          simp only [fG_app, fG_one, List.length_append, List.length_drop, List.length_take] at q2
          have q5 : (fG (if op = 0 then acc ++ [((i : Int), [], [])] else acc)).length = (fG acc).length := by split <;> simp [fG_app, fG_one]
          omega
        obtain ⟨hS2, -, -, cx2, cy2⟩ := mRows_fr (mRows_fr hR hF (by omega)) f2 (by omega)
        have mT2 := hS2.1
        obtain ⟨pp3, tt3, nn3⟩ := ms3 hS2
        obtain ⟨pp18, tt18, nn18⟩ := ms18 hS2
        obtain ⟨pp19, tt19, nn19⟩ := ms19 hS2
        have hTb2 : tbM h2 m xs ys 0 0 := by intro i' j' q1 q2 q3; rw [f2.2.2.2.2.1 18 (by omega)]; exact hTb i' j' q1 q2 q3
        have hk2 : ∀ k : Nat, k < i → ah_I h2 (m + 19) (k : Int) = (trc xs ys 0).getD k 0 := by intro k hk; rw [f2.2.2.2.2.1 19 (by omega)]; exact hk' k hk
        have f26 : ah_F h2 m 26 = ah_F h' m 26 := f2.2.2.2.2.2 26 (by omega)
        -- does the next line go
        by_cases hdr : i < xs.length ∧ (j = ys.length ∨ ml (xs.drop (i + 1)) (ys.drop j) = ml (xs.drop i) (ys.drop j))
        · obtain ⟨hi, hdj⟩ := hdr
          have hdrop : mo_b (mo_lt (i : Int) (xs.length : Int) (mo_eq (j : Int) (ys.length : Int) (mo_p 1) (mo_b (op_gr 7 (some m) 24) fun t30 => mo_b (op_ld t30 ((15 * ((i : Int) + 1)) + (j : Int))) fun t31 => mo_b (op_gr 7 (some m) 24) fun t32 => mo_b (op_ld t32 ((15 * (i : Int)) + (j : Int))) fun t33 => mo_eq t31 t33 (mo_p 1) (mo_p 0))) (mo_p 0)) mo_p h2 = some ((1 : Int), h2) := by
            by_cases hj : j = ys.length
            · simp (disch := omega) only [rr_p, rr_bp, rr_bb, rr_0, rr_lt, rr_blt, rr_le, rr_ble, rr_eq, rr_beq, rr_nl_n, rr_nl_s, rr_bnl_n, rr_bnl_s, rr_cond_t, rr_cond_f, rr_bcond_t, rr_bcond_f, rr_bon, rr_bcv, rr_cv, rr_g, rr_gr, rr_si, rr_sz, rr_sr, rr_al, rr_ld, rr_st, rr_rl, rr_rs, rr_ni, rr_nr, rr_z, rr_div, rr_rem, rr_lc, rr_mx, rr_mn, rr_ab, rr_no, gd_t, bc_t, bc_f, gd_tt, bc_tt, bc_ff, or_true, true_or, and_true, true_and, Nat.reduceAdd]
            · have v1 := hTb2 (i + 1) j (by omega) (by omega) (by omega)
              have v2 := hTb2 i j (by omega) (by omega) (by omega)
              rw [show ((i + 1 : Nat) : Int) = (i : Int) + 1 by omega] at v1
              have l1 := ml_le (xs.drop (i + 1)) (ys.drop j)
              have l2 := ml_le (xs.drop i) (ys.drop j)
              rw [List.length_drop] at l1 l2
              simp (disch := omega) only [rr_p, rr_bp, rr_bb, rr_0, rr_lt, rr_blt, rr_le, rr_ble, rr_eq, rr_beq, rr_nl_n, rr_nl_s, rr_bnl_n, rr_bnl_s, rr_cond_t, rr_cond_f, rr_bcond_t, rr_bcond_f, rr_bon, rr_bcv, rr_cv, rr_g, rr_gr, rr_si, rr_sz, rr_sr, rr_al, rr_ld, rr_st, rr_rl, rr_rs, rr_ni, rr_nr, rr_z, rr_div, rr_rem, rr_lc, rr_mx, rr_mn, rr_ab, rr_no, gd_t, bc_t, bc_f, gd_tt, bc_tt, bc_ff, or_true, true_or, and_true, true_and, Nat.reduceAdd, pp18, v1, v2]
          rw [mo_bp] at hdrop
          have htr : trc (xs.drop i) (ys.drop j) (j : Int) = -1 :: trc (xs.drop (i + 1)) (ys.drop j) (j : Int) := by
            by_cases hj : j = ys.length
            · rw [drop_c hi, List.drop_eq_nil_of_le (show ys.length ≤ j by omega), trc]
            · have hj2 : j < ys.length := by omega
              have hne : ¬ xs.getD i 0 = ys.getD j 0 := fun q => hb ⟨hi, hj2, q⟩
              have hml : ml (xs.drop (i + 1)) (ys.drop j) = ml (xs.drop i) (ys.drop j) := by rcases hdj with q | q <;> first | exact q | omega
              rw [drop_c hi, drop_c hj2, trc, if_neg hne, ← drop_c hi, ← drop_c hj2, if_pos hml]
          have hd3 := hd.2.2.1 hi
          rw [htr] at hd3
          obtain ⟨t1, t2⟩ := drop1 hd3
          have a1 := cx2 i hi
          have hF3 : MF m 19 20 26 26 h2 (ah_sI h2 (m + 19) (i : Int) (-1)) := MF.sI (by omega) (by omega)
          obtain ⟨h3, e3, w3, f3⟩ := q7_goes (mS_fr hS2 hF3) (mW_fr w2 hF3 (by omega)) (v := xs.getD i 0) (by simp only [List.length_drop, List.length_take]; omega) (by omega)
          have mT3 : ah_T (ah_sI h2 (m + 19) (i : Int) (-1)) m = 17 := mT2
          rw [← part_s hi g1] at w3
          refine ⟨(1, (i : Int) + 1, (j : Int)), h3, ?_, ⟨1, i + 1, j, _, by simp, ⟨by omega, by omega, ?_, gf, cf, by omega, by omega, Or.inr ⟨rfl, by omega, acc', rfl, ?_⟩⟩, w3, ?_, ?_, ?_, ?_, ?_, ?_, ?_⟩, by dsimp only; omega⟩
          · simp (disch := omega) only [X7_layDifference_L196, rr_p, rr_bp, rr_bb, rr_0, rr_lt, rr_blt, rr_le, rr_ble, rr_eq, rr_beq, rr_nl_n, rr_nl_s, rr_bnl_n, rr_bnl_s, rr_cond_t, rr_cond_f, rr_bcond_t, rr_bcond_f, rr_bon, rr_bcv, rr_cv, rr_g, rr_gr, rr_si, rr_sz, rr_sr, rr_al, rr_ld, rr_st, rr_rl, rr_rs, rr_ni, rr_nr, rr_z, rr_div, rr_rem, rr_lc, rr_mx, rr_mn, rr_ab, rr_no, gd_t, bc_t, bc_f, gd_tt, bc_tt, bc_ff, or_true, true_or, and_true, true_and, Nat.reduceAdd, hl_T_sF, hl_N_sF, hl_P_sF, hl_I_sF, hl_R_sF, hl_S_sF, hl_T_sP, hl_N_sP, hl_F_sP, hl_I_sP, hl_R_sP, hl_S_sP, hl_T_sI, hl_N_sI, hl_F_sI, hl_P_sI, hl_R_sI, hl_S_sI, hl_T_sR, hl_N_sR, hl_F_sR, hl_P_sR, hl_I_sR, hl_S_sR, hl_T_wI, hl_N_wI, hl_F_wI, hl_P_wI, hl_R_wI, hl_S_wI, hl_F_sF_s, hl_F_sF_n, hl_P_sP_s, hl_P_sP_n, hl_I_sI_s, hl_I_sI_n, hl_R_sR_s, hl_R_sR_n, hl_I_wI_s, hl_I_wI_n, mo_b_s hcond, mo_b_s hpre, mo_b_s e2, mo_b_s hdrop, pp19, pp3, a1, mo_b_s e3]
          · intro _; rw [t1]
          · rw [hd3, ← t1, hm, if_pos rfl] at g4; exact g4
          · simp only [List.length_append, List.length_cons, List.length_nil]; omega
          · simp only [fG_app, fG_one, List.length_append, List.length_drop, List.length_take]; omega
          · simp only [fC_app, fC_one, List.length_append, List.length_drop, List.length_take]; omega
          · rw [f3.2.2.2.2.2 26 (by omega), hl_F_sI, f26]
            simp only [fG_app, fG_one, List.length_append, List.length_drop, List.length_take]
            omega
          · intro k hk
            rw [f3.2.2.2.2.1 19 (by omega), hl_I_sI]
            by_cases hki : k = i
            · rw [if_pos ⟨rfl, by omega⟩, hki, t2]
            · rw [if_neg (by omega)]; exact hk2 k (by omega)
          · intro i' j' q1 q2 q3
            rw [f3.2.2.2.2.1 18 (by omega), hF3.2.2.2.2.1 18 (by omega)]
            exact hTb2 i' j' q1 q2 q3
          · exact (hF.tr f2 (a3 := 13) (b3 := 20) (c3 := 16) (d3 := 27) (by omega)).tr (hF3.tr f3 (a3 := 13) (b3 := 20) (c3 := 16) (d3 := 27) (by omega)) (by omega)
        · have hj : j < ys.length := by
            rcases hend with q | q
            · have : ¬ j = ys.length := fun z => hdr ⟨q, Or.inl z⟩
              omega
            · exact q
          have hdrop : mo_b (mo_lt (i : Int) (xs.length : Int) (mo_eq (j : Int) (ys.length : Int) (mo_p 1) (mo_b (op_gr 7 (some m) 24) fun t30 => mo_b (op_ld t30 ((15 * ((i : Int) + 1)) + (j : Int))) fun t31 => mo_b (op_gr 7 (some m) 24) fun t32 => mo_b (op_ld t32 ((15 * (i : Int)) + (j : Int))) fun t33 => mo_eq t31 t33 (mo_p 1) (mo_p 0))) (mo_p 0)) mo_p h2 = some ((0 : Int), h2) := by
            by_cases hi : i < xs.length
            · have v1 := hTb2 (i + 1) j (by omega) (by omega) (by omega)
              have v2 := hTb2 i j (by omega) (by omega) (by omega)
              rw [show ((i + 1 : Nat) : Int) = (i : Int) + 1 by omega] at v1
              have l1 := ml_le (xs.drop (i + 1)) (ys.drop j)
              have l2 := ml_le (xs.drop i) (ys.drop j)
              rw [List.length_drop] at l1 l2
              have hne : ¬ ml (xs.drop (i + 1)) (ys.drop j) = ml (xs.drop i) (ys.drop j) := fun q => hdr ⟨hi, Or.inr q⟩
              simp (disch := omega) only [rr_p, rr_bp, rr_bb, rr_0, rr_lt, rr_blt, rr_le, rr_ble, rr_eq, rr_beq, rr_nl_n, rr_nl_s, rr_bnl_n, rr_bnl_s, rr_cond_t, rr_cond_f, rr_bcond_t, rr_bcond_f, rr_bon, rr_bcv, rr_cv, rr_g, rr_gr, rr_si, rr_sz, rr_sr, rr_al, rr_ld, rr_st, rr_rl, rr_rs, rr_ni, rr_nr, rr_z, rr_div, rr_rem, rr_lc, rr_mx, rr_mn, rr_ab, rr_no, gd_t, bc_t, bc_f, gd_tt, bc_tt, bc_ff, or_true, true_or, and_true, true_and, Nat.reduceAdd, pp18, v1, v2]
            · simp (disch := omega) only [rr_p, rr_bp, rr_bb, rr_0, rr_lt, rr_blt, rr_le, rr_ble, rr_eq, rr_beq, rr_nl_n, rr_nl_s, rr_bnl_n, rr_bnl_s, rr_cond_t, rr_cond_f, rr_bcond_t, rr_bcond_f, rr_bon, rr_bcv, rr_cv, rr_g, rr_gr, rr_si, rr_sz, rr_sr, rr_al, rr_ld, rr_st, rr_rl, rr_rs, rr_ni, rr_nr, rr_z, rr_div, rr_rem, rr_lc, rr_mx, rr_mn, rr_ab, rr_no, gd_t, bc_t, bc_f, gd_tt, bc_tt, bc_ff, or_true, true_or, and_true, true_and, Nat.reduceAdd]
          rw [mo_bp] at hdrop
          have a2 := cy2 j hj
          obtain ⟨h3, e3, w3, f3⟩ := q7_comes hS2 w2 (v := ys.getD j 0) (by simp only [List.length_drop, List.length_take]; omega) (by omega)
          rw [← part_s hj g2] at w3
          refine ⟨(1, (i : Int), (j : Int) + 1), h3, ?_, ⟨1, i, j + 1, _, by simp, ⟨by omega, by omega, ?_, gf, cf, by omega, by omega, Or.inr ⟨rfl, by omega, acc', rfl, g4⟩⟩, w3, ?_, ?_, ?_, ?_, ?_, ?_, ?_⟩, by dsimp only; omega⟩
          · simp (disch := omega) only [X7_layDifference_L196, rr_p, rr_bp, rr_bb, rr_0, rr_lt, rr_blt, rr_le, rr_ble, rr_eq, rr_beq, rr_nl_n, rr_nl_s, rr_bnl_n, rr_bnl_s, rr_cond_t, rr_cond_f, rr_bcond_t, rr_bcond_f, rr_bon, rr_bcv, rr_cv, rr_g, rr_gr, rr_si, rr_sz, rr_sr, rr_al, rr_ld, rr_st, rr_rl, rr_rs, rr_ni, rr_nr, rr_z, rr_div, rr_rem, rr_lc, rr_mx, rr_mn, rr_ab, rr_no, gd_t, bc_t, bc_f, gd_tt, bc_tt, bc_ff, or_true, true_or, and_true, true_and, Nat.reduceAdd, hl_T_sF, hl_N_sF, hl_P_sF, hl_I_sF, hl_R_sF, hl_S_sF, hl_T_sP, hl_N_sP, hl_F_sP, hl_I_sP, hl_R_sP, hl_S_sP, hl_T_sI, hl_N_sI, hl_F_sI, hl_P_sI, hl_R_sI, hl_S_sI, hl_T_sR, hl_N_sR, hl_F_sR, hl_P_sR, hl_I_sR, hl_S_sR, hl_T_wI, hl_N_wI, hl_F_wI, hl_P_wI, hl_R_wI, hl_S_wI, hl_F_sF_s, hl_F_sF_n, hl_P_sP_s, hl_P_sP_n, hl_I_sI_s, hl_I_sI_n, hl_R_sR_s, hl_R_sR_n, hl_I_wI_s, hl_I_wI_n, mo_b_s hcond, mo_b_s hpre, mo_b_s e2, mo_b_s hdrop, pp3, a2, mo_b_s e3]
          · intro hi
            have hd3 := hd.2.2.1 hi
            have hne : ¬ xs.getD i 0 = ys.getD j 0 := fun q => hb ⟨hi, hj, q⟩
            have hml : ¬ ml (xs.drop (i + 1)) (ys.drop j) = ml (xs.drop i) (ys.drop j) := fun q => hdr ⟨hi, Or.inr q⟩
            rw [hd3]
            rw [drop_c hi, drop_c hj, trc, if_neg hne, ← drop_c hi, ← drop_c hj, if_neg hml]; rfl
          · simp only [List.length_append, List.length_cons, List.length_nil]; omega
          · simp only [fG_app, fG_one, List.length_append, List.length_drop, List.length_take]; omega
          · simp only [fC_app, fC_one, List.length_append, List.length_drop, List.length_take]; omega
          · rw [f3.2.2.2.2.2 26 (by omega), f26]
            simp only [fG_app, fG_one, List.length_append, List.length_drop, List.length_take]
            omega
          · intro k hk
            rw [f3.2.2.2.2.1 19 (by omega)]; exact hk2 k hk
          · intro i' j' q1 q2 q3
            rw [f3.2.2.2.2.1 18 (by omega)]
            exact hTb2 i' j' q1 q2 q3
          · exact (hF.tr f2 (a3 := 13) (b3 := 20) (c3 := 16) (d3 := 27) (by omega)).tr f3 (by omega)
    · right
      have hie : i = xs.length := by omega
      have hje : j = ys.length := by omega
      subst hie; subst hje
      have := dSt_end hd
      subst this
      exact ⟨(), h', by simp (disch := omega) only [X7_layDifference_L196, rr_p, rr_bp, rr_bb, rr_0, rr_lt, rr_blt, rr_le, rr_ble, rr_eq, rr_beq, rr_nl_n, rr_nl_s, rr_bnl_n, rr_bnl_s, rr_cond_t, rr_cond_f, rr_bcond_t, rr_bcond_f, rr_bon, rr_bcv, rr_cv, rr_g, rr_gr, rr_si, rr_sz, rr_sr, rr_al, rr_ld, rr_st, rr_rl, rr_rs, rr_ni, rr_nr, rr_z, rr_div, rr_rem, rr_lc, rr_mx, rr_mn, rr_ab, rr_no, gd_t, bc_t, bc_f, gd_tt, bc_tt, bc_ff, or_true, true_or, and_true, true_and, Nat.reduceAdd], hW', hk', b4, hF⟩
theorem q7_layDifference {h : AH} {m : Nat} {u v : Int} {xs ys : List Int} (hR : mRows h m u v xs ys) (hx : pL xs) (hy : pL ys) (lx : xs.length ≤ 14) (ly : ys.length ≤ 14) : ∃ h', X7_layDifference m u v h = some ((), h') ∧ mW h' m (dW xs ys) ∧ (∀ k : Nat, k < xs.length → ah_I h' (m + 19) (k : Int) = (trc xs ys 0).getD k 0) ∧ ah_F h' m 26 + ((fG (dW xs ys)).length : Int) = (xs.length : Int) ∧ MF m 13 20 16 27 h h' := by
  obtain ⟨h1, e1, t1, f1⟩ := q7_diff_tab hR hx hy lx ly
  obtain ⟨h2, e2, w2, f2⟩ := q7_newWork (mS_fr hR.1 f1)
  have f3 : MF m 13 13 26 27 h2 (ah_sF h2 m 26 0) := MF.sF (by omega) (by omega)
  have hR3 := mRows_fr (mRows_fr (mRows_fr hR f1 (by omega)) f2 (by omega)) f3 (by omega)
  obtain ⟨h4, e4, w4, k4, s4, f4⟩ := q7_diff_walk hR3 hx hy lx ly (by intro i' j' q1 q2 q3; rw [f3.2.2.2.2.1 18 (by omega), f2.2.2.2.2.1 18 (by omega)]; exact t1 i' j' q1 q2 q3) (mW_fr w2 f3 (by omega)) hl_F_sF_s
  obtain ⟨hS, ⟨u0, u1, v0, v1⟩, ⟨lu, lv⟩, cx, cy⟩ := hR
  have mT := hS.1
  obtain ⟨p2, t2, n2⟩ := ms2 hS
  have mT1 : ah_T h1 m = 17 := by rw [f1.1]; exact mT
  have mT2 : ah_T h2 m = 17 := by rw [f2.1]; exact mT1
  refine ⟨h4, ?_, w4, k4, s4, ((f1.tr f2 (a3 := 13) (b3 := 20) (c3 := 16) (d3 := 27) (by omega)).tr f3 (a3 := 13) (b3 := 20) (c3 := 16) (d3 := 27) (by omega)).tr f4 (by omega)⟩
  simp (disch := omega) only [X7_layDifference, rr_p, rr_bp, rr_bb, rr_0, rr_lt, rr_blt, rr_le, rr_ble, rr_eq, rr_beq, rr_nl_n, rr_nl_s, rr_bnl_n, rr_bnl_s, rr_cond_t, rr_cond_f, rr_bcond_t, rr_bcond_f, rr_bon, rr_bcv, rr_cv, rr_g, rr_gr, rr_si, rr_sz, rr_sr, rr_al, rr_ld, rr_st, rr_rl, rr_rs, rr_ni, rr_nr, rr_z, rr_div, rr_rem, rr_lc, rr_mx, rr_mn, rr_ab, rr_no, gd_t, bc_t, bc_f, gd_tt, bc_tt, bc_ff, or_true, true_or, and_true, true_and, Nat.reduceAdd, p2, lu, lv, mo_b_s e1, mo_b_s e2, mo_b_s e4]
