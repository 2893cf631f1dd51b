/-- the hunk between kept lines, if there is one -/
def hmo (xs ys : List Int) (gf cf i n : Nat) : List HK := if gf < i ∨ cf < n then [((gf : Int), (xs.take i).drop gf, (ys.take n).drop cf)] else []
/-- the hunks out of the mates -/
def hm (xs ys : List Int) : List Int → Nat → Nat → Nat → List HK
  | [], i, gf, cf => hmo xs ys gf cf i ys.length
  | m :: ms, i, gf, cf => if m = -1 then hm xs ys ms (i + 1) gf cf else hmo xs ys gf cf i m.toNat ++ hm xs ys ms (i + 1) (i + 1) (m.toNat + 1)
def dW (xs ys : List Int) : List HK := hm xs ys (trc xs ys 0) 0 0 0
theorem hmo_len (xs ys : List Int) (gf cf i n : Nat) : (hmo xs ys gf cf i n).length ≤ 1 := by unfold hmo; split <;> simp
theorem hmo_fG (xs ys : List Int) (gf cf i n : Nat) : (fG (hmo xs ys gf cf i n)).length ≤ i - gf := by unfold hmo; split <;> simp [fG] <;> omega
theorem hmo_fC (xs ys : List Int) (gf cf i n : Nat) : (fC (hmo xs ys gf cf i n)).length ≤ n - cf := by unfold hmo; split <;> simp [fC] <;> omega
theorem hmo_3 (xs ys : List Int) (gf cf i n : Nat) (h1 : gf ≤ i) (h2 : cf ≤ n) : 3 * (hmo xs ys gf cf i n).length + gf + cf ≤ i + n + 2 := by unfold hmo; split <;> simp <;> omega
theorem q1_wh_body {h : AH} {d bx by_ a ml : Nat} {xs ys : List Int} {acc : List HK} (hD : kDs h d) (hX : kR h bx xs) (hY : kR h by_ ys) (hP : kP h a 10 ml acc) (hax : a + 6 ≤ bx ∨ bx + 2 ≤ a) (hay : a + 6 ≤ by_ ∨ by_ + 2 ≤ a) (lx : xs.length ≤ 14) (ly : ys.length ≤ 14) (hml : 14 ≤ ml) {gf cf i n : Nat} (hgf : gf ≤ i) (hi : i ≤ xs.length) (hcf : cf ≤ n) (hn : n ≤ ys.length) (hc : (i < xs.length ∧ ah_I h (d + 2) (i : Int) = (n : Int)) ∨ (i = xs.length ∧ n = ys.length)) (b1 : 3 * acc.length ≤ gf + cf) (b2 : (fG acc).length ≤ gf) (b3 : (fC acc).length ≤ cf) : ∃ h', X1_writeHunks_L13 d (some bx) (some by_) (some a) ((gf : Int), (cf : Int), (i : Int)) h = some (.inl ((i : Int) + 1, (n : Int) + 1, (i : Int) + 1), h') ∧ kP h' a 10 ml (acc ++ hmo xs ys gf cf i n) ∧ FRM h h' a (a + 6) := by
  have td := hD.1
  have tx := hX.1
  have ty := hY.1
  have ta := hP.1.1.1
  have ex := q4_size hX
  have ey := q4_size hY
  have hnx : (mo_lt (i : Int) (xs.length : Int) (mo_b (mo_cv 1 (some d) (fun b8 => X1_mate b8 (i : Int))) fun t8 => mo_p t8) (mo_b (mo_cv 4 (some by_) (fun b6 => X4_size b6)) fun t6 => mo_p t6)) h = some ((n : Int), h) := by
    rcases hc with ⟨h1, h2⟩ | ⟨h1, h2⟩
    · have em := q1_mate hD (i := (i : Int)) (by omega)
      rw [h2] at em
      simp (disch := omega) only [rr_p, rr_bp, rr_bb, rr_0, rr_lt, rr_blt, rr_le, rr_ble, rr_eq, rr_beq, rr_nl_n, rr_nl_s, rr_bnl_n, rr_bnl_s, rr_cond_t, rr_cond_f, rr_bcond_t, rr_bcond_f, rr_bon, rr_bcv, rr_cv, rr_g, rr_gr, rr_si, rr_sz, rr_sr, rr_al, rr_ld, rr_st, rr_rl, rr_rs, rr_ni, rr_nr, rr_z, rr_div, rr_rem, rr_lc, rr_mx, rr_mn, rr_ab, rr_no, gd_t, bc_t, bc_f, gd_tt, bc_tt, bc_ff, or_true, true_or, and_true, true_and, Nat.reduceAdd, mo_b_s em]
    · subst h2
      simp (disch := omega) only [rr_p, rr_bp, rr_bb, rr_0, rr_lt, rr_blt, rr_le, rr_ble, rr_eq, rr_beq, rr_nl_n, rr_nl_s, rr_bnl_n, rr_bnl_s, rr_cond_t, rr_cond_f, rr_bcond_t, rr_bcond_f, rr_bon, rr_bcv, rr_cv, rr_g, rr_gr, rr_si, rr_sz, rr_sr, rr_al, rr_ld, rr_st, rr_rl, rr_rs, rr_ni, rr_nr, rr_z, rr_div, rr_rem, rr_lc, rr_mx, rr_mn, rr_ab, rr_no, gd_t, bc_t, bc_f, gd_tt, bc_tt, bc_ff, or_true, true_or, and_true, true_and, Nat.reduceAdd, mo_b_s ey]
  by_cases hh : gf < i ∨ cf < n
  · obtain ⟨h1, e1, r1, f1⟩ := q3_begin hP (p := (gf : Int)) (by omega)
    have hX1 := kR_fr hX f1 (by omega)
    obtain ⟨h2, e2, r2, f2⟩ := q3_addGoingPart r1 hX1 hax (i := (gf : Int)) (e := (i : Int)) (by omega) (by omega) (by omega) (by simp only [List.length_nil]; omega)
    have hY2 := kR_fr (kR_fr hY f1 (by omega)) f2 (by omega)
    obtain ⟨h3, e3, r3, f3⟩ := q3_addComingPart r2 hY2 hay (i := (cf : Int)) (e := (n : Int)) (by omega) (by omega) (by omega) (by simp only [List.length_nil]; omega)
    have t1 := r1.1.1.1
    have t2 := r2.1.1.1
    refine ⟨h3, ?_, ?_, (f1.tr f2 (Nat.le_refl _) (Nat.le_refl _) (Nat.le_refl _) (Nat.le_refl _)).tr f3 (Nat.le_refl _) (Nat.le_refl _) (Nat.le_refl _) (Nat.le_refl _)⟩
    · by_cases h4 : gf < i
      · simp (disch := omega) only [X1_writeHunks_L13, rr_p, rr_bp, rr_bb, rr_0, rr_lt, rr_blt, rr_le, rr_ble, rr_eq, rr_beq, rr_nl_n, rr_nl_s, rr_bnl_n, rr_bnl_s, rr_cond_t, rr_cond_f, rr_bcond_t, rr_bcond_f, rr_bon, rr_bcv, rr_cv, rr_g, rr_gr, rr_si, rr_sz, rr_sr, rr_al, rr_ld, rr_st, rr_rl, rr_rs, rr_ni, rr_nr, rr_z, rr_div, rr_rem, rr_lc, rr_mx, rr_mn, rr_ab, rr_no, gd_t, bc_t, bc_f, gd_tt, bc_tt, bc_ff, or_true, true_or, and_true, true_and, Nat.reduceAdd, mo_b_s ex, mo_b_s hnx, mo_b_s e1, mo_b_s e2, mo_b_s e3]
      · simp (disch := omega) only [X1_writeHunks_L13, rr_p, rr_bp, rr_bb, rr_0, rr_lt, rr_blt, rr_le, rr_ble, rr_eq, rr_beq, rr_nl_n, rr_nl_s, rr_bnl_n, rr_bnl_s, rr_cond_t, rr_cond_f, rr_bcond_t, rr_bcond_f, rr_bon, rr_bcv, rr_cv, rr_g, rr_gr, rr_si, rr_sz, rr_sr, rr_al, rr_ld, rr_st, rr_rl, rr_rs, rr_ni, rr_nr, rr_z, rr_div, rr_rem, rr_lc, rr_mx, rr_mn, rr_ab, rr_no, gd_t, bc_t, bc_f, gd_tt, bc_tt, bc_ff, or_true, true_or, and_true, true_and, Nat.reduceAdd, mo_b_s ex, mo_b_s hnx, mo_b_s e1, mo_b_s e2, mo_b_s e3]
    · unfold hmo; rw [if_pos hh]
      simpa using r3
  · refine ⟨h, ?_, ?_, FRM.rf⟩
    · simp (disch := omega) only [X1_writeHunks_L13, rr_p, rr_bp, rr_bb, rr_0, rr_lt, rr_blt, rr_le, rr_ble, rr_eq, rr_beq, rr_nl_n, rr_nl_s, rr_bnl_n, rr_bnl_s, rr_cond_t, rr_cond_f, rr_bcond_t, rr_bcond_f, rr_bon, rr_bcv, rr_cv, rr_g, rr_gr, rr_si, rr_sz, rr_sr, rr_al, rr_ld, rr_st, rr_rl, rr_rs, rr_ni, rr_nr, rr_z, rr_div, rr_rem, rr_lc, rr_mx, rr_mn, rr_ab, rr_no, gd_t, bc_t, bc_f, gd_tt, bc_tt, bc_ff, or_true, true_or, and_true, true_and, Nat.reduceAdd, mo_b_s ex, mo_b_s hnx]
    · unfold hmo; rw [if_neg hh, List.append_nil]; exact hP
theorem q1_writeHunks {h : AH} {d bx by_ a ml : Nat} {xs ys : List Int} {W : List HK} (hD : kDs h d) (hX : kR h bx xs) (hY : kR h by_ ys) (hP : kP h a 10 ml W) (hax : a + 6 ≤ bx ∨ bx + 2 ≤ a) (hay : a + 6 ≤ by_ ∨ by_ + 2 ≤ a) (had : a + 6 ≤ d ∨ d + 3 ≤ a) (lx : xs.length ≤ 14) (ly : ys.length ≤ 14) (hml : 14 ≤ ml) (hm_ : ∀ k : Nat, k < xs.length → ah_I h (d + 2) (k : Int) = (trc xs ys 0).getD k 0) : ∃ h', X1_writeHunks d (some bx) (some by_) (some a) h = some ((), h') ∧ kP h' a 10 ml (dW xs ys) ∧ FRM h h' a (a + 6) := by
  obtain ⟨h0, e0, r0, f0⟩ := q3_clear hP
  have ta := hP.1.1.1
  have hL := lp_inv (F := X1_writeHunks_L13 d (some bx) (some by_) (some a)) (fun s h' => FRM h h' a (a + 6) ∧ ((∃ (gf cf i j : Nat) (acc : List HK), s = ((gf : Int), (cf : Int), (i : Int)) ∧ gf ≤ i ∧ i ≤ xs.length ∧ cf ≤ j ∧ j ≤ ys.length ∧ kP h' a 10 ml acc ∧ 3 * acc.length ≤ gf + cf ∧ (fG acc).length ≤ gf ∧ (fC acc).length ≤ cf ∧ (trc xs ys 0).drop i = trc (xs.drop i) (ys.drop j) (j : Int) ∧ acc ++ hm xs ys ((trc xs ys 0).drop i) i gf cf = dW xs ys) ∨ (s.2.2 = (xs.length : Int) + 1 ∧ kP h' a 10 ml (dW xs ys)))) (fun s => (20 - s.2.2).toNat) (fun _ h' => kP h' a 10 ml (dW xs ys) ∧ FRM h h' a (a + 6)) ?_ mo_N (0, 0, 0) h0 ⟨f0, Or.inl ⟨0, 0, 0, 0, [], rfl, by omega, by omega, by omega, by omega, r0, by simp, by simp [fG], by simp [fC], rfl, rfl⟩⟩ (by rw [mo_N_v]; show (20 - (0 : Int)).toNat < 200000; omega)
  · obtain ⟨_, h', e, q⟩ := hL
    exact ⟨h', by simp (disch := omega) only [X1_writeHunks, rr_p, rr_bp, rr_bb, rr_0, rr_lt, rr_blt, rr_le, rr_ble, rr_eq, rr_beq, rr_nl_n, rr_nl_s, rr_bnl_n, rr_bnl_s, rr_cond_t, rr_cond_f, rr_bcond_t, rr_bcond_f, rr_bon, rr_bcv, rr_cv, rr_g, rr_gr, rr_si, rr_sz, rr_sr, rr_al, rr_ld, rr_st, rr_rl, rr_rs, rr_ni, rr_nr, rr_z, rr_div, rr_rem, rr_lc, rr_mx, rr_mn, rr_ab, rr_no, gd_t, bc_t, bc_f, gd_tt, bc_tt, bc_ff, or_true, true_or, and_true, true_and, Nat.reduceAdd, mo_b_s e0, mo_b_s e], q⟩
  · rintro s h' ⟨hF, ⟨gf, cf, i, j, acc, rfl, i1, i2, j1, j2, hP', b1, b2, b3, hd, hW⟩ | ⟨hs, hP'⟩⟩
    · left
      have hD' := kDs_fr hD hF
      have hX' := kR_fr hX hF (by omega)
      have hY' := kR_fr hY hF (by omega)
      have hI : ah_I h' (d + 2) = ah_I h (d + 2) := hF.2.2.2.2.2.2 (d + 2) (by omega)
      by_cases hi : i < xs.length
      · have hmi := hm_ i hi
        rw [← hI] at hmi
        obtain ⟨j3, q1, q2, q3 | ⟨q3, q4, q5⟩⟩ := trc_step (xs := xs) (ys := ys) hi (ys.length - j) j (by omega)
        · rw [q3] at hd
          have hg : (trc xs ys 0).getD i 0 = -1 := by
            have := congrArg (fun l => l.getD 0 0) hd
            simpa [getD_drop] using this
          have hd2 : (trc xs ys 0).drop (i + 1) = trc (xs.drop (i + 1)) (ys.drop j3) (j3 : Int) := by
            have := congrArg (fun l => l.drop 1) hd
            simp only [List.drop_drop, List.drop_one, List.tail_cons] at this
            simpa [Nat.add_comm] using this
          rw [hg] at hmi
          have em := q1_mate hD' (i := (i : Int)) (by omega)
          rw [hmi] at em
          have td := hD'.1
          have tx := hX'.1
          have ex := q4_size hX'
          refine ⟨((gf : Int), (cf : Int), (i : Int) + 1), h', by simp (disch := omega) only [X1_writeHunks_L13, rr_p, rr_bp, rr_bb, rr_0, rr_lt, rr_blt, rr_le, rr_ble, rr_eq, rr_beq, rr_nl_n, rr_nl_s, rr_bnl_n, rr_bnl_s, rr_cond_t, rr_cond_f, rr_bcond_t, rr_bcond_f, rr_bon, rr_bcv, rr_cv, rr_g, rr_gr, rr_si, rr_sz, rr_sr, rr_al, rr_ld, rr_st, rr_rl, rr_rs, rr_ni, rr_nr, rr_z, rr_div, rr_rem, rr_lc, rr_mx, rr_mn, rr_ab, rr_no, gd_t, bc_t, bc_f, gd_tt, bc_tt, bc_ff, or_true, true_or, and_true, true_and, Nat.reduceAdd, mo_b_s ex, mo_b_s em], ⟨hF, Or.inl ⟨gf, cf, i + 1, j3, acc, by simp, by omega, by omega, by omega, q2, hP', b1, b2, b3, hd2, ?_⟩⟩, by dsimp only; omega⟩
          rw [hd, ← hd2, hm, if_pos rfl] at hW
          exact hW
        · rw [q5] at hd
          have hg : (trc xs ys 0).getD i 0 = (j3 : Int) := by
            have := congrArg (fun l => l.getD 0 0) hd
            simpa [getD_drop] using this
          have hd2 : (trc xs ys 0).drop (i + 1) = trc (xs.drop (i + 1)) (ys.drop (j3 + 1)) ((j3 + 1 : Nat) : Int) := by
            have := congrArg (fun l => l.drop 1) hd
            simp only [List.drop_drop, List.drop_one, List.tail_cons] at this
            simpa [Nat.add_comm] using this
          rw [hg] at hmi
          obtain ⟨h2, e2, r2, f2⟩ := q1_wh_body hD' hX' hY' hP' hax hay lx ly hml (gf := gf) (cf := cf) (i := i) (n := j3) i1 i2 (by omega) q2 (Or.inl ⟨hi, hmi⟩) b1 b2 b3
          have c1 := hmo_3 xs ys gf cf i j3 i1 (by omega)
          have c2 := hmo_fG xs ys gf cf i j3
          have c3 := hmo_fC xs ys gf cf i j3
          refine ⟨((i : Int) + 1, (j3 : Int) + 1, (i : Int) + 1), h2, e2, ⟨hF.tr f2 (Nat.le_refl _) (Nat.le_refl _) (Nat.le_refl _) (Nat.le_refl _), Or.inl ⟨i + 1, j3 + 1, i + 1, j3 + 1, _, by simp, by omega, by omega, by omega, by omega, r2, by rw [List.length_append]; omega, by rw [fG_app, List.length_append]; omega, by rw [fC_app, List.length_append]; omega, hd2, ?_⟩⟩, by dsimp only; omega⟩
          rw [hd, ← hd2, hm, if_neg (by omega), Int.toNat_natCast, ← List.append_assoc] at hW
          exact hW
      · have hie : i = xs.length := by omega
        obtain ⟨h2, e2, r2, f2⟩ := q1_wh_body hD' hX' hY' hP' hax hay lx ly hml (gf := gf) (cf := cf) (i := i) (n := ys.length) i1 i2 (by omega) (Nat.le_refl _) (Or.inr ⟨hie, rfl⟩) b1 b2 b3
        refine ⟨_, h2, e2, ⟨hF.tr f2 (Nat.le_refl _) (Nat.le_refl _) (Nat.le_refl _) (Nat.le_refl _), Or.inr ⟨by dsimp only; omega, ?_⟩⟩, by dsimp only; omega⟩
        rw [List.drop_eq_nil_of_le (by rw [trc_len]; omega), hm] at hW
        rw [hW] at r2; exact r2
    · right
      obtain ⟨y1, y2, y3⟩ := s
      dsimp only at hs
      subst hs
      have hX' := kR_fr hX hF (by omega)
      have tx := hX'.1
      have ex := q4_size hX'
      exact ⟨(), h', by simp (disch := omega) only [X1_writeHunks_L13, rr_p, rr_bp, rr_bb, rr_0, rr_lt, rr_blt, rr_le, rr_ble, rr_eq, rr_beq, rr_nl_n, rr_nl_s, rr_bnl_n, rr_bnl_s, rr_cond_t, rr_cond_f, rr_bcond_t, rr_bcond_f, rr_bon, rr_bcv, rr_cv, rr_g, rr_gr, rr_si, rr_sz, rr_sr, rr_al, rr_ld, rr_st, rr_rl, rr_rs, rr_ni, rr_nr, rr_z, rr_div, rr_rem, rr_lc, rr_mx, rr_mn, rr_ab, rr_no, gd_t, bc_t, bc_f, gd_tt, bc_tt, bc_ff, or_true, true_or, and_true, true_and, Nat.reduceAdd, mo_b_s ex], hP', hF⟩
