def kR (h : AH) (a : Nat) (xs : List Int) : Prop := ah_T h a = 14 ∧ ah_P h a 0 = some (a + 1) ∧ ah_T h (a + 1) = 1 ∧ ah_F h a 1 = (xs.length : Int) ∧ (xs.length : Int) ≤ (ah_N h (a + 1) : Int) ∧ (ah_N h (a + 1) : Int) ≤ 64 ∧ ∀ j : Nat, j < xs.length → ah_I h (a + 1) (j : Int) = xs.getD j 0
theorem kR_at {h : AH} {a : Nat} {xs : List Int} (hR : kR h a xs) {i : Int} (h0 : 0 ≤ i) (h1 : i < xs.length) : ah_I h (a + 1) i = xs.getD i.toNat 0 := by
  have := hR.2.2.2.2.2.2 i.toNat (by omega)
  rwa [Int.toNat_of_nonneg h0] at this
theorem q4_size {h : AH} {a : Nat} {xs : List Int} (hR : kR h a xs) : X4_size a h = some ((xs.length : Int), h) := by
  obtain ⟨t0, p0, t1, f1, n1, n2, c⟩ := hR
  simp (disch := omega) only [X4_size, rr_p, rr_bp, rr_bb, rr_0, rr_lt, rr_blt, rr_le, rr_ble, rr_eq, rr_beq, rr_nl_n, rr_nl_s, rr_bnl_n, rr_bnl_s, rr_cond_t, rr_cond_f, rr_bcond_t, rr_bcond_f, rr_bon, rr_bcv, rr_cv, rr_g, rr_gr, rr_si, rr_sz, rr_sr, rr_al, rr_ld, rr_st, rr_rl, rr_rs, rr_ni, rr_nr, rr_z, rr_div, rr_rem, rr_lc, rr_mx, rr_mn, rr_ab, rr_no, gd_t, bc_t, bc_f, gd_tt, bc_tt, bc_ff, or_true, true_or, and_true, true_and, Nat.reduceAdd, f1]
theorem q4_room {h : AH} {a : Nat} {xs : List Int} (hR : kR h a xs) : X4_room a h = some ((xs.length : Int) + 1, h) := by
  obtain ⟨t0, p0, t1, f1, n1, n2, c⟩ := hR
  simp (disch := omega) only [X4_room, rr_p, rr_bp, rr_bb, rr_0, rr_lt, rr_blt, rr_le, rr_ble, rr_eq, rr_beq, rr_nl_n, rr_nl_s, rr_bnl_n, rr_bnl_s, rr_cond_t, rr_cond_f, rr_bcond_t, rr_bcond_f, rr_bon, rr_bcv, rr_cv, rr_g, rr_gr, rr_si, rr_sz, rr_sr, rr_al, rr_ld, rr_st, rr_rl, rr_rs, rr_ni, rr_nr, rr_z, rr_div, rr_rem, rr_lc, rr_mx, rr_mn, rr_ab, rr_no, gd_t, bc_t, bc_f, gd_tt, bc_tt, bc_ff, or_true, true_or, and_true, true_and, Nat.reduceAdd, f1]
theorem q4_at {h : AH} {a : Nat} {xs : List Int} (hR : kR h a xs) {i : Int} (hi : -2147483648 ≤ i ∧ i ≤ 2147483647) : X4_at a i h = some (if 0 ≤ i ∧ i < xs.length then xs.getD i.toNat 0 else -1, h) := by
  have hc := @kR_at h a xs hR i
  obtain ⟨t0, p0, t1, f1, n1, n2, c⟩ := hR
  by_cases h0 : i < 0
  · rw [if_neg (by omega)]
    simp (disch := omega) only [X4_at, rr_p, rr_bp, rr_bb, rr_0, rr_lt, rr_blt, rr_le, rr_ble, rr_eq, rr_beq, rr_nl_n, rr_nl_s, rr_bnl_n, rr_bnl_s, rr_cond_t, rr_cond_f, rr_bcond_t, rr_bcond_f, rr_bon, rr_bcv, rr_cv, rr_g, rr_gr, rr_si, rr_sz, rr_sr, rr_al, rr_ld, rr_st, rr_rl, rr_rs, rr_ni, rr_nr, rr_z, rr_div, rr_rem, rr_lc, rr_mx, rr_mn, rr_ab, rr_no, gd_t, bc_t, bc_f, gd_tt, bc_tt, bc_ff, or_true, true_or, and_true, true_and, Nat.reduceAdd, f1, p0]
  · by_cases h1 : i < xs.length
    · rw [if_pos (by omega), ← hc (by omega) h1]
      simp (disch := omega) only [X4_at, rr_p, rr_bp, rr_bb, rr_0, rr_lt, rr_blt, rr_le, rr_ble, rr_eq, rr_beq, rr_nl_n, rr_nl_s, rr_bnl_n, rr_bnl_s, rr_cond_t, rr_cond_f, rr_bcond_t, rr_bcond_f, rr_bon, rr_bcv, rr_cv, rr_g, rr_gr, rr_si, rr_sz, rr_sr, rr_al, rr_ld, rr_st, rr_rl, rr_rs, rr_ni, rr_nr, rr_z, rr_div, rr_rem, rr_lc, rr_mx, rr_mn, rr_ab, rr_no, gd_t, bc_t, bc_f, gd_tt, bc_tt, bc_ff, or_true, true_or, and_true, true_and, Nat.reduceAdd, f1, p0]
    · rw [if_neg (by omega)]
      simp (disch := omega) only [X4_at, rr_p, rr_bp, rr_bb, rr_0, rr_lt, rr_blt, rr_le, rr_ble, rr_eq, rr_beq, rr_nl_n, rr_nl_s, rr_bnl_n, rr_bnl_s, rr_cond_t, rr_cond_f, rr_bcond_t, rr_bcond_f, rr_bon, rr_bcv, rr_cv, rr_g, rr_gr, rr_si, rr_sz, rr_sr, rr_al, rr_ld, rr_st, rr_rl, rr_rs, rr_ni, rr_nr, rr_z, rr_div, rr_rem, rr_lc, rr_mx, rr_mn, rr_ab, rr_no, gd_t, bc_t, bc_f, gd_tt, bc_tt, bc_ff, or_true, true_or, and_true, true_and, Nat.reduceAdd, f1, p0]
theorem kR_fr {h h' : AH} {a lo hi : Nat} {xs : List Int} (hR : kR h a xs) (f : FRM h h' lo hi) (hd : a + 2 ≤ lo ∨ hi ≤ a) : kR h' a xs := by
  obtain ⟨t0, p0, t1, f1, n1, n2, c⟩ := hR
  obtain ⟨e1, e2, e3, e4, e5, e6, e7⟩ := f
  refine ⟨by rw [e1]; exact t0, by rw [e3]; exact p0, by rw [e1]; exact t1, by rw [e6 a (by omega)]; exact f1, by rw [e2]; exact n1, by rw [e2]; exact n2, fun j hj => by rw [e7 (a + 1) (by omega)]; exact c j hj⟩
/-- the row a becomes ys -/
theorem kR_new {h : AH} {a : Nat} {xs ys : List Int} {f : Int → Int} (hR : kR h a xs) (hn : (ys.length : Int) ≤ ah_N h (a + 1)) (hc : ∀ j : Nat, j < ys.length → f (j : Int) = ys.getD j 0) : kR (ah_sF (ah_wI h (a + 1) f) a 1 (ys.length : Int)) a ys := by
  obtain ⟨t0, p0, t1, f1, n1, n2, c⟩ := hR
  refine ⟨t0, p0, t1, hl_F_sF_s, hn, n2, fun j hj => ?_⟩
  rw [hl_I_sF, hl_I_wI_s]
  exact hc j hj
theorem kR_newF {h : AH} {a : Nat} {n : Int} {f : Int → Int} : FRM h (ah_sF (ah_wI h (a + 1) f) a 1 n) a (a + 2) :=
  FRM.tr (FRM.wI (Nat.le_succ a) (Nat.lt_succ_self _)) (FRM.sF (Nat.le_refl a) (by omega)) (Nat.le_refl _) (Nat.le_refl _) (Nat.le_refl _) (Nat.le_refl _)
def lins (xs : List Int) (i : Int) (v : Int) : List Int := xs.take i.toNat ++ v :: xs.drop i.toNat
def ldel (xs : List Int) (i : Int) : List Int := xs.take i.toNat ++ xs.drop (i.toNat + 1)
theorem lins_len {xs : List Int} {i v : Int} (h0 : 0 ≤ i) (h1 : i ≤ xs.length) : (lins xs i v).length = xs.length + 1 := by simp [lins]; omega
theorem ldel_len {xs : List Int} {i : Int} (h0 : 0 ≤ i) (h1 : i < xs.length) : (ldel xs i).length + 1 = xs.length := by simp [ldel]; omega
theorem lins_at {xs : List Int} {i v : Int} (h0 : 0 ≤ i) (h1 : i ≤ xs.length) (j : Nat) : (lins xs i v).getD j 0 = if (j : Int) < i then xs.getD j 0 else if (j : Int) = i then v else xs.getD (j - 1) 0 := by
  have hl : (xs.take i.toNat).length = i.toNat := by rw [List.length_take]; omega
  unfold lins
  simp only [List.getD_eq_getElem?_getD]
  by_cases hj : (j : Int) < i
  · rw [if_pos hj, List.getElem?_append_left (by omega), List.getElem?_take_of_lt (by omega)]
  · rw [if_neg hj, List.getElem?_append_right (by omega), hl]
    by_cases hj2 : (j : Int) = i
    · rw [if_pos hj2, show j - i.toNat = 0 by omega]; rfl
    · rw [if_neg hj2, show j - i.toNat = (j - i.toNat - 1) + 1 by omega, List.getElem?_cons_succ, List.getElem?_drop]
      congr 2; omega
theorem ldel_at {xs : List Int} {i : Int} (h0 : 0 ≤ i) (h1 : i < xs.length) (j : Nat) : (ldel xs i).getD j 0 = if (j : Int) < i then xs.getD j 0 else xs.getD (j + 1) 0 := by
  have hl : (xs.take i.toNat).length = i.toNat := by rw [List.length_take]; omega
  unfold ldel
  simp only [List.getD_eq_getElem?_getD]
  by_cases hj : (j : Int) < i
  · rw [if_pos hj, List.getElem?_append_left (by omega), List.getElem?_take_of_lt (by omega)]
  · rw [if_neg hj, List.getElem?_append_right (by omega), hl, List.getElem?_drop]
    congr 2; omega
theorem q4_clear {h : AH} {a : Nat} {xs : List Int} (hR : kR h a xs) : ∃ h', X4_clear a h = some ((), h') ∧ kR h' a [] ∧ FRM h h' a (a + 2) := by
  have hn := @kR_new h a xs [] (ah_I h (a + 1)) hR (by simp) (fun j hj => absurd hj (by simp))
  have hF := @kR_newF h a 0 (ah_I h (a + 1))
  rw [hl_wI_id] at hn hF
  have hn : kR (ah_sF h a 1 0) a [] := hn
  obtain ⟨t0, p0, t1, f1, n1, n2, c⟩ := hR
  exact ⟨_, by simp (disch := omega) only [X4_clear, rr_p, rr_bp, rr_bb, rr_0, rr_lt, rr_blt, rr_le, rr_ble, rr_eq, rr_beq, rr_nl_n, rr_nl_s, rr_bnl_n, rr_bnl_s, rr_cond_t, rr_cond_f, rr_bcond_t, rr_bcond_f, rr_bon, rr_bcv, rr_cv, rr_g, rr_gr, rr_si, rr_sz, rr_sr, rr_al, rr_ld, rr_st, rr_rl, rr_rs, rr_ni, rr_nr, rr_z, rr_div, rr_rem, rr_lc, rr_mx, rr_mn, rr_ab, rr_no, gd_t, bc_t, bc_f, gd_tt, bc_tt, bc_ff, or_true, true_or, and_true, true_and, Nat.reduceAdd, f1, p0], hn, hF⟩
theorem q4_insert {h : AH} {a : Nat} {xs : List Int} (hR : kR h a xs) {i v : Int} (h0 : 0 ≤ i) (h1 : i ≤ xs.length) (h2 : (xs.length : Int) < ah_N h (a + 1)) : ∃ h', X4_insert a i v h = some ((), h') ∧ kR h' a (lins xs i v) ∧ FRM h h' a (a + 2) := by
  have hlen := @lins_len xs i v h0 h1
  have hat := @lins_at xs i v h0 h1
  have hR0 := hR
  obtain ⟨t0, p0, t1, f1, n1, n2, c⟩ := hR
  let g : Nat → Int → Int := fun j x => if (xs.length : Int) - j < x ∧ x ≤ xs.length then ah_I h (a + 1) (x - 1) else ah_I h (a + 1) x
  have hL : mo_lp mo_N (X4_insert_L30 a i) (xs.length : Int) h = some ((), ah_wI h (a + 1) (g (xs.length - i.toNat))) := by
    have hs := lp_seq (F := X4_insert_L30 a i) (fun j : Nat => (xs.length : Int) - j) (fun j => ah_wI h (a + 1) (g j)) (xs.length - i.toNat) (b := ()) (hE := ah_wI h (a + 1) (g (xs.length - i.toNat))) ?_ ?_ mo_N (by rw [mo_N_v]; omega)
    · have e0 : g 0 = ah_I h (a + 1) := by funext x; simp only [g]; rw [if_neg (by omega)]
      simp only [e0, hl_wI_id] at hs
      simpa using hs
    · intro j hj
      have e1 : (xs.length : Int) - (j : Int) + -1 = (xs.length : Int) - ((j + 1 : Nat) : Int) := by omega
      have e2 : fu (g j) ((xs.length : Int) - j) (g j ((xs.length : Int) - j - 1)) = g (j + 1) := by
        funext x
        simp only [g, fu]
        by_cases hx : x = (xs.length : Int) - j
        · rw [if_pos hx, if_neg (by omega), if_pos (by omega)]; congr 1; omega
        · rw [if_neg hx]
          by_cases hx2 : (xs.length : Int) - j < x ∧ x ≤ xs.length
          · rw [if_pos hx2, if_pos (by omega)]
          · rw [if_neg hx2, if_neg (by omega)]
      simp (disch := omega) only [X4_insert_L30, rr_p, rr_bp, rr_bb, rr_0, rr_lt, rr_blt, rr_le, rr_ble, rr_eq, rr_beq, rr_nl_n, rr_nl_s, rr_bnl_n, rr_bnl_s, rr_cond_t, rr_cond_f, rr_bcond_t, rr_bcond_f, rr_bon, rr_bcv, rr_cv, rr_g, rr_gr, rr_si, rr_sz, rr_sr, rr_al, rr_ld, rr_st, rr_rl, rr_rs, rr_ni, rr_nr, rr_z, rr_div, rr_rem, rr_lc, rr_mx, rr_mn, rr_ab, rr_no, gd_t, bc_t, bc_f, gd_tt, bc_tt, bc_ff, or_true, true_or, and_true, true_and, Nat.reduceAdd, hl_T_sF, hl_N_sF, hl_P_sF, hl_I_sF, hl_R_sF, hl_S_sF, hl_T_sP, hl_N_sP, hl_F_sP, hl_I_sP, hl_R_sP, hl_S_sP, hl_T_sI, hl_N_sI, hl_F_sI, hl_P_sI, hl_R_sI, hl_S_sI, hl_T_sR, hl_N_sR, hl_F_sR, hl_P_sR, hl_I_sR, hl_S_sR, hl_T_wI, hl_N_wI, hl_F_wI, hl_P_wI, hl_R_wI, hl_S_wI, hl_F_sF_s, hl_F_sF_n, hl_P_sP_s, hl_P_sP_n, hl_I_sI_s, hl_I_sI_n, hl_R_sR_s, hl_R_sR_n, hl_I_wI_s, hl_I_wI_n, f1, p0, hl_sI_wI, e1, e2]
    · simp (disch := omega) only [X4_insert_L30, rr_p, rr_bp, rr_bb, rr_0, rr_lt, rr_blt, rr_le, rr_ble, rr_eq, rr_beq, rr_nl_n, rr_nl_s, rr_bnl_n, rr_bnl_s, rr_cond_t, rr_cond_f, rr_bcond_t, rr_bcond_f, rr_bon, rr_bcv, rr_cv, rr_g, rr_gr, rr_si, rr_sz, rr_sr, rr_al, rr_ld, rr_st, rr_rl, rr_rs, rr_ni, rr_nr, rr_z, rr_div, rr_rem, rr_lc, rr_mx, rr_mn, rr_ab, rr_no, gd_t, bc_t, bc_f, gd_tt, bc_tt, bc_ff, or_true, true_or, and_true, true_and, Nat.reduceAdd, hl_T_sF, hl_N_sF, hl_P_sF, hl_I_sF, hl_R_sF, hl_S_sF, hl_T_sP, hl_N_sP, hl_F_sP, hl_I_sP, hl_R_sP, hl_S_sP, hl_T_sI, hl_N_sI, hl_F_sI, hl_P_sI, hl_R_sI, hl_S_sI, hl_T_sR, hl_N_sR, hl_F_sR, hl_P_sR, hl_I_sR, hl_S_sR, hl_T_wI, hl_N_wI, hl_F_wI, hl_P_wI, hl_R_wI, hl_S_wI, hl_F_sF_s, hl_F_sF_n, hl_P_sP_s, hl_P_sP_n, hl_I_sI_s, hl_I_sI_n, hl_R_sR_s, hl_R_sR_n, hl_I_wI_s, hl_I_wI_n, f1, p0]
  refine ⟨ah_sF (ah_wI h (a + 1) (fu (g (xs.length - i.toNat)) i v)) a 1 ((lins xs i v).length : Int), ?_, kR_new hR0 (by omega) (fun j hj => ?_), kR_newF⟩
  · have e3 : ((lins xs i v).length : Int) = (xs.length : Int) + 1 := by omega
    rw [e3]
    simp (disch := omega) only [X4_insert, rr_p, rr_bp, rr_bb, rr_0, rr_lt, rr_blt, rr_le, rr_ble, rr_eq, rr_beq, rr_nl_n, rr_nl_s, rr_bnl_n, rr_bnl_s, rr_cond_t, rr_cond_f, rr_bcond_t, rr_bcond_f, rr_bon, rr_bcv, rr_cv, rr_g, rr_gr, rr_si, rr_sz, rr_sr, rr_al, rr_ld, rr_st, rr_rl, rr_rs, rr_ni, rr_nr, rr_z, rr_div, rr_rem, rr_lc, rr_mx, rr_mn, rr_ab, rr_no, gd_t, bc_t, bc_f, gd_tt, bc_tt, bc_ff, or_true, true_or, and_true, true_and, Nat.reduceAdd, hl_T_sF, hl_N_sF, hl_P_sF, hl_I_sF, hl_R_sF, hl_S_sF, hl_T_sP, hl_N_sP, hl_F_sP, hl_I_sP, hl_R_sP, hl_S_sP, hl_T_sI, hl_N_sI, hl_F_sI, hl_P_sI, hl_R_sI, hl_S_sI, hl_T_sR, hl_N_sR, hl_F_sR, hl_P_sR, hl_I_sR, hl_S_sR, hl_T_wI, hl_N_wI, hl_F_wI, hl_P_wI, hl_R_wI, hl_S_wI, hl_F_sF_s, hl_F_sF_n, hl_P_sP_s, hl_P_sP_n, hl_I_sI_s, hl_I_sI_n, hl_R_sR_s, hl_R_sR_n, hl_I_wI_s, hl_I_wI_n, f1, p0, mo_b_s hL, hl_sI_wI]
  · rw [hat]
    simp only [fu, g]
    by_cases hj1 : (j : Int) = i
    · rw [if_pos hj1, if_neg (by omega), if_pos hj1]
    · rw [if_neg hj1, if_neg hj1]
      by_cases hj2 : (j : Int) < i
      · rw [if_neg (by omega), if_pos hj2]; exact c j (by omega)
      · rw [if_pos (by omega), if_neg hj2]
        have := c (j - 1) (by omega)
        rw [← this]; congr 1; omega
theorem q4_add {h : AH} {a : Nat} {xs : List Int} (hR : kR h a xs) {v : Int} (h2 : (xs.length : Int) < ah_N h (a + 1)) : ∃ h', X4_add a v h = some ((), h') ∧ kR h' a (xs ++ [v]) ∧ FRM h h' a (a + 2) := by
  obtain ⟨h', e, hR', hF⟩ := q4_insert (i := (xs.length : Int)) (v := v) hR (by omega) (by omega) h2
  have el : lins xs (xs.length : Int) v = xs ++ [v] := by simp [lins]
  rw [el] at hR'
  obtain ⟨t0, p0, t1, f1, n1, n2, c⟩ := hR
  refine ⟨h', ?_, hR', hF⟩
  simp (disch := omega) only [X4_add, rr_p, rr_bp, rr_bb, rr_0, rr_lt, rr_blt, rr_le, rr_ble, rr_eq, rr_beq, rr_nl_n, rr_nl_s, rr_bnl_n, rr_bnl_s, rr_cond_t, rr_cond_f, rr_bcond_t, rr_bcond_f, rr_bon, rr_bcv, rr_cv, rr_g, rr_gr, rr_si, rr_sz, rr_sr, rr_al, rr_ld, rr_st, rr_rl, rr_rs, rr_ni, rr_nr, rr_z, rr_div, rr_rem, rr_lc, rr_mx, rr_mn, rr_ab, rr_no, gd_t, bc_t, bc_f, gd_tt, bc_tt, bc_ff, or_true, true_or, and_true, true_and, Nat.reduceAdd, f1, p0, mo_b_s e]
theorem q4_remove {h : AH} {a : Nat} {xs : List Int} (hR : kR h a xs) {i : Int} (h0 : 0 ≤ i) (h1 : i < xs.length) : ∃ h', X4_remove a i h = some ((), h') ∧ kR h' a (ldel xs i) ∧ FRM h h' a (a + 2) := by
  have hlen := @ldel_len xs i h0 h1
  have hat := @ldel_at xs i h0 h1
  have hR0 := hR
  obtain ⟨t0, p0, t1, f1, n1, n2, c⟩ := hR
  let g : Nat → Int → Int := fun j x => if i ≤ x ∧ x < i + j then ah_I h (a + 1) (x + 1) else ah_I h (a + 1) x
  have hL : mo_lp mo_N (X4_remove_L27 a) i h = some ((), ah_wI h (a + 1) (g (xs.length - 1 - i.toNat))) := by
    have hs := lp_seq (F := X4_remove_L27 a) (fun j : Nat => i + j) (fun j => ah_wI h (a + 1) (g j)) (xs.length - 1 - i.toNat) (b := ()) (hE := ah_wI h (a + 1) (g (xs.length - 1 - i.toNat))) ?_ ?_ mo_N (by rw [mo_N_v]; omega)
    · have e0 : g 0 = ah_I h (a + 1) := by funext x; simp only [g]; rw [if_neg (by omega)]
      simp only [e0, hl_wI_id] at hs
      simpa using hs
    · intro j hj
      have e1 : i + (j : Int) + 1 = i + ((j + 1 : Nat) : Int) := by omega
      have e2 : fu (g j) (i + (j : Int)) (g j (i + ((j + 1 : Nat) : Int))) = g (j + 1) := by
        funext x
        simp only [g, fu]
        by_cases hx : x = i + (j : Int)
        · rw [if_pos hx, if_neg (by omega), if_pos (by omega)]; congr 1; omega
        · rw [if_neg hx]
          by_cases hx2 : i ≤ x ∧ x < i + (j : Int)
          · rw [if_pos hx2, if_pos (by omega)]
          · rw [if_neg hx2, if_neg (by omega)]
      simp (disch := omega) only [X4_remove_L27, rr_p, rr_bp, rr_bb, rr_0, rr_lt, rr_blt, rr_le, rr_ble, rr_eq, rr_beq, rr_nl_n, rr_nl_s, rr_bnl_n, rr_bnl_s, rr_cond_t, rr_cond_f, rr_bcond_t, rr_bcond_f, rr_bon, rr_bcv, rr_cv, rr_g, rr_gr, rr_si, rr_sz, rr_sr, rr_al, rr_ld, rr_st, rr_rl, rr_rs, rr_ni, rr_nr, rr_z, rr_div, rr_rem, rr_lc, rr_mx, rr_mn, rr_ab, rr_no, gd_t, bc_t, bc_f, gd_tt, bc_tt, bc_ff, or_true, true_or, and_true, true_and, Nat.reduceAdd, hl_T_sF, hl_N_sF, hl_P_sF, hl_I_sF, hl_R_sF, hl_S_sF, hl_T_sP, hl_N_sP, hl_F_sP, hl_I_sP, hl_R_sP, hl_S_sP, hl_T_sI, hl_N_sI, hl_F_sI, hl_P_sI, hl_R_sI, hl_S_sI, hl_T_sR, hl_N_sR, hl_F_sR, hl_P_sR, hl_I_sR, hl_S_sR, hl_T_wI, hl_N_wI, hl_F_wI, hl_P_wI, hl_R_wI, hl_S_wI, hl_F_sF_s, hl_F_sF_n, hl_P_sP_s, hl_P_sP_n, hl_I_sI_s, hl_I_sI_n, hl_R_sR_s, hl_R_sR_n, hl_I_wI_s, hl_I_wI_n, f1, p0, hl_sI_wI, e1, e2]
    · simp (disch := omega) only [X4_remove_L27, rr_p, rr_bp, rr_bb, rr_0, rr_lt, rr_blt, rr_le, rr_ble, rr_eq, rr_beq, rr_nl_n, rr_nl_s, rr_bnl_n, rr_bnl_s, rr_cond_t, rr_cond_f, rr_bcond_t, rr_bcond_f, rr_bon, rr_bcv, rr_cv, rr_g, rr_gr, rr_si, rr_sz, rr_sr, rr_al, rr_ld, rr_st, rr_rl, rr_rs, rr_ni, rr_nr, rr_z, rr_div, rr_rem, rr_lc, rr_mx, rr_mn, rr_ab, rr_no, gd_t, bc_t, bc_f, gd_tt, bc_tt, bc_ff, or_true, true_or, and_true, true_and, Nat.reduceAdd, hl_T_sF, hl_N_sF, hl_P_sF, hl_I_sF, hl_R_sF, hl_S_sF, hl_T_sP, hl_N_sP, hl_F_sP, hl_I_sP, hl_R_sP, hl_S_sP, hl_T_sI, hl_N_sI, hl_F_sI, hl_P_sI, hl_R_sI, hl_S_sI, hl_T_sR, hl_N_sR, hl_F_sR, hl_P_sR, hl_I_sR, hl_S_sR, hl_T_wI, hl_N_wI, hl_F_wI, hl_P_wI, hl_R_wI, hl_S_wI, hl_F_sF_s, hl_F_sF_n, hl_P_sP_s, hl_P_sP_n, hl_I_sI_s, hl_I_sI_n, hl_R_sR_s, hl_R_sR_n, hl_I_wI_s, hl_I_wI_n, f1, p0]
  refine ⟨ah_sF (ah_wI h (a + 1) (g (xs.length - 1 - i.toNat))) a 1 ((ldel xs i).length : Int), ?_, kR_new hR0 (by omega) (fun j hj => ?_), kR_newF⟩
  · have e3 : ((ldel xs i).length : Int) = (xs.length : Int) - 1 := by omega
    rw [e3]
    simp (disch := omega) only [X4_remove, rr_p, rr_bp, rr_bb, rr_0, rr_lt, rr_blt, rr_le, rr_ble, rr_eq, rr_beq, rr_nl_n, rr_nl_s, rr_bnl_n, rr_bnl_s, rr_cond_t, rr_cond_f, rr_bcond_t, rr_bcond_f, rr_bon, rr_bcv, rr_cv, rr_g, rr_gr, rr_si, rr_sz, rr_sr, rr_al, rr_ld, rr_st, rr_rl, rr_rs, rr_ni, rr_nr, rr_z, rr_div, rr_rem, rr_lc, rr_mx, rr_mn, rr_ab, rr_no, gd_t, bc_t, bc_f, gd_tt, bc_tt, bc_ff, or_true, true_or, and_true, true_and, Nat.reduceAdd, hl_T_sF, hl_N_sF, hl_P_sF, hl_I_sF, hl_R_sF, hl_S_sF, hl_T_sP, hl_N_sP, hl_F_sP, hl_I_sP, hl_R_sP, hl_S_sP, hl_T_sI, hl_N_sI, hl_F_sI, hl_P_sI, hl_R_sI, hl_S_sI, hl_T_sR, hl_N_sR, hl_F_sR, hl_P_sR, hl_I_sR, hl_S_sR, hl_T_wI, hl_N_wI, hl_F_wI, hl_P_wI, hl_R_wI, hl_S_wI, hl_F_sF_s, hl_F_sF_n, hl_P_sP_s, hl_P_sP_n, hl_I_sI_s, hl_I_sI_n, hl_R_sR_s, hl_R_sR_n, hl_I_wI_s, hl_I_wI_n, f1, p0, mo_b_s hL]
  · rw [hat]
    simp only [g]
    by_cases hj2 : (j : Int) < i
    · rw [if_neg (by omega), if_pos hj2]; exact c j (by omega)
    · rw [if_pos (by omega), if_neg hj2]
      exact c (j + 1) (by omega)
theorem q4_addPart {h : AH} {a b : Nat} {xs ys : List Int} (hR : kR h a xs) (hY : kR h b ys) (hab : a + 2 ≤ b ∨ b + 2 ≤ a) {i e : Int} (h0 : 0 ≤ i) (h1 : i ≤ e) (h2 : e ≤ ys.length) (h3 : (xs.length : Int) + (e - i) ≤ ah_N h (a + 1)) : ∃ h', X4_addPart a (some b) i e h = some ((), h') ∧ kR h' a (xs ++ (ys.take e.toNat).drop i.toNat) ∧ FRM h h' a (a + 2) := by
  have hN := hR.2.2.2.2.2.1
  have hNy := hY.2.2.2.2.2.1
  have hly := hY.2.2.2.2.1
  have hL := lp_inv (F := X4_addPart_L3 a (some b) e) (fun k h' => i ≤ k ∧ k ≤ e ∧ kR h' a (xs ++ (ys.take k.toNat).drop i.toNat) ∧ FRM h h' a (a + 2)) (fun k => (e - k).toNat) (fun _ h' => kR h' a (xs ++ (ys.take e.toNat).drop i.toNat) ∧ FRM h h' a (a + 2)) ?_ mo_N i h ⟨by omega, by omega, ?_, FRM.rf⟩ (by rw [mo_N_v]; omega)
  · obtain ⟨_, h', e1, hQ⟩ := hL
    exact ⟨h', by simp (disch := omega) only [X4_addPart, rr_p, rr_bp, rr_bb, rr_0, rr_lt, rr_blt, rr_le, rr_ble, rr_eq, rr_beq, rr_nl_n, rr_nl_s, rr_bnl_n, rr_bnl_s, rr_cond_t, rr_cond_f, rr_bcond_t, rr_bcond_f, rr_bon, rr_bcv, rr_cv, rr_g, rr_gr, rr_si, rr_sz, rr_sr, rr_al, rr_ld, rr_st, rr_rl, rr_rs, rr_ni, rr_nr, rr_z, rr_div, rr_rem, rr_lc, rr_mx, rr_mn, rr_ab, rr_no, gd_t, bc_t, bc_f, gd_tt, bc_tt, bc_ff, or_true, true_or, and_true, true_and, Nat.reduceAdd, mo_b_s e1], hQ.1, hQ.2⟩
  · intro k h' ⟨k1, k2, k3, k4⟩
    have hY' : kR h' b ys := kR_fr hY k4 (by omega)
    by_cases hk : k < e
    · left
      have hat := q4_at hY' (i := k) (by omega)
      rw [if_pos (by omega)] at hat
      have hlen : (xs ++ (ys.take k.toNat).drop i.toNat).length = xs.length + (k.toNat - i.toNat) := by simp; omega
      obtain ⟨h2, e2, r2, f2⟩ := q4_add k3 (v := ys.getD k.toNat 0) (by rw [k4.2.1]; omega)
      have hT := k3.1
      have hT2 := hY'.1
      refine ⟨k + 1, h2, ?_, ⟨by omega, by omega, ?_, k4.tr f2 (by omega) (by omega) (by omega) (by omega)⟩, by omega⟩
      · simp (disch := omega) only [X4_addPart_L3, rr_p, rr_bp, rr_bb, rr_0, rr_lt, rr_blt, rr_le, rr_ble, rr_eq, rr_beq, rr_nl_n, rr_nl_s, rr_bnl_n, rr_bnl_s, rr_cond_t, rr_cond_f, rr_bcond_t, rr_bcond_f, rr_bon, rr_bcv, rr_cv, rr_g, rr_gr, rr_si, rr_sz, rr_sr, rr_al, rr_ld, rr_st, rr_rl, rr_rs, rr_ni, rr_nr, rr_z, rr_div, rr_rem, rr_lc, rr_mx, rr_mn, rr_ab, rr_no, gd_t, bc_t, bc_f, gd_tt, bc_tt, bc_ff, or_true, true_or, and_true, true_and, Nat.reduceAdd, mo_b_s hat, mo_b_s e2]
      · have el : (ys.take (k + 1).toNat).drop i.toNat = (ys.take k.toNat).drop i.toNat ++ [ys.getD k.toNat 0] := by
          rw [show (k + 1).toNat = k.toNat + 1 by omega, List.take_add_one, List.drop_append_of_le_length (by simp; omega)]
          congr 1
          rw [List.getD_eq_getElem?_getD, List.getElem?_eq_getElem (by omega)]
          rfl
        rw [el, ← List.append_assoc]
        exact r2
    · right
      have hke : k = e := by omega
      subst hke
      exact ⟨(), h', by simp (disch := omega) only [X4_addPart_L3, rr_p, rr_bp, rr_bb, rr_0, rr_lt, rr_blt, rr_le, rr_ble, rr_eq, rr_beq, rr_nl_n, rr_nl_s, rr_bnl_n, rr_bnl_s, rr_cond_t, rr_cond_f, rr_bcond_t, rr_bcond_f, rr_bon, rr_bcv, rr_cv, rr_g, rr_gr, rr_si, rr_sz, rr_sr, rr_al, rr_ld, rr_st, rr_rl, rr_rs, rr_ni, rr_nr, rr_z, rr_div, rr_rem, rr_lc, rr_mx, rr_mn, rr_ab, rr_no, gd_t, bc_t, bc_f, gd_tt, bc_tt, bc_ff, or_true, true_or, and_true, true_and, Nat.reduceAdd], k3, k4⟩
  · have el : (ys.take i.toNat).drop i.toNat = [] := by simp
    rw [el, List.append_nil]; exact hR
theorem q4_become {h : AH} {a b : Nat} {xs ys : List Int} (hR : kR h a xs) (hY : kR h b ys) (hab : a + 2 ≤ b ∨ b + 2 ≤ a) (h3 : (ys.length : Int) ≤ ah_N h (a + 1)) : ∃ h', X4_become a (some b) h = some ((), h') ∧ kR h' a ys ∧ FRM h h' a (a + 2) := by
  obtain ⟨h1, e1, r1, f1⟩ := q4_clear hR
  have hY1 : kR h1 b ys := kR_fr hY f1 (by omega)
  have es := q4_size hY1
  obtain ⟨h2, e2, r2, f2⟩ := q4_addPart (i := 0) (e := (ys.length : Int)) r1 hY1 hab (by omega) (by omega) (by omega) (by rw [f1.2.1]; simp; omega)
  have hT := hR.1
  have hT1 := r1.1
  have hTb := hY1.1
  refine ⟨h2, ?_, ?_, f1.tr f2 (by omega) (by omega) (by omega) (by omega)⟩
  · simp (disch := omega) only [X4_become, rr_p, rr_bp, rr_bb, rr_0, rr_lt, rr_blt, rr_le, rr_ble, rr_eq, rr_beq, rr_nl_n, rr_nl_s, rr_bnl_n, rr_bnl_s, rr_cond_t, rr_cond_f, rr_bcond_t, rr_bcond_f, rr_bon, rr_bcv, rr_cv, rr_g, rr_gr, rr_si, rr_sz, rr_sr, rr_al, rr_ld, rr_st, rr_rl, rr_rs, rr_ni, rr_nr, rr_z, rr_div, rr_rem, rr_lc, rr_mx, rr_mn, rr_ab, rr_no, gd_t, bc_t, bc_f, gd_tt, bc_tt, bc_ff, or_true, true_or, and_true, true_and, Nat.reduceAdd, mo_b_s e1, mo_b_s es, mo_b_s e2]
  · simpa using r2
def mixL (m : Int) (xs : List Int) : Int := xs.foldl (fun a v => 31 * a + v) m
