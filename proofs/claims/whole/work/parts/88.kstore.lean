def okE (E : SE) : Prop := (1 ≤ E.1 ∧ E.1 ≤ 6) ∧ (1 ≤ E.2.2.2 ∧ E.2.2.2 ≤ 999) ∧ (∀ i s : Int, 0 ≤ i → i < E.1 → -1 ≤ s → s < E.1 → 1 ≤ E.2.1 i s ∧ E.2.1 i s ≤ 99) ∧ ∀ i : Nat, i < E.1 → 0 ≤ E.2.2.1 i ∧ E.2.2.1 i ≤ 9
def kE (h : AH) (l : Nat) (E : SE) : Prop := kLs h l ∧ (ah_F h l 0 = (E.1 : Int) ∧ ah_F h l 1 = E.2.2.2) ∧ (∀ i : Int, 0 ≤ i → i < E.1 → ah_I h (l + 1) i = E.2.1 i (-1)) ∧ (∀ i s : Int, 0 ≤ i → i < E.1 → 0 ≤ s → s < E.1 → ah_I h (l + 2) (s * 6 + i) = E.2.1 i s) ∧ ∀ i : Nat, i < E.1 → ah_I h (l + 3) (i : Int) = E.2.2.1 i
def LF (l : Nat) (h h' : AH) : Prop := FRM h h' l (l + 8) ∧ (∀ k, k < 4 → ah_I h' (l + k) = ah_I h (l + k)) ∧ ah_F h' l 0 = ah_F h l 0 ∧ ah_F h' l 1 = ah_F h l 1
theorem LF.rf {l : Nat} {h : AH} : LF l h h := ⟨FRM.rf, fun _ _ => rfl, rfl, rfl⟩
theorem LF.tr {l : Nat} {h h' h'' : AH} (a : LF l h h') (b : LF l h' h'') : LF l h h'' := ⟨a.1.tr b.1 (Nat.le_refl _) (Nat.le_refl _) (Nat.le_refl _) (Nat.le_refl _), fun k hk => (b.2.1 k hk).trans (a.2.1 k hk), b.2.2.1.trans a.2.2.1, b.2.2.2.trans a.2.2.2⟩
theorem LF.fr {l lo hi : Nat} {h h' : AH} (f : FRM h h' lo hi) (h1 : l + 4 ≤ lo) (h2 : hi ≤ l + 8) : LF l h h' := ⟨f.tr FRM.rf (lo2 := l) (hi2 := l + 8) (by omega) (by omega) (by omega) (by omega), fun k hk => f.2.2.2.2.2.2 (l + k) (by omega), by rw [f.2.2.2.2.2.1 l (by omega)], by rw [f.2.2.2.2.2.1 l (by omega)]⟩
theorem LF.sF {l k : Nat} {h : AH} {v : Int} (hk : 2 ≤ k) : LF l h (ah_sF h l k v) := ⟨FRM.sF (by omega) (by omega), fun _ _ => rfl, hl_F_sF_n (by omega), hl_F_sF_n (by omega)⟩
theorem kE_lf {l : Nat} {h h' : AH} {E : SE} (hE : kE h l E) (f : LF l h h') : kE h' l E := by
  obtain ⟨k1, k2, k3, k4, k5⟩ := hE
  have i1 := f.2.1 1 (by omega)
  have i2 := f.2.1 2 (by omega)
  have i3 := f.2.1 3 (by omega)
  refine ⟨kLs_fr k1 f.1, ?_, ?_, ?_, ?_⟩
  · rw [f.2.2.1, f.2.2.2]; exact k2
  · rw [i1]; exact k3
  · rw [i2]; exact k4
  · rw [i3]; exact k5
theorem q2_pieceRoom {h : AH} {l : Nat} {E : SE} (hE : kE h l E) (ok : okE E) {i s : Int} (h0 : 0 ≤ i) (h1 : i < E.1) (h2 : -1 ≤ s) (h3 : s < E.1) : X2_pieceRoom l i s h = some (E.2.1 i s, h) := by
  obtain ⟨⟨t0, ⟨p2, p3, p4, p6, p7, p8, p9⟩, ⟨t1, t2, t3, t5, t6, t7, t8⟩, ⟨n1, n2, n3, n5, n6, n7, n8⟩⟩, ⟨f0, f1⟩, k3, k4, k5⟩ := id hE
  have hn := ok.1
  by_cases c : s < 0
  · have e := k3 i h0 h1
    have : s = -1 := by omega
    subst this
    simp (disch := omega) only [X2_pieceRoom, rr_p, rr_bp, rr_bb, rr_0, rr_lt, rr_blt, rr_le, rr_ble, rr_eq, rr_beq, rr_nl_n, rr_nl_s, rr_bnl_n, rr_bnl_s, rr_cond_t, rr_cond_f, rr_bcond_t, rr_bcond_f, rr_bon, rr_bcv, rr_cv, rr_g, rr_gr, rr_si, rr_sz, rr_sr, rr_al, rr_ld, rr_st, rr_rl, rr_rs, rr_ni, rr_nr, rr_z, rr_div, rr_rem, rr_lc, rr_mx, rr_mn, rr_ab, rr_no, gd_t, bc_t, bc_f, gd_tt, bc_tt, bc_ff, or_true, true_or, and_true, true_and, Nat.reduceAdd, p2, e]
  · have e := k4 i s h0 h1 (by omega) h3
    simp (disch := omega) only [X2_pieceRoom, rr_p, rr_bp, rr_bb, rr_0, rr_lt, rr_blt, rr_le, rr_ble, rr_eq, rr_beq, rr_nl_n, rr_nl_s, rr_bnl_n, rr_bnl_s, rr_cond_t, rr_cond_f, rr_bcond_t, rr_bcond_f, rr_bon, rr_bcv, rr_cv, rr_g, rr_gr, rr_si, rr_sz, rr_sr, rr_al, rr_ld, rr_st, rr_rl, rr_rs, rr_ni, rr_nr, rr_z, rr_div, rr_rem, rr_lc, rr_mx, rr_mn, rr_ab, rr_no, gd_t, bc_t, bc_f, gd_tt, bc_tt, bc_ff, or_true, true_or, and_true, true_and, Nat.reduceAdd, p3, e]
def wr (E : SE) : Int → Int := fun j => E.2.1 j (-1)
def cx (ce : Int → Int) (s : Int) : Int := if s < 0 then 0 else ce s
theorem q2_remadeAtLeast {h : AH} {l : Nat} {E : SE} (hE : kE h l E) (ok : okE E) {i s : Int} (h0 : 0 ≤ i) (h1 : i < E.1) (h2 : -1 ≤ s) (h3 : s < E.1) : X2_remadeAtLeast l i s h = some (E.2.1 i s + cx (wr E) s, h) := by
  have e1 := q2_pieceRoom hE ok h0 h1 h2 h3
  obtain ⟨⟨t0, ⟨p2, p3, p4, p6, p7, p8, p9⟩, ⟨t1, t2, t3, t5, t6, t7, t8⟩, ⟨n1, n2, n3, n5, n6, n7, n8⟩⟩, ⟨f0, f1⟩, k3, k4, k5⟩ := id hE
  have hn := ok.1
  unfold cx
  by_cases c : s < 0
  · rw [if_pos c]
    simp (disch := omega) only [X2_remadeAtLeast, rr_p, rr_bp, rr_bb, rr_0, rr_lt, rr_blt, rr_le, rr_ble, rr_eq, rr_beq, rr_nl_n, rr_nl_s, rr_bnl_n, rr_bnl_s, rr_cond_t, rr_cond_f, rr_bcond_t, rr_bcond_f, rr_bon, rr_bcv, rr_cv, rr_g, rr_gr, rr_si, rr_sz, rr_sr, rr_al, rr_ld, rr_st, rr_rl, rr_rs, rr_ni, rr_nr, rr_z, rr_div, rr_rem, rr_lc, rr_mx, rr_mn, rr_ab, rr_no, gd_t, bc_t, bc_f, gd_tt, bc_tt, bc_ff, or_true, true_or, and_true, true_and, Nat.reduceAdd, mo_b_s e1]
  · rw [if_neg c]
    have e := k3 s (by omega) h3
    simp (disch := omega) only [X2_remadeAtLeast, rr_p, rr_bp, rr_bb, rr_0, rr_lt, rr_blt, rr_le, rr_ble, rr_eq, rr_beq, rr_nl_n, rr_nl_s, rr_bnl_n, rr_bnl_s, rr_cond_t, rr_cond_f, rr_bcond_t, rr_bcond_f, rr_bon, rr_bcv, rr_cv, rr_g, rr_gr, rr_si, rr_sz, rr_sr, rr_al, rr_ld, rr_st, rr_rl, rr_rs, rr_ni, rr_nr, rr_z, rr_div, rr_rem, rr_lc, rr_mx, rr_mn, rr_ab, rr_no, gd_t, bc_t, bc_f, gd_tt, bc_tt, bc_ff, or_true, true_or, and_true, true_and, Nat.reduceAdd, mo_b_s e1, p2, e]
    rfl
def acy (E : SE) (s : List Int) : Prop := ∀ j : Int, 0 ≤ j → j < E.1 → itc s (E.1 : Int) E.1 j = -1
/-- a bound from below for what versions are remade for -/
def LBc (E : SE) (r : Nat) (c : Int → Int) : Prop := ∀ s, sR E.1 s → acy E s → ∀ j : Int, 0 ≤ j → j < E.1 → itc s (E.1 : Int) r j = -1 → c j ≤ rmd E s E.1 j
def cOk (E : SE) (c : Int → Int) : Prop := ∀ j : Int, 0 ≤ j → j < E.1 → 0 ≤ c j ∧ c j ≤ 99
/-- a patch brings what a version has more than its source -/
def tri (E : SE) : Prop := ∀ i s : Int, 0 ≤ i → i < E.1 → 0 ≤ s → s < E.1 → E.2.1 i (-1) ≤ E.2.1 i s + E.2.1 s (-1)
theorem wr_ok {E : SE} (ok : okE E) : cOk E (wr E) := fun j j0 j1 => by
  have b := ok.2.2.1 j (-1) j0 j1 (by omega) (by omega)
  unfold wr; omega
theorem wr_lb {E : SE} (ok : okE E) (tr : tri E) : ∀ r : Nat, LBc E r (wr E) := by
  intro r
  induction r with
  | zero =>
    intro s hs ha j j0 j1 hj
    have hj : j = -1 := hj
    omega
  | succ r ih =>
    intro s hs ha j j0 j1 hj
    rw [itc_i ⟨j0, j1⟩] at hj
    have e := rmd_1 (E := E) (s := s) ok.1.1 ha j0 j1
    have hr := hs.2 j j0 j1
    by_cases cu : sv s j = -1
    · have z : rmd E s E.1 (sv s j) = 0 := rmd_o (by omega)
      rw [e, z, cu]; unfold wr; omega
    · have h2 := tr j (sv s j) j0 j1 (by omega) hr.2.1
      have h3 := ih s hs ha (sv s j) (by omega) hr.2.1 hj
      unfold wr at h3 ⊢
      rw [e]; omega
/-- bounds from below for what versions from i on add -/
def LBr (E : SE) (i : Nat) (r m : Int) : Prop := (0 ≤ r ∧ r ≤ 99 * 6) ∧ (0 ≤ m ∧ m ≤ 900 * 6) ∧ ∀ s, sR E.1 s → rmS E s i + r ≤ rmS E s E.1 ∧ (acy E s → smS E s i + m ≤ smS E s E.1)
theorem mul_r {a b c d : Int} (h1 : 0 ≤ a) (h2 : a ≤ c) (h3 : 0 ≤ b) (h4 : b ≤ d) : 0 ≤ a * b ∧ a * b ≤ c * d := ⟨Int.mul_nonneg h1 h3, Int.le_trans (Int.mul_le_mul_of_nonneg_right h2 h3) (Int.mul_le_mul_of_nonneg_left h4 (by omega))⟩
theorem q2_leastFrom {h : AH} {l : Nat} {E : SE} (hE : kE h l E) (ok : okE E) (tr : tri E) : ∃ h', X2_reckonLeastFrom l h = some ((), h') ∧ FRM h h' (l + 4) (l + 6) ∧ ∀ i : Nat, i ≤ E.1 → LBr E i (ah_I h' (l + 4) (i : Int)) (ah_I h' (l + 5) (i : Int)) := by
  obtain ⟨⟨t0, ⟨p2, p3, p4, p6, p7, p8, p9⟩, ⟨t1, t2, t3, t5, t6, t7, t8⟩, ⟨n1, n2, n3, n5, n6, n7, n8⟩⟩, ⟨f0, f1⟩, k3, k4, k5⟩ := id hE
  have hn := ok.1
  have G0 : FRM h (ah_sI (ah_sI h (l + 4) (E.1 : Int) 0) (l + 5) (E.1 : Int) 0) (l + 4) (l + 6) := (FRM.sI (lo := l + 4) (hi := l + 6) (by omega) (by omega)).tr (FRM.sI (lo := l + 4) (hi := l + 6) (by omega) (by omega)) (by omega) (by omega) (by omega) (by omega)
  have hL := lp_inv (F := X2_reckonLeastFrom_L27 l) (fun s h' => ∃ i : Nat, s = (i : Int) - 1 ∧ i ≤ E.1 ∧ FRM h h' (l + 4) (l + 6) ∧ ∀ k : Nat, i ≤ k → k ≤ E.1 → (0 ≤ ah_I h' (l + 4) (k : Int) ∧ ah_I h' (l + 4) (k : Int) ≤ 99 * ((E.1 : Int) - k)) ∧ (0 ≤ ah_I h' (l + 5) (k : Int) ∧ ah_I h' (l + 5) (k : Int) ≤ 900 * ((E.1 : Int) - k)) ∧ ∀ s, sR E.1 s → rmS E s k + ah_I h' (l + 4) (k : Int) ≤ rmS E s E.1 ∧ (acy E s → smS E s k + ah_I h' (l + 5) (k : Int) ≤ smS E s E.1)) (fun s => (s + 1).toNat) (fun _ h' => FRM h h' (l + 4) (l + 6) ∧ ∀ k : Nat, k ≤ E.1 → (0 ≤ ah_I h' (l + 4) (k : Int) ∧ ah_I h' (l + 4) (k : Int) ≤ 99 * ((E.1 : Int) - k)) ∧ (0 ≤ ah_I h' (l + 5) (k : Int) ∧ ah_I h' (l + 5) (k : Int) ≤ 900 * ((E.1 : Int) - k)) ∧ ∀ s, sR E.1 s → rmS E s k + ah_I h' (l + 4) (k : Int) ≤ rmS E s E.1 ∧ (acy E s → smS E s k + ah_I h' (l + 5) (k : Int) ≤ smS E s E.1)) ?_ mo_N ((E.1 : Int) - 1) (ah_sI (ah_sI h (l + 4) (E.1 : Int) 0) (l + 5) (E.1 : Int) 0) ⟨E.1, rfl, by omega, G0, fun k k1 k2 => ?_⟩ (by rw [mo_N_v]; omega)
  · obtain ⟨_, h', e1, q1, q2⟩ := hL
    refine ⟨h', by simp (disch := omega) only [X2_reckonLeastFrom, rr_p, rr_bp, rr_bb, rr_0, rr_lt, rr_blt, rr_le, rr_ble, rr_eq, rr_beq, rr_nl_n, rr_nl_s, rr_bnl_n, rr_bnl_s, rr_cond_t, rr_cond_f, rr_bcond_t, rr_bcond_f, rr_bon, rr_bcv, rr_cv, rr_g, rr_gr, rr_si, rr_sz, rr_sr, rr_al, rr_ld, rr_st, rr_rl, rr_rs, rr_ni, rr_nr, rr_z, rr_div, rr_rem, rr_lc, rr_mx, rr_mn, rr_ab, rr_no, gd_t, bc_t, bc_f, gd_tt, bc_tt, bc_ff, or_true, true_or, and_true, true_and, Nat.reduceAdd, hl_T_sF, hl_N_sF, hl_P_sF, hl_I_sF, hl_R_sF, hl_S_sF, hl_T_sP, hl_N_sP, hl_F_sP, hl_I_sP, hl_R_sP, hl_S_sP, hl_T_sI, hl_N_sI, hl_F_sI, hl_P_sI, hl_R_sI, hl_S_sI, hl_T_sR, hl_N_sR, hl_F_sR, hl_P_sR, hl_I_sR, hl_S_sR, hl_T_wI, hl_N_wI, hl_F_wI, hl_P_wI, hl_R_wI, hl_S_wI, hl_F_sF_s, hl_F_sF_n, hl_P_sP_s, hl_P_sP_n, hl_I_sI_s, hl_I_sI_n, hl_R_sR_s, hl_R_sR_n, hl_I_wI_s, hl_I_wI_n, p6, p7, f0, mo_b_s e1], q1, fun i hi => ?_⟩
    obtain ⟨a1, a2, a3⟩ := q2 i hi
    exact ⟨by omega, by omega, a3⟩
  · rintro s h' ⟨i, rfl, hi, g1, hk⟩
    have hE' := kE_lf hE (LF.fr g1 (by omega) (by omega))
    obtain ⟨⟨tt0, ⟨pp2, pp3, pp4, pp6, pp7, pp8, pp9⟩, ⟨tt1, tt2, tt3, tt5, tt6, tt7, tt8⟩, ⟨nn1, nn2, nn3, nn5, nn6, nn7, nn8⟩⟩, ⟨ff0, ff1⟩, kk3, kk4, kk5⟩ := id hE'
    cases i with
    | zero =>
      right
      exact ⟨(), h', by simp (disch := omega) only [X2_reckonLeastFrom_L27, rr_p, rr_bp, rr_bb, rr_0, rr_lt, rr_blt, rr_le, rr_ble, rr_eq, rr_beq, rr_nl_n, rr_nl_s, rr_bnl_n, rr_bnl_s, rr_cond_t, rr_cond_f, rr_bcond_t, rr_bcond_f, rr_bon, rr_bcv, rr_cv, rr_g, rr_gr, rr_si, rr_sz, rr_sr, rr_al, rr_ld, rr_st, rr_rl, rr_rs, rr_ni, rr_nr, rr_z, rr_div, rr_rem, rr_lc, rr_mx, rr_mn, rr_ab, rr_no, gd_t, bc_t, bc_f, gd_tt, bc_tt, bc_ff, or_true, true_or, and_true, true_and, Nat.reduceAdd], g1, fun k hk2 => hk k (by omega) hk2⟩
    | succ i =>
      left
      have ei : ((i + 1 : Nat) : Int) - 1 = (i : Int) := by omega
      rw [ei]
      have w1 := kk3 (i : Int) (by omega) (by omega)
      have w0 : E.2.1 (i : Int) (-1) = wr E (i : Int) := rfl
      have w2 := kk5 i (by omega)
      have pw := ok.2.2.1 (i : Int) (-1) (by omega) (by omega) (by omega) (by omega)
      have hL2 := lp_inv (F := X2_reckonLeastFrom_L40 l (i : Int)) (fun s h'' => h'' = h' ∧ ∃ k : Nat, s.2 = (k : Int) ∧ k ≤ E.1 ∧ (0 ≤ s.1 ∧ s.1 ≤ 99) ∧ s.1 ≤ E.2.1 (i : Int) (-1) ∧ ∀ q : Int, 0 ≤ q → q < k → q ≠ i → s.1 ≤ E.2.1 (i : Int) q) (fun s => ((E.1 : Int) - s.2).toNat) (fun v h'' => h'' = h' ∧ (0 ≤ v ∧ v ≤ 99) ∧ v ≤ E.2.1 (i : Int) (-1) ∧ ∀ q : Int, 0 ≤ q → q < E.1 → q ≠ i → v ≤ E.2.1 (i : Int) q) ?_ mo_N (E.2.1 (i : Int) (-1), 0) h' ⟨rfl, 0, rfl, by omega, by omega, by omega, fun q q0 q1 => by omega⟩ (by rw [mo_N_v]; dsimp only; omega)
      · obtain ⟨v, h'', e2, rfl, v1, v2, v3⟩ := hL2
        have a3 := hk (i + 1) (by omega) (by omega)
        have cb := wr_ok ok (i : Int) (by omega) (by omega)
        have ab := ok.2.2.2 i (by omega)
        have mr := mul_r ab.1 ab.2 cb.1 cb.2
        have ei1 : (i : Int) + 1 = ((i + 1 : Nat) : Int) := by omega
        refine ⟨(i : Int) - 1, ah_sI (ah_sI h'' (l + 4) (i : Int) (ah_I h'' (l + 4) ((i + 1 : Nat) : Int) + v)) (l + 5) (i : Int) (ah_I h'' (l + 5) ((i + 1 : Nat) : Int) + E.2.2.1 i * wr E (i : Int)), ?_, ⟨i, rfl, by omega, (g1.tr (FRM.sI (lo := l + 4) (hi := l + 6) (by omega) (by omega)) (lo3 := l + 4) (hi3 := l + 6) (by omega) (by omega) (by omega) (by omega)).tr (FRM.sI (lo := l + 4) (hi := l + 6) (by omega) (by omega)) (by omega) (by omega) (by omega) (by omega), fun k k1 k2 => ?_⟩, by omega⟩
        · simp (disch := omega) only [X2_reckonLeastFrom_L27, rr_p, rr_bp, rr_bb, rr_0, rr_lt, rr_blt, rr_le, rr_ble, rr_eq, rr_beq, rr_nl_n, rr_nl_s, rr_bnl_n, rr_bnl_s, rr_cond_t, rr_cond_f, rr_bcond_t, rr_bcond_f, rr_bon, rr_bcv, rr_cv, rr_g, rr_gr, rr_si, rr_sz, rr_sr, rr_al, rr_ld, rr_st, rr_rl, rr_rs, rr_ni, rr_nr, rr_z, rr_div, rr_rem, rr_lc, rr_mx, rr_mn, rr_ab, rr_no, gd_t, bc_t, bc_f, gd_tt, bc_tt, bc_ff, or_true, true_or, and_true, true_and, Nat.reduceAdd, hl_T_sF, hl_N_sF, hl_P_sF, hl_I_sF, hl_R_sF, hl_S_sF, hl_T_sP, hl_N_sP, hl_F_sP, hl_I_sP, hl_R_sP, hl_S_sP, hl_T_sI, hl_N_sI, hl_F_sI, hl_P_sI, hl_R_sI, hl_S_sI, hl_T_sR, hl_N_sR, hl_F_sR, hl_P_sR, hl_I_sR, hl_S_sR, hl_T_wI, hl_N_wI, hl_F_wI, hl_P_wI, hl_R_wI, hl_S_wI, hl_F_sF_s, hl_F_sF_n, hl_P_sP_s, hl_P_sP_n, hl_I_sI_s, hl_I_sI_n, hl_R_sR_s, hl_R_sR_n, hl_I_wI_s, hl_I_wI_n, pp2, pp4, pp6, pp7, w1, mo_b_s e2, w2, ei1]
          rw [show (i : Int) + -1 = (i : Int) - 1 by omega]
          rfl
        · by_cases ck : k = i
          · subst ck
            simp (disch := omega) only [hl_T_sF, hl_N_sF, hl_P_sF, hl_I_sF, hl_R_sF, hl_S_sF, hl_T_sP, hl_N_sP, hl_F_sP, hl_I_sP, hl_R_sP, hl_S_sP, hl_T_sI, hl_N_sI, hl_F_sI, hl_P_sI, hl_R_sI, hl_S_sI, hl_T_sR, hl_N_sR, hl_F_sR, hl_P_sR, hl_I_sR, hl_S_sR, hl_T_wI, hl_N_wI, hl_F_wI, hl_P_wI, hl_R_wI, hl_S_wI, hl_F_sF_s, hl_F_sF_n, hl_P_sP_s, hl_P_sP_n, hl_I_sI_s, hl_I_sI_n, hl_R_sR_s, hl_R_sR_n, hl_I_wI_s, hl_I_wI_n]
            obtain ⟨⟨a1, a2⟩, ⟨a4, a5⟩, a6⟩ := a3
            refine ⟨by omega, by omega, fun s hs => ?_⟩
            obtain ⟨b1, b2⟩ := a6 s hs
            have hsv := hs.2 (k : Int) (by omega) (by omega)
            have hvv : v ≤ E.2.1 (k : Int) (sv s (k : Int)) := by
              by_cases z : sv s (k : Int) = -1
              · rw [z]; exact v2
              · exact v3 _ (by omega) hsv.2.1 hsv.2.2
            have e3 : rmS E s (k + 1) = rmS E s k + E.2.1 (k : Int) (sv s (k : Int)) := rfl
            have e4 : smS E s (k + 1) = smS E s k + E.2.2.1 k * rmd E s E.1 (k : Int) := rfl
            refine ⟨by omega, fun ha => ?_⟩
            have b3 := b2 ha
            have b4 := wr_lb ok tr E.1 s hs ha (k : Int) (by omega) (by omega) (ha _ (by omega) (by omega))
            have b5 := Int.mul_le_mul_of_nonneg_left b4 ab.1
            omega
          · simp (disch := omega) only [hl_T_sF, hl_N_sF, hl_P_sF, hl_I_sF, hl_R_sF, hl_S_sF, hl_T_sP, hl_N_sP, hl_F_sP, hl_I_sP, hl_R_sP, hl_S_sP, hl_T_sI, hl_N_sI, hl_F_sI, hl_P_sI, hl_R_sI, hl_S_sI, hl_T_sR, hl_N_sR, hl_F_sR, hl_P_sR, hl_I_sR, hl_S_sR, hl_T_wI, hl_N_wI, hl_F_wI, hl_P_wI, hl_R_wI, hl_S_wI, hl_F_sF_s, hl_F_sF_n, hl_P_sP_s, hl_P_sP_n, hl_I_sI_s, hl_I_sI_n, hl_R_sR_s, hl_R_sR_n, hl_I_wI_s, hl_I_wI_n]
            exact hk k (by omega) k2
      · rintro ⟨v, s2⟩ h'' ⟨rfl, k, rfl, kb, v1, v2, v3⟩
        dsimp only at v1 v2 v3 ⊢
        by_cases ck : k < E.1
        · left
          by_cases cki : (k : Int) = (i : Int)
          · refine ⟨(v, (k : Int) + 1), h'', by simp (disch := omega) only [X2_reckonLeastFrom_L40, rr_p, rr_bp, rr_bb, rr_0, rr_lt, rr_blt, rr_le, rr_ble, rr_eq, rr_beq, rr_nl_n, rr_nl_s, rr_bnl_n, rr_bnl_s, rr_cond_t, rr_cond_f, rr_bcond_t, rr_bcond_f, rr_bon, rr_bcv, rr_cv, rr_g, rr_gr, rr_si, rr_sz, rr_sr, rr_al, rr_ld, rr_st, rr_rl, rr_rs, rr_ni, rr_nr, rr_z, rr_div, rr_rem, rr_lc, rr_mx, rr_mn, rr_ab, rr_no, gd_t, bc_t, bc_f, gd_tt, bc_tt, bc_ff, or_true, true_or, and_true, true_and, Nat.reduceAdd, ff0], ⟨rfl, k + 1, by simp, by omega, v1, v2, fun q q0 q1 q2 => v3 q q0 (by omega) q2⟩, by omega⟩
          · have e3 := q2_pieceRoom hE' ok (i := (i : Int)) (s := (k : Int)) (by omega) (by omega) (by omega) (by omega)
            have p := ok.2.2.1 (i : Int) (k : Int) (by omega) (by omega) (by omega) (by omega)
            refine ⟨(min v (E.2.1 (i : Int) (k : Int)), (k : Int) + 1), h'', by simp (disch := omega) only [X2_reckonLeastFrom_L40, rr_p, rr_bp, rr_bb, rr_0, rr_lt, rr_blt, rr_le, rr_ble, rr_eq, rr_beq, rr_nl_n, rr_nl_s, rr_bnl_n, rr_bnl_s, rr_cond_t, rr_cond_f, rr_bcond_t, rr_bcond_f, rr_bon, rr_bcv, rr_cv, rr_g, rr_gr, rr_si, rr_sz, rr_sr, rr_al, rr_ld, rr_st, rr_rl, rr_rs, rr_ni, rr_nr, rr_z, rr_div, rr_rem, rr_lc, rr_mx, rr_mn, rr_ab, rr_no, gd_t, bc_t, bc_f, gd_tt, bc_tt, bc_ff, or_true, true_or, and_true, true_and, Nat.reduceAdd, ff0, mo_b_s e3], ⟨rfl, k + 1, by simp, by omega, by dsimp only; omega, by dsimp only; omega, fun q q0 q1 q2 => ?_⟩, by omega⟩
            dsimp only
            by_cases cq : q = (k : Int)
            · subst cq; omega
            · have := v3 q q0 (by omega) q2; omega
        · right
          exact ⟨v, h'', by simp (disch := omega) only [X2_reckonLeastFrom_L40, rr_p, rr_bp, rr_bb, rr_0, rr_lt, rr_blt, rr_le, rr_ble, rr_eq, rr_beq, rr_nl_n, rr_nl_s, rr_bnl_n, rr_bnl_s, rr_cond_t, rr_cond_f, rr_bcond_t, rr_bcond_f, rr_bon, rr_bcv, rr_cv, rr_g, rr_gr, rr_si, rr_sz, rr_sr, rr_al, rr_ld, rr_st, rr_rl, rr_rs, rr_ni, rr_nr, rr_z, rr_div, rr_rem, rr_lc, rr_mx, rr_mn, rr_ab, rr_no, gd_t, bc_t, bc_f, gd_tt, bc_tt, bc_ff, or_true, true_or, and_true, true_and, Nat.reduceAdd, ff0], rfl, v1, v2, fun q q0 q1 q2 => v3 q q0 (by omega) q2⟩
  · have : k = E.1 := by omega
    subst this
    simp (disch := omega) only [hl_T_sF, hl_N_sF, hl_P_sF, hl_I_sF, hl_R_sF, hl_S_sF, hl_T_sP, hl_N_sP, hl_F_sP, hl_I_sP, hl_R_sP, hl_S_sP, hl_T_sI, hl_N_sI, hl_F_sI, hl_P_sI, hl_R_sI, hl_S_sI, hl_T_sR, hl_N_sR, hl_F_sR, hl_P_sR, hl_I_sR, hl_S_sR, hl_T_wI, hl_N_wI, hl_F_wI, hl_P_wI, hl_R_wI, hl_S_wI, hl_F_sF_s, hl_F_sF_n, hl_P_sP_s, hl_P_sP_n, hl_I_sI_s, hl_I_sI_n, hl_R_sR_s, hl_R_sR_n, hl_I_wI_s, hl_I_wI_n]
    exact ⟨by omega, by omega, fun s _ => ⟨by omega, fun _ => by omega⟩⟩
