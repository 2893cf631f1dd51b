def j_c (x0 : Nat) (y3 y4 y5 t7 : Int) : MO Bool :=
mo_lt y5 t7 (
mo_p true) (
mo_b (op_g 7 (some x0) 33) fun t8 =>
mo_lt y3 t8 (
mo_p true) (
mo_b (op_g 7 (some x0) 16) fun t9 =>
mo_lt y4 t9 (
mo_p true) (
mo_p false)))
def j_m (x0 : Nat) (y3 y5 t10 : Int) : MO Int :=
mo_lt y3 t10 (
mo_b (op_gr 7 (some x0) 29) fun t11 =>
mo_b (op_ld t11 y3) fun t12 =>
mo_eq t12 y5 (
mo_p 1) (
mo_p 0)) (
mo_p 0)
def j_o (x0 : Nat) (y4 y5 t14 : Int) : MO Int :=
mo_lt y4 t14 (
mo_b (op_gr 7 (some x0) 17) fun t15 =>
mo_b (op_ld t15 y4) fun t16 =>
mo_eq t16 y5 (
mo_p 1) (
mo_p 0)) (
mo_p 0)
def j_h (x0 : Nat) (y3 y4 y5 t13 t17 : Int) : MO (Int × Int × Int) :=
mo_b (
mo_eq t13 0 (
mo_eq t17 0 (
mo_p false) (
mo_p true)) (
mo_p true)) fun c127 => cond c127 (
mo_b (
mo_eq t13 0 (
mo_b (op_gr 7 (some x0) 19) fun t18 =>
mo_b (op_ld t18 y4) fun t19 =>
mo_p t19) (
mo_b (op_gr 7 (some x0) 31) fun t20 =>
mo_b (op_ld t20 y3) fun t21 =>
mo_p t21)) fun t22 =>
mo_b (mo_lp mo_N (X7_join_L162 t13 t22 x0 y3 y4) 0) fun _ =>
mo_b (
mo_eq t13 0 (
mo_b (op_gr 7 (some x0) 18) fun t36 =>
mo_b (op_ld t36 y4) fun t37 =>
mo_p t37) (
mo_b (op_gr 7 (some x0) 30) fun t38 =>
mo_b (op_ld t38 y3) fun t39 =>
mo_p t39)) fun t40 =>
mo_b (
mo_eq t13 0 (
mo_p 0) (
mo_p 1)) fun t41 =>
mo_b (
mo_eq t17 0 (
mo_p 0) (
mo_p 1)) fun t42 =>
mo_p ((y3 + t41), (y4 + t42), (y5 + t40))) (
mo_p (y3, y4, y5))
def j_r (x0 : Nat) (x1 t43 t44 t45 : Int) : MO ((Int × Int × Int) ⊕ Unit) :=
mo_b (op_gr 7 (some x0) 3) fun t46 =>
mo_b (op_ld t46 x1) fun t47 =>
mo_b (
mo_lt t45 t47 (
mo_b (op_g 7 (some x0) 33) fun t48 =>
mo_b (
mo_lt t43 t48 (
mo_b (op_gr 7 (some x0) 29) fun t52 =>
mo_b (op_ld t52 t43) fun t53 =>
mo_eq t53 t45 (
mo_p 1) (
mo_b (op_g 7 (some x0) 16) fun t54 =>
mo_lt t44 t54 (
mo_b (op_gr 7 (some x0) 17) fun t55 =>
mo_b (op_ld t55 t44) fun t56 =>
mo_eq t56 t45 (
mo_p 1) (
mo_p 0)) (
mo_p 0))) (
mo_b (op_g 7 (some x0) 16) fun t49 =>
mo_lt t44 t49 (
mo_b (op_gr 7 (some x0) 17) fun t50 =>
mo_b (op_ld t50 t44) fun t51 =>
mo_eq t51 t45 (
mo_p 1) (
mo_p 0)) (
mo_p 0))) fun t57 =>
mo_eq t57 0 (
mo_b (op_gr 7 (some x0) 28) fun t58 =>
mo_b (op_g 7 (some x0) 27) fun t59 =>
mo_b (op_gr 7 (some x0) 4) fun t60 =>
mo_b (op_ld t60 ((14 * x1) + t45)) fun t61 =>
mo_b (op_st t58 t59 t61) fun _ =>
mo_b (op_g 7 (some x0) 27) fun t62 =>
mo_b (op_si 7 (some x0) 27 (t62 + 1)) fun _ =>
mo_p (t45 + 1)) (
mo_p t45)) (
mo_p t45)) fun t63 =>
mo_p (.inl (t43, t44, t63))
theorem j_eq (x0 : Nat) (x1 y3 y4 y5 : Int) : X7_join_L40 x0 x1 (y3, y4, y5) = (
mo_b (op_gr 7 (some x0) 3) fun t6 =>
mo_b (op_ld t6 x1) fun t7 =>
mo_b (j_c x0 y3 y4 y5 t7) fun c48 => cond c48 (
mo_b (op_g 7 (some x0) 33) fun t10 =>
mo_b (j_m x0 y3 y5 t10) fun t13 =>
mo_b (op_g 7 (some x0) 16) fun t14 =>
mo_b (j_o x0 y4 y5 t14) fun t17 =>
mo_b (j_h x0 y3 y4 y5 t13 t17) fun (t43, t44, t45) => j_r x0 x1 t43 t44 t45) (
mo_p (.inr ()))) := rfl
theorem mRow_push {h : AH} {m : Nat} {r : List Int} {v : Int} (hR : mRow h m r) : mRow (ah_sF (ah_sI h (m + 20) (r.length : Int) v) m 27 ((r.length : Int) + 1)) m (r ++ [v]) ∧ MF m 20 21 27 28 h (ah_sF (ah_sI h (m + 20) (r.length : Int) v) m 27 ((r.length : Int) + 1)) := by
  refine ⟨⟨?_, fun j hj => ?_⟩, (MF.sI (al := 20) (ah_ := 21) (fl := 27) (fh := 28) (by omega) (by omega)).tr (MF.sF (al := 20) (ah_ := 21) (fl := 27) (fh := 28) (by omega) (by omega)) (by omega)⟩
  · simp (disch := omega) only [hl_T_sF, hl_N_sF, hl_P_sF, hl_I_sF, hl_R_sF, hl_S_sF, hl_T_sP, hl_N_sP, hl_F_sP, hl_I_sP, hl_R_sP, hl_S_sP, hl_T_sI, hl_N_sI, hl_F_sI, hl_P_sI, hl_R_sI, hl_S_sI, hl_T_sR, hl_N_sR, hl_F_sR, hl_P_sR, hl_I_sR, hl_S_sR, hl_T_wI, hl_N_wI, hl_F_wI, hl_P_wI, hl_R_wI, hl_S_wI, hl_F_sF_s, hl_F_sF_n, hl_P_sP_s, hl_P_sP_n, hl_I_sI_s, hl_I_sI_n, hl_R_sR_s, hl_R_sR_n, hl_I_wI_s, hl_I_wI_n, List.length_append, Int.natCast_add]; rfl
  · have hj : j < r.length + 1 := by simpa using hj
    by_cases c : j = r.length
    · subst c
      simp (disch := omega) only [hl_T_sF, hl_N_sF, hl_P_sF, hl_I_sF, hl_R_sF, hl_S_sF, hl_T_sP, hl_N_sP, hl_F_sP, hl_I_sP, hl_R_sP, hl_S_sP, hl_T_sI, hl_N_sI, hl_F_sI, hl_P_sI, hl_R_sI, hl_S_sI, hl_T_sR, hl_N_sR, hl_F_sR, hl_P_sR, hl_I_sR, hl_S_sR, hl_T_wI, hl_N_wI, hl_F_wI, hl_P_wI, hl_R_wI, hl_S_wI, hl_F_sF_s, hl_F_sF_n, hl_P_sP_s, hl_P_sP_n, hl_I_sI_s, hl_I_sI_n, hl_R_sR_s, hl_R_sR_n, hl_I_wI_s, hl_I_wI_n]
      rw [getD_app_r (Nat.le_refl _), Nat.sub_self]; rfl
    · simp (disch := omega) only [hl_T_sF, hl_N_sF, hl_P_sF, hl_I_sF, hl_R_sF, hl_S_sF, hl_T_sP, hl_N_sP, hl_F_sP, hl_I_sP, hl_R_sP, hl_S_sP, hl_T_sI, hl_N_sI, hl_F_sI, hl_P_sI, hl_R_sI, hl_S_sI, hl_T_sR, hl_N_sR, hl_F_sR, hl_P_sR, hl_I_sR, hl_S_sR, hl_T_wI, hl_N_wI, hl_F_wI, hl_P_wI, hl_R_wI, hl_S_wI, hl_F_sF_s, hl_F_sF_n, hl_P_sP_s, hl_P_sP_n, hl_I_sI_s, hl_I_sI_n, hl_R_sR_s, hl_R_sR_n, hl_I_wI_s, hl_I_wI_n]
      rw [getD_app_l (by omega)]
      exact hR.2 j (by omega)
/-- a loop that appends the lines l to the row at work -/
theorem lp_row {F : Int → MO (Int ⊕ Unit)} {h : AH} {m : Nat} {r : List Int} (l : List Int) (hR : mRow h m r) (hl : l.length < 1000) (step : ∀ (k : Nat) (h1 : AH), k < l.length → MF m 20 21 27 28 h h1 → mRow h1 m (r ++ l.take k) → F (k : Int) h1 = some (.inl ((k : Int) + 1), ah_sF (ah_sI h1 (m + 20) ((r ++ l.take k).length : Int) (l.getD k 0)) m 27 (((r ++ l.take k).length : Int) + 1))) (ex : ∀ h1 : AH, MF m 20 21 27 28 h h1 → F (l.length : Int) h1 = some (.inr (), h1)) : ∃ h', mo_lp mo_N F 0 h = some ((), h') ∧ mRow h' m (r ++ l) ∧ MF m 20 21 27 28 h h' := by
  have hL := lp_inv (F := F) (fun k h' => ∃ n : Nat, k = (n : Int) ∧ n ≤ l.length ∧ mRow h' m (r ++ l.take n) ∧ MF m 20 21 27 28 h h') (fun k => ((l.length : Int) - k).toNat) (fun _ h' => mRow h' m (r ++ l) ∧ MF m 20 21 27 28 h h') ?_ mo_N 0 h ⟨0, rfl, by omega, by rw [List.take_zero, List.append_nil]; exact hR, MF.rf⟩ (by rw [mo_N_v]; omega)
  · obtain ⟨_, h', e, q⟩ := hL; exact ⟨h', e, q⟩
  · rintro k h' ⟨n, rfl, n1, n2, n3⟩
    by_cases hn : n < l.length
    · left
      obtain ⟨a1, a2⟩ := mRow_push n2 (v := l.getD n 0)
      refine ⟨(n : Int) + 1, _, step n h' hn n3 n2, ⟨n + 1, by simp, by omega, ?_, n3.tr a2 (by omega)⟩, by omega⟩
      rw [take_s hn, ← List.append_assoc]; exact a1
    · right
      have : n = l.length := by omega
      subst this
      rw [List.take_length] at n2
      exact ⟨(), h', ex h' n3, n2, n3⟩
theorem q_jm {h : AH} {m i a : Nat} {P Q : List HK} (hW : xW h m P Q) (vP : pV P) (hi : i ≤ P.length) (ha : a ≤ 100) : j_m m (i : Int) (a : Int) (P.length : Int) h = some (br (i < P.length ∧ (hk P i).1 = (a : Int)) 1 0, h) := by
  obtain ⟨hS, ⟨x1, x2, x3⟩, -, ⟨l1, l2, l3⟩, -⟩ := id hW
  have mT := hS.1
  obtain ⟨p21, t21, n21⟩ := ms21 hS
  have r1 := (vP i).1
  by_cases c : i < P.length
  · obtain ⟨a1, a2, a3⟩ := x2 i c
    by_cases c2 : (hk P i).1 = (a : Int)
    · rw [bc_t ⟨c, c2⟩]; simp (disch := omega) only [j_m, rr_p, rr_bp, rr_bb, rr_0, rr_lt, rr_blt, rr_le, rr_ble, rr_eq, rr_beq, rr_nl_n, rr_nl_s, rr_bnl_n, rr_bnl_s, rr_cond_t, rr_cond_f, rr_bcond_t, rr_bcond_f, rr_bon, rr_bcv, rr_cv, rr_g, rr_gr, rr_si, rr_sz, rr_sr, rr_al, rr_ld, rr_st, rr_rl, rr_rs, rr_ni, rr_nr, rr_z, rr_div, rr_rem, rr_lc, rr_mx, rr_mn, rr_ab, rr_no, gd_t, bc_t, bc_f, gd_tt, bc_tt, bc_ff, or_true, true_or, and_true, true_and, Nat.reduceAdd, p21, a1]
    · rw [bc_f (fun z => c2 z.2)]; simp (disch := omega) only [j_m, rr_p, rr_bp, rr_bb, rr_0, rr_lt, rr_blt, rr_le, rr_ble, rr_eq, rr_beq, rr_nl_n, rr_nl_s, rr_bnl_n, rr_bnl_s, rr_cond_t, rr_cond_f, rr_bcond_t, rr_bcond_f, rr_bon, rr_bcv, rr_cv, rr_g, rr_gr, rr_si, rr_sz, rr_sr, rr_al, rr_ld, rr_st, rr_rl, rr_rs, rr_ni, rr_nr, rr_z, rr_div, rr_rem, rr_lc, rr_mx, rr_mn, rr_ab, rr_no, gd_t, bc_t, bc_f, gd_tt, bc_tt, bc_ff, or_true, true_or, and_true, true_and, Nat.reduceAdd, p21, a1]
  · rw [bc_f (fun z => c z.1)]; simp (disch := omega) only [j_m, rr_p, rr_bp, rr_bb, rr_0, rr_lt, rr_blt, rr_le, rr_ble, rr_eq, rr_beq, rr_nl_n, rr_nl_s, rr_bnl_n, rr_bnl_s, rr_cond_t, rr_cond_f, rr_bcond_t, rr_bcond_f, rr_bon, rr_bcv, rr_cv, rr_g, rr_gr, rr_si, rr_sz, rr_sr, rr_al, rr_ld, rr_st, rr_rl, rr_rs, rr_ni, rr_nr, rr_z, rr_div, rr_rem, rr_lc, rr_mx, rr_mn, rr_ab, rr_no, gd_t, bc_t, bc_f, gd_tt, bc_tt, bc_ff, or_true, true_or, and_true, true_and, Nat.reduceAdd]
theorem q_jo {h : AH} {m i a : Nat} {P Q : List HK} (hW : xW h m P Q) (vQ : pV Q) (hi : i ≤ Q.length) (ha : a ≤ 100) : j_o m (i : Int) (a : Int) (Q.length : Int) h = some (br (i < Q.length ∧ (hk Q i).1 = (a : Int)) 1 0, h) := by
  obtain ⟨hS, -, ⟨x1, x2, x3⟩, -, ⟨l1, l2, l3⟩⟩ := id hW
  have mT := hS.1
  obtain ⟨p13, t13, n13⟩ := ms13 hS
  have r1 := (vQ i).1
  by_cases c : i < Q.length
  · obtain ⟨a1, a2, a3⟩ := x2 i c
    by_cases c2 : (hk Q i).1 = (a : Int)
    · rw [bc_t ⟨c, c2⟩]; simp (disch := omega) only [j_o, rr_p, rr_bp, rr_bb, rr_0, rr_lt, rr_blt, rr_le, rr_ble, rr_eq, rr_beq, rr_nl_n, rr_nl_s, rr_bnl_n, rr_bnl_s, rr_cond_t, rr_cond_f, rr_bcond_t, rr_bcond_f, rr_bon, rr_bcv, rr_cv, rr_g, rr_gr, rr_si, rr_sz, rr_sr, rr_al, rr_ld, rr_st, rr_rl, rr_rs, rr_ni, rr_nr, rr_z, rr_div, rr_rem, rr_lc, rr_mx, rr_mn, rr_ab, rr_no, gd_t, bc_t, bc_f, gd_tt, bc_tt, bc_ff, or_true, true_or, and_true, true_and, Nat.reduceAdd, p13, a1]
    · rw [bc_f (fun z => c2 z.2)]; simp (disch := omega) only [j_o, rr_p, rr_bp, rr_bb, rr_0, rr_lt, rr_blt, rr_le, rr_ble, rr_eq, rr_beq, rr_nl_n, rr_nl_s, rr_bnl_n, rr_bnl_s, rr_cond_t, rr_cond_f, rr_bcond_t, rr_bcond_f, rr_bon, rr_bcv, rr_cv, rr_g, rr_gr, rr_si, rr_sz, rr_sr, rr_al, rr_ld, rr_st, rr_rl, rr_rs, rr_ni, rr_nr, rr_z, rr_div, rr_rem, rr_lc, rr_mx, rr_mn, rr_ab, rr_no, gd_t, bc_t, bc_f, gd_tt, bc_tt, bc_ff, or_true, true_or, and_true, true_and, Nat.reduceAdd, p13, a1]
  · rw [bc_f (fun z => c z.1)]; simp (disch := omega) only [j_o, rr_p, rr_bp, rr_bb, rr_0, rr_lt, rr_blt, rr_le, rr_ble, rr_eq, rr_beq, rr_nl_n, rr_nl_s, rr_bnl_n, rr_bnl_s, rr_cond_t, rr_cond_f, rr_bcond_t, rr_bcond_f, rr_bon, rr_bcv, rr_cv, rr_g, rr_gr, rr_si, rr_sz, rr_sr, rr_al, rr_ld, rr_st, rr_rl, rr_rs, rr_ni, rr_nr, rr_z, rr_div, rr_rem, rr_lc, rr_mx, rr_mn, rr_ab, rr_no, gd_t, bc_t, bc_f, gd_tt, bc_tt, bc_ff, or_true, true_or, and_true, true_and, Nat.reduceAdd]
theorem q_jh1 {h : AH} {m i j a : Nat} {o : Int} {P Q : List HK} {r : List Int} (hW : xW h m P Q) (hR : mRow h m r) (lr : r.length ≤ 60) (hi : i < P.length) (hj : j ≤ Q.length) (ho : o = 0 ∨ o = 1) : ∃ h', j_h m (i : Int) (j : Int) (a : Int) 1 o h = some (((i : Int) + 1, (j : Int) + o, (a : Int) + ((hk P i).2.1.length : Int)), h') ∧ mRow h' m (r ++ (hk P i).2.2) ∧ MF m 20 21 27 28 h h' := by
  obtain ⟨hS, ⟨x1, x2, x3⟩, ⟨⟨y1, y2, y3⟩, y4, y5, y6⟩, ⟨l1, l2, l3⟩, ⟨k1, k2, k3⟩⟩ := id hW
  have mT := hS.1
  obtain ⟨p22, t22, n22⟩ := ms22 hS
  obtain ⟨p23, t23, n23⟩ := ms23 hS
  obtain ⟨a1, a2, a3⟩ := x2 i hi
  have g3 := @hcs_s P i hi
  have g4 := @hcs_le P (i + 1)
  have g1 := @hgs_s P i hi
  have g2 := @hgs_le P (i + 1)
  obtain ⟨h1, e1, r1, f1⟩ := lp_row (F := X7_join_L162 1 ((hk P i).2.2.length : Int) m (i : Int) (j : Int)) (hk P i).2.2 hR (by omega) (by
    intro k g hk1 hf hr
    have hWg := xW_fr hW hf (by omega)
    have mTg := hWg.1.1
    obtain ⟨p20, t20, n20⟩ := ms20 hWg.1
    obtain ⟨p24, t24, n24⟩ := ms24 hWg.1
    have e3 := q7_xFrom hWg (i := i) (by omega)
    have a4 := xW_xl hWg hi hk1
    have z := hr.1
    have lz : (r ++ (hk P i).2.2.take k).length = r.length + k := by rw [List.length_append, List.length_take]; omega
    have lz2 : ((r ++ (hk P i).2.2.take k).length : Int) = (r.length : Int) + (k : Int) := by rw [lz]; omega
    simp (disch := omega) only [X7_join_L162, rr_p, rr_bp, rr_bb, rr_0, rr_lt, rr_blt, rr_le, rr_ble, rr_eq, rr_beq, rr_nl_n, rr_nl_s, rr_bnl_n, rr_bnl_s, rr_cond_t, rr_cond_f, rr_bcond_t, rr_bcond_f, rr_bon, rr_bcv, rr_cv, rr_g, rr_gr, rr_si, rr_sz, rr_sr, rr_al, rr_ld, rr_st, rr_rl, rr_rs, rr_ni, rr_nr, rr_z, rr_div, rr_rem, rr_lc, rr_mx, rr_mn, rr_ab, rr_no, gd_t, bc_t, bc_f, gd_tt, bc_tt, bc_ff, or_true, true_or, and_true, true_and, Nat.reduceAdd, hl_T_sF, hl_N_sF, hl_P_sF, hl_I_sF, hl_R_sF, hl_S_sF, hl_T_sP, hl_N_sP, hl_F_sP, hl_I_sP, hl_R_sP, hl_S_sP, hl_T_sI, hl_N_sI, hl_F_sI, hl_P_sI, hl_R_sI, hl_S_sI, hl_T_sR, hl_N_sR, hl_F_sR, hl_P_sR, hl_I_sR, hl_S_sR, hl_T_wI, hl_N_wI, hl_F_wI, hl_P_wI, hl_R_wI, hl_S_wI, hl_F_sF_s, hl_F_sF_n, hl_P_sP_s, hl_P_sP_n, hl_I_sI_s, hl_I_sI_n, hl_R_sR_s, hl_R_sR_n, hl_I_wI_s, hl_I_wI_n, p20, p24, z, mo_b_s e3, a4]) (by
    intro g hf
    simp (disch := omega) only [X7_join_L162, rr_p, rr_bp, rr_bb, rr_0, rr_lt, rr_blt, rr_le, rr_ble, rr_eq, rr_beq, rr_nl_n, rr_nl_s, rr_bnl_n, rr_bnl_s, rr_cond_t, rr_cond_f, rr_bcond_t, rr_bcond_f, rr_bon, rr_bcv, rr_cv, rr_g, rr_gr, rr_si, rr_sz, rr_sr, rr_al, rr_ld, rr_st, rr_rl, rr_rs, rr_ni, rr_nr, rr_z, rr_div, rr_rem, rr_lc, rr_mx, rr_mn, rr_ab, rr_no, gd_t, bc_t, bc_f, gd_tt, bc_tt, bc_ff, or_true, true_or, and_true, true_and, Nat.reduceAdd])
  have hW1 := xW_fr hW f1 (by omega)
  have mT1 := hW1.1.1
  obtain ⟨pp, tt, nn⟩ := ms22 hW1.1
  have b2 := (hW1.2.1.2.1 i hi).2.1
  refine ⟨h1, ?_, r1, f1⟩
  rcases ho with rfl | rfl
  · simp (disch := omega) only [j_h, rr_p, rr_bp, rr_bb, rr_0, rr_lt, rr_blt, rr_le, rr_ble, rr_eq, rr_beq, rr_nl_n, rr_nl_s, rr_bnl_n, rr_bnl_s, rr_cond_t, rr_cond_f, rr_bcond_t, rr_bcond_f, rr_bon, rr_bcv, rr_cv, rr_g, rr_gr, rr_si, rr_sz, rr_sr, rr_al, rr_ld, rr_st, rr_rl, rr_rs, rr_ni, rr_nr, rr_z, rr_div, rr_rem, rr_lc, rr_mx, rr_mn, rr_ab, rr_no, gd_t, bc_t, bc_f, gd_tt, bc_tt, bc_ff, or_true, true_or, and_true, true_and, Nat.reduceAdd, p23, a3, mo_b_s e1, pp, b2]
  · simp (disch := omega) only [j_h, rr_p, rr_bp, rr_bb, rr_0, rr_lt, rr_blt, rr_le, rr_ble, rr_eq, rr_beq, rr_nl_n, rr_nl_s, rr_bnl_n, rr_bnl_s, rr_cond_t, rr_cond_f, rr_bcond_t, rr_bcond_f, rr_bon, rr_bcv, rr_cv, rr_g, rr_gr, rr_si, rr_sz, rr_sr, rr_al, rr_ld, rr_st, rr_rl, rr_rs, rr_ni, rr_nr, rr_z, rr_div, rr_rem, rr_lc, rr_mx, rr_mn, rr_ab, rr_no, gd_t, bc_t, bc_f, gd_tt, bc_tt, bc_ff, or_true, true_or, and_true, true_and, Nat.reduceAdd, p23, a3, mo_b_s e1, pp, b2]
theorem q_jh2 {h : AH} {m i j a : Nat} {P Q : List HK} {r : List Int} (hW : xW h m P Q) (hR : mRow h m r) (lr : r.length ≤ 60) (hi : i ≤ P.length) (hj : j < Q.length) : ∃ h', j_h m (i : Int) (j : Int) (a : Int) 0 1 h = some (((i : Int), (j : Int) + 1, (a : Int) + ((hk Q j).2.1.length : Int)), h') ∧ mRow h' m (r ++ (hk Q j).2.2) ∧ MF m 20 21 27 28 h h' := by
  obtain ⟨hS, ⟨x1, x2, x3⟩, ⟨⟨y1, y2, y3⟩, y4, y5, y6⟩, ⟨l1, l2, l3⟩, ⟨k1, k2, k3⟩⟩ := id hW
  have mT := hS.1
  obtain ⟨p14, t14, n14⟩ := ms14 hS
  obtain ⟨p15, t15, n15⟩ := ms15 hS
  obtain ⟨a1, a2, a3⟩ := y4 j hj
  have g3 := @hcs_s Q j hj
  have g4 := @hcs_le Q (j + 1)
  have g1 := @hgs_s Q j hj
  have g2 := @hgs_le Q (j + 1)
  obtain ⟨h1, e1, r1, f1⟩ := lp_row (F := X7_join_L162 0 ((hk Q j).2.2.length : Int) m (i : Int) (j : Int)) (hk Q j).2.2 hR (by omega) (by
    intro k g hk1 hf hr
    have hWg := xW_fr hW hf (by omega)
    have mTg := hWg.1.1
    obtain ⟨p20, t20, n20⟩ := ms20 hWg.1
    obtain ⟨p17, t17, n17⟩ := ms17 hWg.1
    have e3 := q7_workFrom hWg (i := j) (by omega)
    have a4 := xW_wl hWg hj hk1
    have z := hr.1
    have lz : (r ++ (hk Q j).2.2.take k).length = r.length + k := by rw [List.length_append, List.length_take]; omega
    have lz2 : ((r ++ (hk Q j).2.2.take k).length : Int) = (r.length : Int) + (k : Int) := by rw [lz]; omega
    simp (disch := omega) only [X7_join_L162, rr_p, rr_bp, rr_bb, rr_0, rr_lt, rr_blt, rr_le, rr_ble, rr_eq, rr_beq, rr_nl_n, rr_nl_s, rr_bnl_n, rr_bnl_s, rr_cond_t, rr_cond_f, rr_bcond_t, rr_bcond_f, rr_bon, rr_bcv, rr_cv, rr_g, rr_gr, rr_si, rr_sz, rr_sr, rr_al, rr_ld, rr_st, rr_rl, rr_rs, rr_ni, rr_nr, rr_z, rr_div, rr_rem, rr_lc, rr_mx, rr_mn, rr_ab, rr_no, gd_t, bc_t, bc_f, gd_tt, bc_tt, bc_ff, or_true, true_or, and_true, true_and, Nat.reduceAdd, hl_T_sF, hl_N_sF, hl_P_sF, hl_I_sF, hl_R_sF, hl_S_sF, hl_T_sP, hl_N_sP, hl_F_sP, hl_I_sP, hl_R_sP, hl_S_sP, hl_T_sI, hl_N_sI, hl_F_sI, hl_P_sI, hl_R_sI, hl_S_sI, hl_T_sR, hl_N_sR, hl_F_sR, hl_P_sR, hl_I_sR, hl_S_sR, hl_T_wI, hl_N_wI, hl_F_wI, hl_P_wI, hl_R_wI, hl_S_wI, hl_F_sF_s, hl_F_sF_n, hl_P_sP_s, hl_P_sP_n, hl_I_sI_s, hl_I_sI_n, hl_R_sR_s, hl_R_sR_n, hl_I_wI_s, hl_I_wI_n, p20, p17, z, mo_b_s e3, a4]) (by
    intro g hf
    simp (disch := omega) only [X7_join_L162, rr_p, rr_bp, rr_bb, rr_0, rr_lt, rr_blt, rr_le, rr_ble, rr_eq, rr_beq, rr_nl_n, rr_nl_s, rr_bnl_n, rr_bnl_s, rr_cond_t, rr_cond_f, rr_bcond_t, rr_bcond_f, rr_bon, rr_bcv, rr_cv, rr_g, rr_gr, rr_si, rr_sz, rr_sr, rr_al, rr_ld, rr_st, rr_rl, rr_rs, rr_ni, rr_nr, rr_z, rr_div, rr_rem, rr_lc, rr_mx, rr_mn, rr_ab, rr_no, gd_t, bc_t, bc_f, gd_tt, bc_tt, bc_ff, or_true, true_or, and_true, true_and, Nat.reduceAdd])
  have hW1 := xW_fr hW f1 (by omega)
  have mT1 := hW1.1.1
  obtain ⟨pp, tt, nn⟩ := ms14 hW1.1
  have b2 := (hW1.2.2.1.2.1 j hj).2.1
  refine ⟨h1, ?_, r1, f1⟩
  simp (disch := omega) only [j_h, rr_p, rr_bp, rr_bb, rr_0, rr_lt, rr_blt, rr_le, rr_ble, rr_eq, rr_beq, rr_nl_n, rr_nl_s, rr_bnl_n, rr_bnl_s, rr_cond_t, rr_cond_f, rr_bcond_t, rr_bcond_f, rr_bon, rr_bcv, rr_cv, rr_g, rr_gr, rr_si, rr_sz, rr_sr, rr_al, rr_ld, rr_st, rr_rl, rr_rs, rr_ni, rr_nr, rr_z, rr_div, rr_rem, rr_lc, rr_mx, rr_mn, rr_ab, rr_no, gd_t, bc_t, bc_f, gd_tt, bc_tt, bc_ff, or_true, true_or, and_true, true_and, Nat.reduceAdd, p15, a3, mo_b_s e1, pp, b2, Int.add_zero]
/-- the base row in the model -/
def mBase (h : AH) (m : Nat) (b : Int) (xs : List Int) : Prop := (0 ≤ b ∧ b < 10) ∧ ah_I h (m + 2) b = (xs.length : Int) ∧ ∀ k : Nat, k < xs.length → ah_I h (m + 3) (14 * b + (k : Int)) = xs.getD k 0
theorem mBase_fr {m al ah_ fl fh : Nat} {h h' : AH} {b : Int} {xs : List Int} (hB : mBase h m b xs) (f : MF m al ah_ fl fh h h') (q : 4 ≤ al) : mBase h' m b xs := by
  unfold mBase at hB ⊢
  rw [f.2.2.2.2.1 2 (by omega), f.2.2.2.2.1 3 (by omega)]; exact hB
theorem q_jr {h : AH} {m i j a : Nat} {b : Int} {P Q : List HK} {r xs : List Int} (hW : xW h m P Q) (hR : mRow h m r) (hB : mBase h m b xs) (vP : pV P) (vQ : pV Q) (lx : xs.length ≤ 14) (lr : r.length ≤ 60) (hi : i ≤ P.length) (hj : j ≤ Q.length) (ha : a ≤ xs.length) (hp : i < P.length → (a : Int) < (hk P i).1) (hq : j < Q.length → (a : Int) < (hk Q j).1) : (a < xs.length → j_r m b (i : Int) (j : Int) (a : Int) h = some (.inl ((i : Int), (j : Int), (a : Int) + 1), ah_sF (ah_sI h (m + 20) (r.length : Int) (xs.getD a 0)) m 27 ((r.length : Int) + 1))) ∧ (¬ a < xs.length → j_r m b (i : Int) (j : Int) (a : Int) h = some (.inl ((i : Int), (j : Int), (a : Int)), h)) := by
  obtain ⟨hS, ⟨x1, x2, x3⟩, ⟨⟨y1, y2, y3⟩, y4, y5, y6⟩, ⟨l1, l2, l3⟩, ⟨k1, k2, k3⟩⟩ := id hW
  obtain ⟨⟨b1, b2⟩, b3, b4⟩ := hB
  have mT := hS.1
  obtain ⟨p2, t2, n2⟩ := ms2 hS
  obtain ⟨p3, t3, n3⟩ := ms3 hS
  obtain ⟨p13, t13, n13⟩ := ms13 hS
  obtain ⟨p20, t20, n20⟩ := ms20 hS
  obtain ⟨p21, t21, n21⟩ := ms21 hS
  have z := hR.1
  refine ⟨fun c => ?_, fun c => ?_⟩
  · have b5 := b4 a c
    by_cases ci : i < P.length
    · have w1 := hp ci
      have w2 := (x2 i ci).1
      have r1 := (vP i).1
      by_cases cj : j < Q.length
      · have w3 := hq cj
        have w4 := (y4 j cj).1
        have r2 := (vQ j).1
        simp (disch := omega) only [j_r, rr_p, rr_bp, rr_bb, rr_0, rr_lt, rr_blt, rr_le, rr_ble, rr_eq, rr_beq, rr_nl_n, rr_nl_s, rr_bnl_n, rr_bnl_s, rr_cond_t, rr_cond_f, rr_bcond_t, rr_bcond_f, rr_bon, rr_bcv, rr_cv, rr_g, rr_gr, rr_si, rr_sz, rr_sr, rr_al, rr_ld, rr_st, rr_rl, rr_rs, rr_ni, rr_nr, rr_z, rr_div, rr_rem, rr_lc, rr_mx, rr_mn, rr_ab, rr_no, gd_t, bc_t, bc_f, gd_tt, bc_tt, bc_ff, or_true, true_or, and_true, true_and, Nat.reduceAdd, hl_T_sF, hl_N_sF, hl_P_sF, hl_I_sF, hl_R_sF, hl_S_sF, hl_T_sP, hl_N_sP, hl_F_sP, hl_I_sP, hl_R_sP, hl_S_sP, hl_T_sI, hl_N_sI, hl_F_sI, hl_P_sI, hl_R_sI, hl_S_sI, hl_T_sR, hl_N_sR, hl_F_sR, hl_P_sR, hl_I_sR, hl_S_sR, hl_T_wI, hl_N_wI, hl_F_wI, hl_P_wI, hl_R_wI, hl_S_wI, hl_F_sF_s, hl_F_sF_n, hl_P_sP_s, hl_P_sP_n, hl_I_sI_s, hl_I_sI_n, hl_R_sR_s, hl_R_sR_n, hl_I_wI_s, hl_I_wI_n, p2, p3, p13, p20, p21, b3, b5, x1, y1, w2, w4, z]
      · simp (disch := omega) only [j_r, rr_p, rr_bp, rr_bb, rr_0, rr_lt, rr_blt, rr_le, rr_ble, rr_eq, rr_beq, rr_nl_n, rr_nl_s, rr_bnl_n, rr_bnl_s, rr_cond_t, rr_cond_f, rr_bcond_t, rr_bcond_f, rr_bon, rr_bcv, rr_cv, rr_g, rr_gr, rr_si, rr_sz, rr_sr, rr_al, rr_ld, rr_st, rr_rl, rr_rs, rr_ni, rr_nr, rr_z, rr_div, rr_rem, rr_lc, rr_mx, rr_mn, rr_ab, rr_no, gd_t, bc_t, bc_f, gd_tt, bc_tt, bc_ff, or_true, true_or, and_true, true_and, Nat.reduceAdd, hl_T_sF, hl_N_sF, hl_P_sF, hl_I_sF, hl_R_sF, hl_S_sF, hl_T_sP, hl_N_sP, hl_F_sP, hl_I_sP, hl_R_sP, hl_S_sP, hl_T_sI, hl_N_sI, hl_F_sI, hl_P_sI, hl_R_sI, hl_S_sI, hl_T_sR, hl_N_sR, hl_F_sR, hl_P_sR, hl_I_sR, hl_S_sR, hl_T_wI, hl_N_wI, hl_F_wI, hl_P_wI, hl_R_wI, hl_S_wI, hl_F_sF_s, hl_F_sF_n, hl_P_sP_s, hl_P_sP_n, hl_I_sI_s, hl_I_sI_n, hl_R_sR_s, hl_R_sR_n, hl_I_wI_s, hl_I_wI_n, p2, p3, p13, p20, p21, b3, b5, x1, y1, w2, z]
    · by_cases cj : j < Q.length
      · have w3 := hq cj
        have w4 := (y4 j cj).1
        have r2 := (vQ j).1
        simp (disch := omega) only [j_r, rr_p, rr_bp, rr_bb, rr_0, rr_lt, rr_blt, rr_le, rr_ble, rr_eq, rr_beq, rr_nl_n, rr_nl_s, rr_bnl_n, rr_bnl_s, rr_cond_t, rr_cond_f, rr_bcond_t, rr_bcond_f, rr_bon, rr_bcv, rr_cv, rr_g, rr_gr, rr_si, rr_sz, rr_sr, rr_al, rr_ld, rr_st, rr_rl, rr_rs, rr_ni, rr_nr, rr_z, rr_div, rr_rem, rr_lc, rr_mx, rr_mn, rr_ab, rr_no, gd_t, bc_t, bc_f, gd_tt, bc_tt, bc_ff, or_true, true_or, and_true, true_and, Nat.reduceAdd, hl_T_sF, hl_N_sF, hl_P_sF, hl_I_sF, hl_R_sF, hl_S_sF, hl_T_sP, hl_N_sP, hl_F_sP, hl_I_sP, hl_R_sP, hl_S_sP, hl_T_sI, hl_N_sI, hl_F_sI, hl_P_sI, hl_R_sI, hl_S_sI, hl_T_sR, hl_N_sR, hl_F_sR, hl_P_sR, hl_I_sR, hl_S_sR, hl_T_wI, hl_N_wI, hl_F_wI, hl_P_wI, hl_R_wI, hl_S_wI, hl_F_sF_s, hl_F_sF_n, hl_P_sP_s, hl_P_sP_n, hl_I_sI_s, hl_I_sI_n, hl_R_sR_s, hl_R_sR_n, hl_I_wI_s, hl_I_wI_n, p2, p3, p13, p20, p21, b3, b5, x1, y1, w4, z]
      · simp (disch := omega) only [j_r, rr_p, rr_bp, rr_bb, rr_0, rr_lt, rr_blt, rr_le, rr_ble, rr_eq, rr_beq, rr_nl_n, rr_nl_s, rr_bnl_n, rr_bnl_s, rr_cond_t, rr_cond_f, rr_bcond_t, rr_bcond_f, rr_bon, rr_bcv, rr_cv, rr_g, rr_gr, rr_si, rr_sz, rr_sr, rr_al, rr_ld, rr_st, rr_rl, rr_rs, rr_ni, rr_nr, rr_z, rr_div, rr_rem, rr_lc, rr_mx, rr_mn, rr_ab, rr_no, gd_t, bc_t, bc_f, gd_tt, bc_tt, bc_ff, or_true, true_or, and_true, true_and, Nat.reduceAdd, hl_T_sF, hl_N_sF, hl_P_sF, hl_I_sF, hl_R_sF, hl_S_sF, hl_T_sP, hl_N_sP, hl_F_sP, hl_I_sP, hl_R_sP, hl_S_sP, hl_T_sI, hl_N_sI, hl_F_sI, hl_P_sI, hl_R_sI, hl_S_sI, hl_T_sR, hl_N_sR, hl_F_sR, hl_P_sR, hl_I_sR, hl_S_sR, hl_T_wI, hl_N_wI, hl_F_wI, hl_P_wI, hl_R_wI, hl_S_wI, hl_F_sF_s, hl_F_sF_n, hl_P_sP_s, hl_P_sP_n, hl_I_sI_s, hl_I_sI_n, hl_R_sR_s, hl_R_sR_n, hl_I_wI_s, hl_I_wI_n, p2, p3, p13, p20, p21, b3, b5, x1, y1, z]
  · simp (disch := omega) only [j_r, rr_p, rr_bp, rr_bb, rr_0, rr_lt, rr_blt, rr_le, rr_ble, rr_eq, rr_beq, rr_nl_n, rr_nl_s, rr_bnl_n, rr_bnl_s, rr_cond_t, rr_cond_f, rr_bcond_t, rr_bcond_f, rr_bon, rr_bcv, rr_cv, rr_g, rr_gr, rr_si, rr_sz, rr_sr, rr_al, rr_ld, rr_st, rr_rl, rr_rs, rr_ni, rr_nr, rr_z, rr_div, rr_rem, rr_lc, rr_mx, rr_mn, rr_ab, rr_no, gd_t, bc_t, bc_f, gd_tt, bc_tt, bc_ff, or_true, true_or, and_true, true_and, Nat.reduceAdd, p2, b3]
