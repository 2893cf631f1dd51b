def tg_A (t19 : Int) (x0 : Nat) (x1 y4 y5 y25 y26 y27 t30 : Int) : MO (Int × Int × Int) :=
mo_lt y25 t30 (
mo_b (
mo_eq y25 y4 (
mo_eq t19 0 (
mo_b (mo_cv 7 (some x0) (fun b33 => X7_standsAt b33 x1 y25)) fun t33 =>
mo_le t33 y27 (
mo_le y25 y4 (
mo_le y26 y5 (
mo_p false) (
mo_p true)) (
mo_p true)) (
mo_p false)) (
mo_p true)) (
mo_b (mo_cv 7 (some x0) (fun b31 => X7_standsAt b31 x1 y25)) fun t31 =>
mo_le t31 y27 (
mo_le y25 y4 (
mo_le y26 y5 (
mo_p false) (
mo_p true)) (
mo_p true)) (
mo_p false))) fun c176 => cond c176 (
mo_b (mo_cv 7 (some x0) (fun b38 => X7_standsAt b38 x1 y25)) fun t35 =>
mo_b (op_gr 7 (some x0) 12) fun t36 =>
mo_b (op_ld t36 ((10 * x1) + y25)) fun t37 =>
mo_b (
mo_le (t35 + t37) y27 (
mo_p y27) (
mo_p (t35 + t37))) fun t38 =>
mo_p ((y25 + 1), t38, 1)) (
mo_p (y25, y27, 0))) (
mo_p (y25, y27, 0))
def tg_B (t19 : Int) (x0 : Nat) (x2 y4 y5 y26 t40 t41 t42 : Int) : MO ((Int × Int × Int × Int) ⊕ (Int × Int × Int)) :=
mo_b (op_gr 7 (some x0) 9) fun t43 =>
mo_b (op_ld t43 x2) fun t44 =>
mo_lt y26 t44 (
mo_b (
mo_eq y26 y5 (
mo_eq t19 0 (
mo_p false) (
mo_b (op_gr 7 (some x0) 10) fun t47 =>
mo_b (op_ld t47 ((10 * x2) + y26)) fun t48 =>
mo_le t48 t41 (
mo_le t40 y4 (
mo_le y26 y5 (
mo_p true) (
mo_p false)) (
mo_p false)) (
mo_p true))) (
mo_b (op_gr 7 (some x0) 10) fun t45 =>
mo_b (op_ld t45 ((10 * x2) + y26)) fun t46 =>
mo_le t46 t41 (
mo_le t40 y4 (
mo_le y26 y5 (
mo_p true) (
mo_p false)) (
mo_p false)) (
mo_p true))) fun c265 => cond c265 (
mo_p (.inl (t40, y26, t41, t42))) (
mo_b (op_gr 7 (some x0) 10) fun t49 =>
mo_b (op_ld t49 ((10 * x2) + y26)) fun t50 =>
mo_b (op_gr 7 (some x0) 11) fun t51 =>
mo_b (op_ld t51 ((10 * x2) + y26)) fun t52 =>
mo_b (
mo_le (t50 + t52) t41 (
mo_p t41) (
mo_p (t50 + t52))) fun t53 =>
mo_p (.inl (t40, (y26 + 1), t53, 1)))) (
mo_p (.inl (t40, y26, t41, t42)))
theorem tg_eq (t19 : Int) (x0 : Nat) (x1 x2 y4 y5 y25 y26 y27 y28 : Int) : X7_together_L155 t19 x0 x1 x2 y4 y5 (y25, y26, y27, y28) = (
mo_eq y28 0 (
mo_p (.inr (y25, y26, y27))) (
mo_b (op_gr 7 (some x0) 9) fun t29 =>
mo_b (op_ld t29 x1) fun t30 =>
mo_b (tg_A t19 x0 x1 y4 y5 y25 y26 y27 t30) fun (t40, t41, t42) => tg_B t19 x0 x2 y4 y5 y26 t40 t41 t42)) := rfl
theorem q_tA {h : AH} {m p i0 j0 i j : Nat} {e f : Int} {P : List HK} (hP : mQ h m p P) (vP : pV P) (hi0 : i0 ≤ i) (hj0 : j0 ≤ j) (hi : i ≤ P.length) (hj : j ≤ 100) (he : -300000 ≤ e ∧ e ≤ 300000) (hf : f = 0 ∨ f = 1) (a1 : i = i0 → f = 1 → i < P.length → hB P i ≤ e) (a2 : i < P.length → hB P i ≤ e → i = i0 → j = j0 → f = 1) : tg_A f m (p : Int) (i0 : Int) (j0 : Int) (i : Int) (j : Int) e (P.length : Int) h = some (br (i < P.length ∧ hB P i ≤ e) (((i + 1 : Nat) : Int), max e (hB P i + ((hk P i).2.2.length : Int)), 1) ((i : Int), e, 0), h) := by
  obtain ⟨hS, hPt, hp, l1, l2, l3⟩ := id hP
  have mT := hS.1
  obtain ⟨p10, t10, n10⟩ := ms10 hS
  by_cases ci : i < P.length
  · have e1 := q7_standsAt hP ci
    have r1 := hB_rM hP vP i
    obtain ⟨b1, b2, b3⟩ := mQ_a hP (i := (i : Int)) (by omega) (by omega)
    rw [Int.toNat_natCast] at b3
    have g3 := @hcs_s P i ci
    have g4 := @hcs_le P (i + 1)
    by_cases ca : hB P i ≤ e
    · rw [bc_t ⟨ci, ca⟩]
      by_cases cm : hB P i + ((hk P i).2.2.length : Int) ≤ e
      · rw [show max e (hB P i + ((hk P i).2.2.length : Int)) = e by omega]
        by_cases c0 : i = i0
        · subst c0
          rcases hf with rfl | rfl
          · have cj : j0 < j := by
              by_cases z : j = j0
              · have := a2 ci ca rfl z; omega
              · omega
            simp (disch := omega) only [tg_A, rr_p, rr_bp, rr_bb, rr_0, rr_lt, rr_blt, rr_le, rr_ble, rr_eq, rr_beq, rr_nl_n, rr_nl_s, rr_bnl_n, rr_bnl_s, rr_cond_t, rr_cond_f, rr_bcond_t, rr_bcond_f, rr_bon, rr_bcv, rr_cv, rr_g, rr_gr, rr_si, rr_sz, rr_sr, rr_al, rr_ld, rr_st, rr_rl, rr_rs, rr_ni, rr_nr, rr_z, rr_div, rr_rem, rr_lc, rr_mx, rr_mn, rr_ab, rr_no, gd_t, bc_t, bc_f, gd_tt, bc_tt, bc_ff, or_true, true_or, and_true, true_and, Nat.reduceAdd, p10, mo_b_s e1, b3, Int.natCast_add, Int.natCast_one]
          · simp (disch := omega) only [tg_A, rr_p, rr_bp, rr_bb, rr_0, rr_lt, rr_blt, rr_le, rr_ble, rr_eq, rr_beq, rr_nl_n, rr_nl_s, rr_bnl_n, rr_bnl_s, rr_cond_t, rr_cond_f, rr_bcond_t, rr_bcond_f, rr_bon, rr_bcv, rr_cv, rr_g, rr_gr, rr_si, rr_sz, rr_sr, rr_al, rr_ld, rr_st, rr_rl, rr_rs, rr_ni, rr_nr, rr_z, rr_div, rr_rem, rr_lc, rr_mx, rr_mn, rr_ab, rr_no, gd_t, bc_t, bc_f, gd_tt, bc_tt, bc_ff, or_true, true_or, and_true, true_and, Nat.reduceAdd, p10, mo_b_s e1, b3, Int.natCast_add, Int.natCast_one]
        · simp (disch := omega) only [tg_A, rr_p, rr_bp, rr_bb, rr_0, rr_lt, rr_blt, rr_le, rr_ble, rr_eq, rr_beq, rr_nl_n, rr_nl_s, rr_bnl_n, rr_bnl_s, rr_cond_t, rr_cond_f, rr_bcond_t, rr_bcond_f, rr_bon, rr_bcv, rr_cv, rr_g, rr_gr, rr_si, rr_sz, rr_sr, rr_al, rr_ld, rr_st, rr_rl, rr_rs, rr_ni, rr_nr, rr_z, rr_div, rr_rem, rr_lc, rr_mx, rr_mn, rr_ab, rr_no, gd_t, bc_t, bc_f, gd_tt, bc_tt, bc_ff, or_true, true_or, and_true, true_and, Nat.reduceAdd, p10, mo_b_s e1, b3, Int.natCast_add, Int.natCast_one]
      · rw [show max e (hB P i + ((hk P i).2.2.length : Int)) = hB P i + ((hk P i).2.2.length : Int) by omega]
        by_cases c0 : i = i0
        · subst c0
          rcases hf with rfl | rfl
          · have cj : j0 < j := by
              by_cases z : j = j0
              · have := a2 ci ca rfl z; omega
              · omega
            simp (disch := omega) only [tg_A, rr_p, rr_bp, rr_bb, rr_0, rr_lt, rr_blt, rr_le, rr_ble, rr_eq, rr_beq, rr_nl_n, rr_nl_s, rr_bnl_n, rr_bnl_s, rr_cond_t, rr_cond_f, rr_bcond_t, rr_bcond_f, rr_bon, rr_bcv, rr_cv, rr_g, rr_gr, rr_si, rr_sz, rr_sr, rr_al, rr_ld, rr_st, rr_rl, rr_rs, rr_ni, rr_nr, rr_z, rr_div, rr_rem, rr_lc, rr_mx, rr_mn, rr_ab, rr_no, gd_t, bc_t, bc_f, gd_tt, bc_tt, bc_ff, or_true, true_or, and_true, true_and, Nat.reduceAdd, p10, mo_b_s e1, b3, Int.natCast_add, Int.natCast_one]
          · simp (disch := omega) only [tg_A, rr_p, rr_bp, rr_bb, rr_0, rr_lt, rr_blt, rr_le, rr_ble, rr_eq, rr_beq, rr_nl_n, rr_nl_s, rr_bnl_n, rr_bnl_s, rr_cond_t, rr_cond_f, rr_bcond_t, rr_bcond_f, rr_bon, rr_bcv, rr_cv, rr_g, rr_gr, rr_si, rr_sz, rr_sr, rr_al, rr_ld, rr_st, rr_rl, rr_rs, rr_ni, rr_nr, rr_z, rr_div, rr_rem, rr_lc, rr_mx, rr_mn, rr_ab, rr_no, gd_t, bc_t, bc_f, gd_tt, bc_tt, bc_ff, or_true, true_or, and_true, true_and, Nat.reduceAdd, p10, mo_b_s e1, b3, Int.natCast_add, Int.natCast_one]
        · simp (disch := omega) only [tg_A, rr_p, rr_bp, rr_bb, rr_0, rr_lt, rr_blt, rr_le, rr_ble, rr_eq, rr_beq, rr_nl_n, rr_nl_s, rr_bnl_n, rr_bnl_s, rr_cond_t, rr_cond_f, rr_bcond_t, rr_bcond_f, rr_bon, rr_bcv, rr_cv, rr_g, rr_gr, rr_si, rr_sz, rr_sr, rr_al, rr_ld, rr_st, rr_rl, rr_rs, rr_ni, rr_nr, rr_z, rr_div, rr_rem, rr_lc, rr_mx, rr_mn, rr_ab, rr_no, gd_t, bc_t, bc_f, gd_tt, bc_tt, bc_ff, or_true, true_or, and_true, true_and, Nat.reduceAdd, p10, mo_b_s e1, b3, Int.natCast_add, Int.natCast_one]
    · rw [bc_f (fun z => ca z.2)]
      by_cases c0 : i = i0
      · rcases hf with rfl | rfl
        · subst c0
          simp (disch := omega) only [tg_A, rr_p, rr_bp, rr_bb, rr_0, rr_lt, rr_blt, rr_le, rr_ble, rr_eq, rr_beq, rr_nl_n, rr_nl_s, rr_bnl_n, rr_bnl_s, rr_cond_t, rr_cond_f, rr_bcond_t, rr_bcond_f, rr_bon, rr_bcv, rr_cv, rr_g, rr_gr, rr_si, rr_sz, rr_sr, rr_al, rr_ld, rr_st, rr_rl, rr_rs, rr_ni, rr_nr, rr_z, rr_div, rr_rem, rr_lc, rr_mx, rr_mn, rr_ab, rr_no, gd_t, bc_t, bc_f, gd_tt, bc_tt, bc_ff, or_true, true_or, and_true, true_and, Nat.reduceAdd, mo_b_s e1]
        · exact absurd (a1 c0 rfl ci) ca
      · simp (disch := omega) only [tg_A, rr_p, rr_bp, rr_bb, rr_0, rr_lt, rr_blt, rr_le, rr_ble, rr_eq, rr_beq, rr_nl_n, rr_nl_s, rr_bnl_n, rr_bnl_s, rr_cond_t, rr_cond_f, rr_bcond_t, rr_bcond_f, rr_bon, rr_bcv, rr_cv, rr_g, rr_gr, rr_si, rr_sz, rr_sr, rr_al, rr_ld, rr_st, rr_rl, rr_rs, rr_ni, rr_nr, rr_z, rr_div, rr_rem, rr_lc, rr_mx, rr_mn, rr_ab, rr_no, gd_t, bc_t, bc_f, gd_tt, bc_tt, bc_ff, or_true, true_or, and_true, true_and, Nat.reduceAdd, mo_b_s e1]
  · rw [bc_f (fun z => ci z.1)]
    simp (disch := omega) only [tg_A, rr_p, rr_bp, rr_bb, rr_0, rr_lt, rr_blt, rr_le, rr_ble, rr_eq, rr_beq, rr_nl_n, rr_nl_s, rr_bnl_n, rr_bnl_s, rr_cond_t, rr_cond_f, rr_bcond_t, rr_bcond_f, rr_bon, rr_bcv, rr_cv, rr_g, rr_gr, rr_si, rr_sz, rr_sr, rr_al, rr_ld, rr_st, rr_rl, rr_rs, rr_ni, rr_nr, rr_z, rr_div, rr_rem, rr_lc, rr_mx, rr_mn, rr_ab, rr_no, gd_t, bc_t, bc_f, gd_tt, bc_tt, bc_ff, or_true, true_or, and_true, true_and, Nat.reduceAdd]
theorem q_tB {h : AH} {m q i0 j0 i j : Nat} {e f g : Int} {Q : List HK} (hQ : mQ h m q Q) (vQ : pV Q) (hi0 : i0 ≤ i) (hj0 : j0 ≤ j) (hi : i ≤ 100) (hj : j ≤ Q.length) (he : -400000 ≤ e ∧ e ≤ 400000) (hf : f = 0 ∨ f = 1) (a1 : j = j0 → f = 0 → j < Q.length → (hk Q j).1 ≤ e) (a2 : f = 1 → i0 < i) : tg_B f m (q : Int) (i0 : Int) (j0 : Int) (j : Int) (i : Int) e g h = some (br (j < Q.length ∧ (hk Q j).1 ≤ e) (.inl ((i : Int), ((j + 1 : Nat) : Int), max e ((hk Q j).1 + ((hk Q j).2.1.length : Int)), 1)) (.inl ((i : Int), (j : Int), e, g)), h) := by
  obtain ⟨hS, hPt, hp, l1, l2, l3⟩ := id hQ
  have mT := hS.1
  have w1 := hPt.1
  obtain ⟨p7, t7, n7⟩ := ms7 hS
  obtain ⟨p8, t8, n8⟩ := ms8 hS
  obtain ⟨p9, t9, n9⟩ := ms9 hS
  by_cases cj : j < Q.length
  · obtain ⟨b1, b2, b3⟩ := mQ_a hQ (i := (j : Int)) (by omega) (by omega)
    rw [Int.toNat_natCast] at b1 b2
    have r1 := (vQ j).1
    have g3 := @hgs_s Q j cj
    have g4 := @hgs_le Q (j + 1)
    by_cases ca : (hk Q j).1 ≤ e
    · rw [bc_t ⟨cj, ca⟩]
      by_cases cm : (hk Q j).1 + ((hk Q j).2.1.length : Int) ≤ e
      · rw [show max e ((hk Q j).1 + ((hk Q j).2.1.length : Int)) = e by omega]
        by_cases c0 : j = j0
        · subst c0
          rcases hf with rfl | rfl
          · simp (disch := omega) only [tg_B, rr_p, rr_bp, rr_bb, rr_0, rr_lt, rr_blt, rr_le, rr_ble, rr_eq, rr_beq, rr_nl_n, rr_nl_s, rr_bnl_n, rr_bnl_s, rr_cond_t, rr_cond_f, rr_bcond_t, rr_bcond_f, rr_bon, rr_bcv, rr_cv, rr_g, rr_gr, rr_si, rr_sz, rr_sr, rr_al, rr_ld, rr_st, rr_rl, rr_rs, rr_ni, rr_nr, rr_z, rr_div, rr_rem, rr_lc, rr_mx, rr_mn, rr_ab, rr_no, gd_t, bc_t, bc_f, gd_tt, bc_tt, bc_ff, or_true, true_or, and_true, true_and, Nat.reduceAdd, p7, p8, p9, w1, b1, b2, Int.natCast_add, Int.natCast_one]
          · have := a2 rfl
            simp (disch := omega) only [tg_B, rr_p, rr_bp, rr_bb, rr_0, rr_lt, rr_blt, rr_le, rr_ble, rr_eq, rr_beq, rr_nl_n, rr_nl_s, rr_bnl_n, rr_bnl_s, rr_cond_t, rr_cond_f, rr_bcond_t, rr_bcond_f, rr_bon, rr_bcv, rr_cv, rr_g, rr_gr, rr_si, rr_sz, rr_sr, rr_al, rr_ld, rr_st, rr_rl, rr_rs, rr_ni, rr_nr, rr_z, rr_div, rr_rem, rr_lc, rr_mx, rr_mn, rr_ab, rr_no, gd_t, bc_t, bc_f, gd_tt, bc_tt, bc_ff, or_true, true_or, and_true, true_and, Nat.reduceAdd, p7, p8, p9, w1, b1, b2, Int.natCast_add, Int.natCast_one]
        · by_cases c1 : i ≤ i0
          · simp (disch := omega) only [tg_B, rr_p, rr_bp, rr_bb, rr_0, rr_lt, rr_blt, rr_le, rr_ble, rr_eq, rr_beq, rr_nl_n, rr_nl_s, rr_bnl_n, rr_bnl_s, rr_cond_t, rr_cond_f, rr_bcond_t, rr_bcond_f, rr_bon, rr_bcv, rr_cv, rr_g, rr_gr, rr_si, rr_sz, rr_sr, rr_al, rr_ld, rr_st, rr_rl, rr_rs, rr_ni, rr_nr, rr_z, rr_div, rr_rem, rr_lc, rr_mx, rr_mn, rr_ab, rr_no, gd_t, bc_t, bc_f, gd_tt, bc_tt, bc_ff, or_true, true_or, and_true, true_and, Nat.reduceAdd, p7, p8, p9, w1, b1, b2, Int.natCast_add, Int.natCast_one]
          · simp (disch := omega) only [tg_B, rr_p, rr_bp, rr_bb, rr_0, rr_lt, rr_blt, rr_le, rr_ble, rr_eq, rr_beq, rr_nl_n, rr_nl_s, rr_bnl_n, rr_bnl_s, rr_cond_t, rr_cond_f, rr_bcond_t, rr_bcond_f, rr_bon, rr_bcv, rr_cv, rr_g, rr_gr, rr_si, rr_sz, rr_sr, rr_al, rr_ld, rr_st, rr_rl, rr_rs, rr_ni, rr_nr, rr_z, rr_div, rr_rem, rr_lc, rr_mx, rr_mn, rr_ab, rr_no, gd_t, bc_t, bc_f, gd_tt, bc_tt, bc_ff, or_true, true_or, and_true, true_and, Nat.reduceAdd, p7, p8, p9, w1, b1, b2, Int.natCast_add, Int.natCast_one]
      · rw [show max e ((hk Q j).1 + ((hk Q j).2.1.length : Int)) = (hk Q j).1 + ((hk Q j).2.1.length : Int) by omega]
        by_cases c0 : j = j0
        · subst c0
          rcases hf with rfl | rfl
          · simp (disch := omega) only [tg_B, rr_p, rr_bp, rr_bb, rr_0, rr_lt, rr_blt, rr_le, rr_ble, rr_eq, rr_beq, rr_nl_n, rr_nl_s, rr_bnl_n, rr_bnl_s, rr_cond_t, rr_cond_f, rr_bcond_t, rr_bcond_f, rr_bon, rr_bcv, rr_cv, rr_g, rr_gr, rr_si, rr_sz, rr_sr, rr_al, rr_ld, rr_st, rr_rl, rr_rs, rr_ni, rr_nr, rr_z, rr_div, rr_rem, rr_lc, rr_mx, rr_mn, rr_ab, rr_no, gd_t, bc_t, bc_f, gd_tt, bc_tt, bc_ff, or_true, true_or, and_true, true_and, Nat.reduceAdd, p7, p8, p9, w1, b1, b2, Int.natCast_add, Int.natCast_one]
          · have := a2 rfl
            simp (disch := omega) only [tg_B, rr_p, rr_bp, rr_bb, rr_0, rr_lt, rr_blt, rr_le, rr_ble, rr_eq, rr_beq, rr_nl_n, rr_nl_s, rr_bnl_n, rr_bnl_s, rr_cond_t, rr_cond_f, rr_bcond_t, rr_bcond_f, rr_bon, rr_bcv, rr_cv, rr_g, rr_gr, rr_si, rr_sz, rr_sr, rr_al, rr_ld, rr_st, rr_rl, rr_rs, rr_ni, rr_nr, rr_z, rr_div, rr_rem, rr_lc, rr_mx, rr_mn, rr_ab, rr_no, gd_t, bc_t, bc_f, gd_tt, bc_tt, bc_ff, or_true, true_or, and_true, true_and, Nat.reduceAdd, p7, p8, p9, w1, b1, b2, Int.natCast_add, Int.natCast_one]
        · by_cases c1 : i ≤ i0
          · simp (disch := omega) only [tg_B, rr_p, rr_bp, rr_bb, rr_0, rr_lt, rr_blt, rr_le, rr_ble, rr_eq, rr_beq, rr_nl_n, rr_nl_s, rr_bnl_n, rr_bnl_s, rr_cond_t, rr_cond_f, rr_bcond_t, rr_bcond_f, rr_bon, rr_bcv, rr_cv, rr_g, rr_gr, rr_si, rr_sz, rr_sr, rr_al, rr_ld, rr_st, rr_rl, rr_rs, rr_ni, rr_nr, rr_z, rr_div, rr_rem, rr_lc, rr_mx, rr_mn, rr_ab, rr_no, gd_t, bc_t, bc_f, gd_tt, bc_tt, bc_ff, or_true, true_or, and_true, true_and, Nat.reduceAdd, p7, p8, p9, w1, b1, b2, Int.natCast_add, Int.natCast_one]
          · simp (disch := omega) only [tg_B, rr_p, rr_bp, rr_bb, rr_0, rr_lt, rr_blt, rr_le, rr_ble, rr_eq, rr_beq, rr_nl_n, rr_nl_s, rr_bnl_n, rr_bnl_s, rr_cond_t, rr_cond_f, rr_bcond_t, rr_bcond_f, rr_bon, rr_bcv, rr_cv, rr_g, rr_gr, rr_si, rr_sz, rr_sr, rr_al, rr_ld, rr_st, rr_rl, rr_rs, rr_ni, rr_nr, rr_z, rr_div, rr_rem, rr_lc, rr_mx, rr_mn, rr_ab, rr_no, gd_t, bc_t, bc_f, gd_tt, bc_tt, bc_ff, or_true, true_or, and_true, true_and, Nat.reduceAdd, p7, p8, p9, w1, b1, b2, Int.natCast_add, Int.natCast_one]
    · rw [bc_f (fun z => ca z.2)]
      by_cases c0 : j = j0
      · rcases hf with rfl | rfl
        · exact absurd (a1 c0 rfl cj) ca
        · subst c0
          simp (disch := omega) only [tg_B, rr_p, rr_bp, rr_bb, rr_0, rr_lt, rr_blt, rr_le, rr_ble, rr_eq, rr_beq, rr_nl_n, rr_nl_s, rr_bnl_n, rr_bnl_s, rr_cond_t, rr_cond_f, rr_bcond_t, rr_bcond_f, rr_bon, rr_bcv, rr_cv, rr_g, rr_gr, rr_si, rr_sz, rr_sr, rr_al, rr_ld, rr_st, rr_rl, rr_rs, rr_ni, rr_nr, rr_z, rr_div, rr_rem, rr_lc, rr_mx, rr_mn, rr_ab, rr_no, gd_t, bc_t, bc_f, gd_tt, bc_tt, bc_ff, or_true, true_or, and_true, true_and, Nat.reduceAdd, p7, p8, w1, b1]
      · simp (disch := omega) only [tg_B, rr_p, rr_bp, rr_bb, rr_0, rr_lt, rr_blt, rr_le, rr_ble, rr_eq, rr_beq, rr_nl_n, rr_nl_s, rr_bnl_n, rr_bnl_s, rr_cond_t, rr_cond_f, rr_bcond_t, rr_bcond_f, rr_bon, rr_bcv, rr_cv, rr_g, rr_gr, rr_si, rr_sz, rr_sr, rr_al, rr_ld, rr_st, rr_rl, rr_rs, rr_ni, rr_nr, rr_z, rr_div, rr_rem, rr_lc, rr_mx, rr_mn, rr_ab, rr_no, gd_t, bc_t, bc_f, gd_tt, bc_tt, bc_ff, or_true, true_or, and_true, true_and, Nat.reduceAdd, p7, p8, w1, b1]
  · rw [bc_f (fun z => cj z.1)]
    simp (disch := omega) only [tg_B, rr_p, rr_bp, rr_bb, rr_0, rr_lt, rr_blt, rr_le, rr_ble, rr_eq, rr_beq, rr_nl_n, rr_nl_s, rr_bnl_n, rr_bnl_s, rr_cond_t, rr_cond_f, rr_bcond_t, rr_bcond_f, rr_bon, rr_bcv, rr_cv, rr_g, rr_gr, rr_si, rr_sz, rr_sr, rr_al, rr_ld, rr_st, rr_rl, rr_rs, rr_ni, rr_nr, rr_z, rr_div, rr_rem, rr_lc, rr_mx, rr_mn, rr_ab, rr_no, gd_t, bc_t, bc_f, gd_tt, bc_tt, bc_ff, or_true, true_or, and_true, true_and, Nat.reduceAdd, p7, w1]
theorem q7_closure {h : AH} {m p q i j : Nat} {f : Int} {P Q : List HK} (hP : mQ h m p P) (hQ : mQ h m q Q) (vP : pV P) (vQ : pV Q) (sP : sW P) (sQ : sW Q) (hi : i ≤ P.length) (hj : j ≤ Q.length) (hl : i < P.length ∨ j < Q.length) (hf : f = br (i < P.length ∧ (j < Q.length → hB P i ≤ (hk Q j).1)) 1 0) : ∃ (i1 j1 : Nat) (e : Int), mo_lp mo_N (X7_together_L155 f m (p : Int) (q : Int) (i : Int) (j : Int)) ((i : Int), (j : Int), gL (ivP P) (ivQ Q) i j, 1) h = some (((i1 : Int), (j1 : Int), e), h) ∧ cS (ivP P) (ivQ Q) i j (gL (ivP P) (ivQ Q) i j) i1 j1 e ∧ cX (ivP P) (ivQ Q) i1 j1 e := by
  obtain ⟨hS, hPt, hp, l1, l2, l3⟩ := id hP
  obtain ⟨-, hQt, hq, k1, k2, k3⟩ := id hQ
  have mT := hS.1
  have w1 := hPt.1
  obtain ⟨p7, t7, n7⟩ := ms7 hS
  have rlo : -100056 ≤ gL (ivP P) (ivQ Q) i j ∧ gL (ivP P) (ivQ Q) i j ≤ 100056 := by
    rcases (gL_f (X := ivP P) (Y := ivQ Q) hl).2.2 with ⟨_, z⟩ | ⟨_, z⟩
    · rw [z]; exact hB_rM hP vP i
    · rw [z]; have := (vQ j).1; show -100056 ≤ (hk Q j).1 ∧ (hk Q j).1 ≤ 100056; omega
  have f1 : f = 1 → i < P.length ∧ gL (ivP P) (ivQ Q) i j = hB P i := by
    intro z
    by_cases c : i < P.length ∧ (j < Q.length → hB P i ≤ (hk Q j).1)
    · exact ⟨c.1, bc_t c⟩
    · rw [bc_f c] at hf; omega
  have f0 : f = 0 → j < Q.length ∧ gL (ivP P) (ivQ Q) i j = (hk Q j).1 ∧ (i < P.length → (hk Q j).1 < hB P i) := by
    intro z
    by_cases c : i < P.length ∧ (j < Q.length → hB P i ≤ (hk Q j).1)
    · rw [bc_t c] at hf; omega
    · have cj : j < Q.length := by
        by_cases y : j < Q.length
        · exact y
        · exact absurd ⟨by omega, fun w => absurd w y⟩ c
      refine ⟨cj, bc_f c, fun y => ?_⟩
      by_cases x : hB P i ≤ (hk Q j).1
      · exact absurd ⟨y, fun _ => x⟩ c
      · omega
  have hf01 : f = 0 ∨ f = 1 := by
    by_cases c : i < P.length ∧ (j < Q.length → hB P i ≤ (hk Q j).1)
    · rw [bc_t c] at hf; exact Or.inr hf
    · rw [bc_f c] at hf; exact Or.inl hf
  have hL := lp_inv (F := X7_together_L155 f m (p : Int) (q : Int) (i : Int) (j : Int)) (fun s h' => h' = h ∧ ∃ (i1 j1 : Nat) (e g : Int), s = ((i1 : Int), (j1 : Int), e, g) ∧ cS (ivP P) (ivQ Q) i j (gL (ivP P) (ivQ Q) i j) i1 j1 e ∧ (g = 1 ∨ (g = 0 ∧ cX (ivP P) (ivQ Q) i1 j1 e))) (fun s => (2 * (P.length : Int) + 2 * (Q.length : Int) - 2 * s.1 - 2 * s.2.1 + s.2.2.2).toNat) (fun r h' => h' = h ∧ ∃ (i1 j1 : Nat) (e : Int), r = ((i1 : Int), (j1 : Int), e) ∧ cS (ivP P) (ivQ Q) i j (gL (ivP P) (ivQ Q) i j) i1 j1 e ∧ cX (ivP P) (ivQ Q) i1 j1 e) ?_ mo_N ((i : Int), (j : Int), gL (ivP P) (ivQ Q) i j, 1) h ⟨rfl, i, j, _, 1, rfl, cS0 hi hj, Or.inl rfl⟩ (by rw [mo_N_v]; dsimp only; omega)
  · obtain ⟨r, h', e1, rfl, i1, j1, e, rfl, q⟩ := hL
    exact ⟨i1, j1, e, e1, q⟩
  · rintro s h' ⟨rfl, i1, j1, e, g, rfl, hC, hg⟩
    obtain ⟨⟨⟨⟨a1, a2⟩, ⟨b1, b2⟩, c1⟩, -⟩, -, -, hcnt⟩ := id hC
    have a2 : i1 ≤ P.length := a2
    have b2 : j1 ≤ Q.length := b2
    have hcnt : e - gL (ivP P) (ivQ Q) i j ≤ ((hcs P i1 : Int) - (hcs P i : Int)) + ((hgs Q j1 : Int) - (hgs Q j : Int)) := hcnt
    have y1 := @hcs_le P i1
    have y2 := @hgs_le Q j1
    by_cases cg : g = 0
    · right
      subst cg
      refine ⟨((i1 : Int), (j1 : Int), e), h', ?_, rfl, i1, j1, e, rfl, hC, ?_⟩
      · rw [tg_eq]; simp (disch := omega) only [rr_p, rr_bp, rr_bb, rr_0, rr_lt, rr_blt, rr_le, rr_ble, rr_eq, rr_beq, rr_nl_n, rr_nl_s, rr_bnl_n, rr_bnl_s, rr_cond_t, rr_cond_f, rr_bcond_t, rr_bcond_f, rr_bon, rr_bcv, rr_cv, rr_g, rr_gr, rr_si, rr_sz, rr_sr, rr_al, rr_ld, rr_st, rr_rl, rr_rs, rr_ni, rr_nr, rr_z, rr_div, rr_rem, rr_lc, rr_mx, rr_mn, rr_ab, rr_no, gd_t, bc_t, bc_f, gd_tt, bc_tt, bc_ff, or_true, true_or, and_true, true_and, Nat.reduceAdd]
      · rcases hg with z | z
        · omega
        · exact z.2
    · left
      have hg1 : g = 1 := by omega
      subst hg1
      have eA := q_tA (f := f) (e := e) (i0 := i) (j0 := j) hP vP a1 b1 a2 (by omega) (by omega) hf01 (fun z1 z2 z3 => by
          have := (f1 z2).2
          subst z1; omega) (fun z1 z2 z3 z4 => by
          rcases hf01 with w | w
          · obtain ⟨v1, v2, v3⟩ := f0 w
            subst z3 z4
            have := v3 z1
            omega
          · exact w)
      by_cases cA : i1 < P.length ∧ hB P i1 ≤ e
      · rw [bc_t cA] at eA
        have hC2 := cS_i (okP sP) hC cA.1 cA.2
        have hC2 : cS (ivP P) (ivQ Q) i j (gL (ivP P) (ivQ Q) i j) (i1 + 1) j1 (max e (hB P i1 + ((hk P i1).2.2.length : Int))) := hC2
        have r1 := hB_rM hP vP i1
        have g3 := @hcs_s P i1 cA.1
        have g4 := @hcs_le P (i1 + 1)
        have eB := q_tB (f := f) (g := 1) (i := i1 + 1) (j := j1) (i0 := i) (j0 := j) (e := max e (hB P i1 + ((hk P i1).2.2.length : Int))) hQ vQ (by omega) b1 (by omega) b2 (by omega) hf01 (fun z1 z2 z3 => by
            have := (f0 z2).2.1
            subst z1; omega) (fun _ => by omega)
        by_cases cB : j1 < Q.length ∧ (hk Q j1).1 ≤ max e (hB P i1 + ((hk P i1).2.2.length : Int))
        · rw [bc_t cB] at eB
          refine ⟨_, h', ?_, ⟨rfl, i1 + 1, j1 + 1, _, 1, rfl, cS_j (okQ sQ) hC2 cB.1 cB.2, Or.inl rfl⟩, by dsimp only; omega⟩
          rw [tg_eq]; simp (disch := omega) only [rr_p, rr_bp, rr_bb, rr_0, rr_lt, rr_blt, rr_le, rr_ble, rr_eq, rr_beq, rr_nl_n, rr_nl_s, rr_bnl_n, rr_bnl_s, rr_cond_t, rr_cond_f, rr_bcond_t, rr_bcond_f, rr_bon, rr_bcv, rr_cv, rr_g, rr_gr, rr_si, rr_sz, rr_sr, rr_al, rr_ld, rr_st, rr_rl, rr_rs, rr_ni, rr_nr, rr_z, rr_div, rr_rem, rr_lc, rr_mx, rr_mn, rr_ab, rr_no, gd_t, bc_t, bc_f, gd_tt, bc_tt, bc_ff, or_true, true_or, and_true, true_and, Nat.reduceAdd, p7, w1, mo_b_s eA, eB]; rfl
        · rw [bc_f cB] at eB
          refine ⟨_, h', ?_, ⟨rfl, i1 + 1, j1, _, 1, rfl, hC2, Or.inl rfl⟩, by dsimp only; omega⟩
          rw [tg_eq]; simp (disch := omega) only [rr_p, rr_bp, rr_bb, rr_0, rr_lt, rr_blt, rr_le, rr_ble, rr_eq, rr_beq, rr_nl_n, rr_nl_s, rr_bnl_n, rr_bnl_s, rr_cond_t, rr_cond_f, rr_bcond_t, rr_bcond_f, rr_bon, rr_bcv, rr_cv, rr_g, rr_gr, rr_si, rr_sz, rr_sr, rr_al, rr_ld, rr_st, rr_rl, rr_rs, rr_ni, rr_nr, rr_z, rr_div, rr_rem, rr_lc, rr_mx, rr_mn, rr_ab, rr_no, gd_t, bc_t, bc_f, gd_tt, bc_tt, bc_ff, or_true, true_or, and_true, true_and, Nat.reduceAdd, p7, w1, mo_b_s eA, eB]
      · rw [bc_f cA] at eA
        have eB := q_tB (f := f) (g := 0) (i := i1) (j := j1) (i0 := i) (j0 := j) (e := e) hQ vQ (by omega) b1 (by omega) b2 (by omega) hf01 (fun z1 z2 z3 => by
            have := (f0 z2).2.1
            subst z1; omega) (fun z2 => by
            obtain ⟨v1, v2⟩ := f1 z2
            by_cases w : i1 = i
            · subst w; exact absurd ⟨v1, by omega⟩ cA
            · omega)
        by_cases cB : j1 < Q.length ∧ (hk Q j1).1 ≤ e
        · rw [bc_t cB] at eB
          refine ⟨_, h', ?_, ⟨rfl, i1, j1 + 1, _, 1, rfl, cS_j (okQ sQ) hC cB.1 cB.2, Or.inl rfl⟩, by dsimp only; omega⟩
          rw [tg_eq]; simp (disch := omega) only [rr_p, rr_bp, rr_bb, rr_0, rr_lt, rr_blt, rr_le, rr_ble, rr_eq, rr_beq, rr_nl_n, rr_nl_s, rr_bnl_n, rr_bnl_s, rr_cond_t, rr_cond_f, rr_bcond_t, rr_bcond_f, rr_bon, rr_bcv, rr_cv, rr_g, rr_gr, rr_si, rr_sz, rr_sr, rr_al, rr_ld, rr_st, rr_rl, rr_rs, rr_ni, rr_nr, rr_z, rr_div, rr_rem, rr_lc, rr_mx, rr_mn, rr_ab, rr_no, gd_t, bc_t, bc_f, gd_tt, bc_tt, bc_ff, or_true, true_or, and_true, true_and, Nat.reduceAdd, p7, w1, mo_b_s eA, eB]; rfl
        · rw [bc_f cB] at eB
          refine ⟨_, h', ?_, ⟨rfl, i1, j1, e, 0, rfl, hC, Or.inr ⟨rfl, fun z => ?_, fun z => ?_⟩⟩, by dsimp only; omega⟩
          · rw [tg_eq]; simp (disch := omega) only [rr_p, rr_bp, rr_bb, rr_0, rr_lt, rr_blt, rr_le, rr_ble, rr_eq, rr_beq, rr_nl_n, rr_nl_s, rr_bnl_n, rr_bnl_s, rr_cond_t, rr_cond_f, rr_bcond_t, rr_bcond_f, rr_bon, rr_bcv, rr_cv, rr_g, rr_gr, rr_si, rr_sz, rr_sr, rr_al, rr_ld, rr_st, rr_rl, rr_rs, rr_ni, rr_nr, rr_z, rr_div, rr_rem, rr_lc, rr_mx, rr_mn, rr_ab, rr_no, gd_t, bc_t, bc_f, gd_tt, bc_tt, bc_ff, or_true, true_or, and_true, true_and, Nat.reduceAdd, p7, w1, mo_b_s eA, eB]
          · show e < hB P i1
            by_cases x : hB P i1 ≤ e
            · exact absurd ⟨z, x⟩ cA
            · omega
          · show e < (hk Q j1).1
            by_cases x : (hk Q j1).1 ≤ e
            · exact absurd ⟨z, x⟩ cB
            · omega
