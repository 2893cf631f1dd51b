theorem lp_r {A B : Type} {F : A → MO (A ⊕ B)} {s : A} {h h' : AH} {b : B} (e : F s h = some (.inr b, h')) {N : Nat} (hN : 0 < N) : mo_lp N F s h = some (b, h') := by
  obtain ⟨N, rfl⟩ : ∃ n', N = n' + 1 := ⟨N - 1, by omega⟩
  show mo_b (F s) _ h = _
  rw [mo_b_s e]; rfl
theorem lp_l {A B : Type} {F : A → MO (A ⊕ B)} {s s' : A} {h h' : AH} (e : F s h = some (.inl s', h')) {N : Nat} : mo_lp (N + 1) F s h = mo_lp N F s' h' := by
  show mo_b (F s) _ h = _
  rw [mo_b_s e]; rfl
/-- the row at work -/
def mRow (h : AH) (m : Nat) (xs : List Int) : Prop := ah_F h m 27 = (xs.length : Int) ∧ ∀ j : Nat, j < xs.length → ah_I h (m + 20) (j : Int) = xs.getD j 0
theorem mRow_fr {m al ah_ fl fh : Nat} {h h' : AH} {xs : List Int} (hR : mRow h m xs) (f : MF m al ah_ fl fh h h') (q : (21 ≤ al ∨ ah_ ≤ 20) ∧ (28 ≤ fl ∨ fh ≤ 27)) : mRow h' m xs := by
  unfold mRow at hR ⊢; rw [f.2.2.2.2.2 27 (by omega), f.2.2.2.2.1 20 (by omega)]; exact hR
theorem mRow_at {h : AH} {m : Nat} {xs : List Int} (hR : mRow h m xs) {i : Int} (h0 : 0 ≤ i) (h1 : i < xs.length) : ah_I h (m + 20) i = xs.getD i.toNat 0 := by
  have := hR.2 i.toNat (by omega); rwa [Int.toNat_of_nonneg h0] at this
theorem q7_workOnDesk {h : AH} {m : Nat} {D : List Int} (hS : mS h m) (hD : mDesk h m D) (hl : D.length ≤ 14) : ∃ h', X7_workOnDesk m h = some ((), h') ∧ mRow h' m D ∧ MF m 20 21 27 28 h h' := by
  have mT := hS.1
  obtain ⟨p1, t1, n1⟩ := ms1 hS
  obtain ⟨p20, t20, n20⟩ := ms20 hS
  have f0 := hD.1
  have hL := lp_cp (F := X7_workOnDesk_L10 m) (h := ah_sF h m 27 (D.length : Int)) (a := m + 20) (n := D.length) 0 (fun k => ah_I h (m + 1) k) (by omega) (fun k g hk => by simp (disch := omega) only [X7_workOnDesk_L10, rr_p, rr_bp, rr_bb, rr_0, rr_lt, rr_blt, rr_le, rr_ble, rr_eq, rr_beq, rr_nl_n, rr_nl_s, rr_bnl_n, rr_bnl_s, rr_cond_t, rr_cond_f, rr_bcond_t, rr_bcond_f, rr_bon, rr_bcv, rr_cv, rr_g, rr_gr, rr_si, rr_sz, rr_sr, rr_al, rr_ld, rr_st, rr_rl, rr_rs, rr_ni, rr_nr, rr_z, rr_div, rr_rem, rr_lc, rr_mx, rr_mn, rr_ab, rr_no, gd_t, bc_t, bc_f, gd_tt, bc_tt, bc_ff, or_true, true_or, and_true, true_and, Nat.reduceAdd, hl_T_sF, hl_N_sF, hl_P_sF, hl_I_sF, hl_R_sF, hl_S_sF, hl_T_sP, hl_N_sP, hl_F_sP, hl_I_sP, hl_R_sP, hl_S_sP, hl_T_sI, hl_N_sI, hl_F_sI, hl_P_sI, hl_R_sI, hl_S_sI, hl_T_sR, hl_N_sR, hl_F_sR, hl_P_sR, hl_I_sR, hl_S_sR, hl_T_wI, hl_N_wI, hl_F_wI, hl_P_wI, hl_R_wI, hl_S_wI, hl_F_sF_s, hl_F_sF_n, hl_P_sP_s, hl_P_sP_n, hl_I_sI_s, hl_I_sI_n, hl_R_sR_s, hl_R_sR_n, hl_I_wI_s, hl_I_wI_n, f0, p1, p20, hl_sI_wI, Int.zero_add]) (fun g => by simp (disch := omega) only [X7_workOnDesk_L10, rr_p, rr_bp, rr_bb, rr_0, rr_lt, rr_blt, rr_le, rr_ble, rr_eq, rr_beq, rr_nl_n, rr_nl_s, rr_bnl_n, rr_bnl_s, rr_cond_t, rr_cond_f, rr_bcond_t, rr_bcond_f, rr_bon, rr_bcv, rr_cv, rr_g, rr_gr, rr_si, rr_sz, rr_sr, rr_al, rr_ld, rr_st, rr_rl, rr_rs, rr_ni, rr_nr, rr_z, rr_div, rr_rem, rr_lc, rr_mx, rr_mn, rr_ab, rr_no, gd_t, bc_t, bc_f, gd_tt, bc_tt, bc_ff, or_true, true_or, and_true, true_and, Nat.reduceAdd, hl_T_sF, hl_N_sF, hl_P_sF, hl_I_sF, hl_R_sF, hl_S_sF, hl_T_sP, hl_N_sP, hl_F_sP, hl_I_sP, hl_R_sP, hl_S_sP, hl_T_sI, hl_N_sI, hl_F_sI, hl_P_sI, hl_R_sI, hl_S_sI, hl_T_sR, hl_N_sR, hl_F_sR, hl_P_sR, hl_I_sR, hl_S_sR, hl_T_wI, hl_N_wI, hl_F_wI, hl_P_wI, hl_R_wI, hl_S_wI, hl_F_sF_s, hl_F_sF_n, hl_P_sP_s, hl_P_sP_n, hl_I_sI_s, hl_I_sI_n, hl_R_sR_s, hl_R_sR_n, hl_I_wI_s, hl_I_wI_n, f0, p1, p20])
  have F : MF m 20 21 27 28 h (ah_wI (ah_sF h m 27 (D.length : Int)) (m + 20) (fun y => if 0 ≤ y ∧ y < 0 + (D.length : Int) then ah_I h (m + 1) (y - 0) else ah_I (ah_sF h m 27 (D.length : Int)) (m + 20) y)) :=
    MF.tr (MF.sF (al := 20) (ah_ := 21) (fl := 27) (fh := 28) (by omega) (by omega)) (MF.wI (al := 20) (ah_ := 21) (fl := 27) (fh := 28) (by omega) (by omega)) (by omega)
  refine ⟨_, by simp (disch := omega) only [X7_workOnDesk, rr_p, rr_bp, rr_bb, rr_0, rr_lt, rr_blt, rr_le, rr_ble, rr_eq, rr_beq, rr_nl_n, rr_nl_s, rr_bnl_n, rr_bnl_s, rr_cond_t, rr_cond_f, rr_bcond_t, rr_bcond_f, rr_bon, rr_bcv, rr_cv, rr_g, rr_gr, rr_si, rr_sz, rr_sr, rr_al, rr_ld, rr_st, rr_rl, rr_rs, rr_ni, rr_nr, rr_z, rr_div, rr_rem, rr_lc, rr_mx, rr_mn, rr_ab, rr_no, gd_t, bc_t, bc_f, gd_tt, bc_tt, bc_ff, or_true, true_or, and_true, true_and, Nat.reduceAdd, f0, mo_b_s hL], ⟨?_, fun j hj => ?_⟩, F⟩
  · simp (disch := omega) only [hl_T_sF, hl_N_sF, hl_P_sF, hl_I_sF, hl_R_sF, hl_S_sF, hl_T_sP, hl_N_sP, hl_F_sP, hl_I_sP, hl_R_sP, hl_S_sP, hl_T_sI, hl_N_sI, hl_F_sI, hl_P_sI, hl_R_sI, hl_S_sI, hl_T_sR, hl_N_sR, hl_F_sR, hl_P_sR, hl_I_sR, hl_S_sR, hl_T_wI, hl_N_wI, hl_F_wI, hl_P_wI, hl_R_wI, hl_S_wI, hl_F_sF_s, hl_F_sF_n, hl_P_sP_s, hl_P_sP_n, hl_I_sI_s, hl_I_sI_n, hl_R_sR_s, hl_R_sR_n, hl_I_wI_s, hl_I_wI_n]
  · rw [hl_I_wI_s, if_pos (by omega), Int.sub_zero]; exact hD.2 j hj
theorem q7_toDesk {h : AH} {m : Nat} {D D' : List Int} {r : List VR × List (List HK) × Nat} (hM : MI h m (D, r)) (hR : mRow h m D') (hl : D'.length ≤ 48) : ∃ h', X7_toDesk m h = some ((), h') ∧ MI h' m (D', r) ∧ ah_F h' m 0 = (D'.length : Int) := by
  have hS := hM.1
  have mT := hS.1
  obtain ⟨p1, t1, n1⟩ := ms1 hS
  obtain ⟨p20, t20, n20⟩ := ms20 hS
  have f0 := hR.1
  have hL := lp_cp (F := X7_toDesk_L10 m) (h := ah_sF h m 0 (D'.length : Int)) (a := m + 1) (n := D'.length) 0 (fun k => ah_I h (m + 20) k) (by omega) (fun k g hk => by simp (disch := omega) only [X7_toDesk_L10, rr_p, rr_bp, rr_bb, rr_0, rr_lt, rr_blt, rr_le, rr_ble, rr_eq, rr_beq, rr_nl_n, rr_nl_s, rr_bnl_n, rr_bnl_s, rr_cond_t, rr_cond_f, rr_bcond_t, rr_bcond_f, rr_bon, rr_bcv, rr_cv, rr_g, rr_gr, rr_si, rr_sz, rr_sr, rr_al, rr_ld, rr_st, rr_rl, rr_rs, rr_ni, rr_nr, rr_z, rr_div, rr_rem, rr_lc, rr_mx, rr_mn, rr_ab, rr_no, gd_t, bc_t, bc_f, gd_tt, bc_tt, bc_ff, or_true, true_or, and_true, true_and, Nat.reduceAdd, hl_T_sF, hl_N_sF, hl_P_sF, hl_I_sF, hl_R_sF, hl_S_sF, hl_T_sP, hl_N_sP, hl_F_sP, hl_I_sP, hl_R_sP, hl_S_sP, hl_T_sI, hl_N_sI, hl_F_sI, hl_P_sI, hl_R_sI, hl_S_sI, hl_T_sR, hl_N_sR, hl_F_sR, hl_P_sR, hl_I_sR, hl_S_sR, hl_T_wI, hl_N_wI, hl_F_wI, hl_P_wI, hl_R_wI, hl_S_wI, hl_F_sF_s, hl_F_sF_n, hl_P_sP_s, hl_P_sP_n, hl_I_sI_s, hl_I_sI_n, hl_R_sR_s, hl_R_sR_n, hl_I_wI_s, hl_I_wI_n, f0, p1, p20, hl_sI_wI, Int.zero_add]) (fun g => by simp (disch := omega) only [X7_toDesk_L10, rr_p, rr_bp, rr_bb, rr_0, rr_lt, rr_blt, rr_le, rr_ble, rr_eq, rr_beq, rr_nl_n, rr_nl_s, rr_bnl_n, rr_bnl_s, rr_cond_t, rr_cond_f, rr_bcond_t, rr_bcond_f, rr_bon, rr_bcv, rr_cv, rr_g, rr_gr, rr_si, rr_sz, rr_sr, rr_al, rr_ld, rr_st, rr_rl, rr_rs, rr_ni, rr_nr, rr_z, rr_div, rr_rem, rr_lc, rr_mx, rr_mn, rr_ab, rr_no, gd_t, bc_t, bc_f, gd_tt, bc_tt, bc_ff, or_true, true_or, and_true, true_and, Nat.reduceAdd, hl_T_sF, hl_N_sF, hl_P_sF, hl_I_sF, hl_R_sF, hl_S_sF, hl_T_sP, hl_N_sP, hl_F_sP, hl_I_sP, hl_R_sP, hl_S_sP, hl_T_sI, hl_N_sI, hl_F_sI, hl_P_sI, hl_R_sI, hl_S_sI, hl_T_sR, hl_N_sR, hl_F_sR, hl_P_sR, hl_I_sR, hl_S_sR, hl_T_wI, hl_N_wI, hl_F_wI, hl_P_wI, hl_R_wI, hl_S_wI, hl_F_sF_s, hl_F_sF_n, hl_P_sP_s, hl_P_sP_n, hl_I_sI_s, hl_I_sI_n, hl_R_sR_s, hl_R_sR_n, hl_I_wI_s, hl_I_wI_n, f0, p1, p20])
  refine ⟨ah_wI (ah_sF h m 0 (D'.length : Int)) (m + 1) (fun y => if 0 ≤ y ∧ y < 0 + (D'.length : Int) then ah_I h (m + 20) (y - 0) else ah_I (ah_sF h m 0 (D'.length : Int)) (m + 1) y), by simp (disch := omega) only [X7_toDesk, rr_p, rr_bp, rr_bb, rr_0, rr_lt, rr_blt, rr_le, rr_ble, rr_eq, rr_beq, rr_nl_n, rr_nl_s, rr_bnl_n, rr_bnl_s, rr_cond_t, rr_cond_f, rr_bcond_t, rr_bcond_f, rr_bon, rr_bcv, rr_cv, rr_g, rr_gr, rr_si, rr_sz, rr_sr, rr_al, rr_ld, rr_st, rr_rl, rr_rs, rr_ni, rr_nr, rr_z, rr_div, rr_rem, rr_lc, rr_mx, rr_mn, rr_ab, rr_no, gd_t, bc_t, bc_f, gd_tt, bc_tt, bc_ff, or_true, true_or, and_true, true_and, Nat.reduceAdd, f0, mo_b_s hL], MI_desk hM (mDesk_newF (f := fun y => if 0 ≤ y ∧ y < 0 + (D'.length : Int) then ah_I h (m + 20) (y - 0) else ah_I h (m + 1) y) (n := (D'.length : Int))) (mDesk_new fun j hj => ?_), ?_⟩
  · rw [if_pos (by omega), Int.sub_zero]; exact hR.2 j hj
  · simp (disch := omega) only [hl_T_sF, hl_N_sF, hl_P_sF, hl_I_sF, hl_R_sF, hl_S_sF, hl_T_sP, hl_N_sP, hl_F_sP, hl_I_sP, hl_R_sP, hl_S_sP, hl_T_sI, hl_N_sI, hl_F_sI, hl_P_sI, hl_R_sI, hl_S_sI, hl_T_sR, hl_N_sR, hl_F_sR, hl_P_sR, hl_I_sR, hl_S_sR, hl_T_wI, hl_N_wI, hl_F_wI, hl_P_wI, hl_R_wI, hl_S_wI, hl_F_sF_s, hl_F_sF_n, hl_P_sP_s, hl_P_sP_n, hl_I_sI_s, hl_I_sI_n, hl_R_sR_s, hl_R_sR_n, hl_I_wI_s, hl_I_wI_n]
theorem q7_stands {h : AH} {m p : Nat} {W : List HK} {xs : List Int} (hQ : mQ h m p W) (hV : pV W) (hR : mRow h m xs) (hx : pL xs) (lx : xs.length ≤ 80) {i : Nat} (hi : i < W.length) {a : Int} (ha : -100000 ≤ a ∧ a ≤ 100000) : X7_stands m (p : Int) (i : Int) a (xs.length : Int) h = some (br (0 ≤ a ∧ stW xs (hk W i).2.1 a) 1 0, h) := by
  obtain ⟨hS, hPt, hp, l1, l2, l3⟩ := id hQ
  have mT := hS.1
  obtain ⟨p9, t9, n9⟩ := ms9 hS
  obtain ⟨p11, t11, n11⟩ := ms11 hS
  obtain ⟨p20, t20, n20⟩ := ms20 hS
  obtain ⟨b1, b2, b3⟩ := mQ_a hQ (i := (i : Int)) (by omega) (by omega)
  rw [Int.toNat_natCast] at b1 b2 b3
  have s1 := @hgs_s W i hi
  have s2 := @hgs_le W (i + 1)
  have e2 := q7_goFrom hQ (i := i) (by omega)
  -- the loop: from k on
  have hL : ∀ (k : Nat), k ≤ (hk W i).2.1.length → 0 ≤ a → a + (hk W i).2.1.length ≤ xs.length → ∀ N, (hk W i).2.1.length - k < N → mo_lp N (X7_stands_L36 ((hk W i).2.1.length : Int) m (p : Int) (i : Int) a) (1, (k : Int)) h = some (br (∀ j : Nat, k ≤ j → j < (hk W i).2.1.length → xs.getD (a.toNat + j) 0 = (hk W i).2.1.getD j 0) 1 0, h) := by
    intro k hk1 h0 h1 N
    induction hd : (hk W i).2.1.length - k generalizing k N with
    | zero =>
      intro hN
      obtain ⟨N, rfl⟩ : ∃ n', N = n' + 1 := ⟨N - 1, by omega⟩
      have e : X7_stands_L36 ((hk W i).2.1.length : Int) m (p : Int) (i : Int) a (1, (k : Int)) h = some (.inr 1, h) := by simp (disch := omega) only [X7_stands_L36, rr_p, rr_bp, rr_bb, rr_0, rr_lt, rr_blt, rr_le, rr_ble, rr_eq, rr_beq, rr_nl_n, rr_nl_s, rr_bnl_n, rr_bnl_s, rr_cond_t, rr_cond_f, rr_bcond_t, rr_bcond_f, rr_bon, rr_bcv, rr_cv, rr_g, rr_gr, rr_si, rr_sz, rr_sr, rr_al, rr_ld, rr_st, rr_rl, rr_rs, rr_ni, rr_nr, rr_z, rr_div, rr_rem, rr_lc, rr_mx, rr_mn, rr_ab, rr_no, gd_t, bc_t, bc_f, gd_tt, bc_tt, bc_ff, or_true, true_or, and_true, true_and, Nat.reduceAdd]
      rw [lp_r e (by omega), bc_t (fun j q1 q2 => by omega)]
    | succ n ih =>
      intro hN
      obtain ⟨N, rfl⟩ : ∃ n', N = n' + 1 := ⟨N - 1, by omega⟩
      have hkl : k < (hk W i).2.1.length := by omega
      have a1 := mRow_at hR (i := a + (k : Int)) (by omega) (by omega)
      rw [show (a + (k : Int)).toNat = a.toNat + k by omega] at a1
      have a2 := mQ_gl hQ hi hkl
      have r1 := hx (a.toNat + k)
      have r2 := (hV i).2.1 k
      by_cases hc : xs.getD (a.toNat + k) 0 = (hk W i).2.1.getD k 0
      · have e : X7_stands_L36 ((hk W i).2.1.length : Int) m (p : Int) (i : Int) a (1, (k : Int)) h = some (.inl (1, (k : Int) + 1), h) := by
          simp (disch := omega) only [X7_stands_L36, rr_p, rr_bp, rr_bb, rr_0, rr_lt, rr_blt, rr_le, rr_ble, rr_eq, rr_beq, rr_nl_n, rr_nl_s, rr_bnl_n, rr_bnl_s, rr_cond_t, rr_cond_f, rr_bcond_t, rr_bcond_f, rr_bon, rr_bcv, rr_cv, rr_g, rr_gr, rr_si, rr_sz, rr_sr, rr_al, rr_ld, rr_st, rr_rl, rr_rs, rr_ni, rr_nr, rr_z, rr_div, rr_rem, rr_lc, rr_mx, rr_mn, rr_ab, rr_no, gd_t, bc_t, bc_f, gd_tt, bc_tt, bc_ff, or_true, true_or, and_true, true_and, Nat.reduceAdd, p20, p11, a1, a2, mo_b_s e2]
        rw [lp_l e]
        have := ih (k + 1) (by omega) N (by omega) (by omega)
        rw [Int.natCast_add, Int.natCast_one] at this
        refine Eq.trans this ?_
        congr 2
        by_cases hall : ∀ j : Nat, k + 1 ≤ j → j < (hk W i).2.1.length → xs.getD (a.toNat + j) 0 = (hk W i).2.1.getD j 0
        · rw [bc_t hall, bc_t (fun j q1 q2 => by
            by_cases z : j = k
            · rw [z]; exact hc
            · exact hall j (by omega) q2)]
        · rw [bc_f hall, bc_f (fun z => hall (fun j q1 q2 => z j (by omega) q2))]
      · have e : X7_stands_L36 ((hk W i).2.1.length : Int) m (p : Int) (i : Int) a (1, (k : Int)) h = some (.inl (0, (k : Int) + 1), h) := by
          simp (disch := omega) only [X7_stands_L36, rr_p, rr_bp, rr_bb, rr_0, rr_lt, rr_blt, rr_le, rr_ble, rr_eq, rr_beq, rr_nl_n, rr_nl_s, rr_bnl_n, rr_bnl_s, rr_cond_t, rr_cond_f, rr_bcond_t, rr_bcond_f, rr_bon, rr_bcv, rr_cv, rr_g, rr_gr, rr_si, rr_sz, rr_sr, rr_al, rr_ld, rr_st, rr_rl, rr_rs, rr_ni, rr_nr, rr_z, rr_div, rr_rem, rr_lc, rr_mx, rr_mn, rr_ab, rr_no, gd_t, bc_t, bc_f, gd_tt, bc_tt, bc_ff, or_true, true_or, and_true, true_and, Nat.reduceAdd, p20, p11, a1, a2, mo_b_s e2]
        rw [lp_l e, bc_f (fun z => hc (z k (Nat.le_refl _) hkl))]
        have e4 : X7_stands_L36 ((hk W i).2.1.length : Int) m (p : Int) (i : Int) a (0, (k : Int) + 1) h = some (.inr 0, h) := by
          by_cases z : (k : Int) + 1 < (hk W i).2.1.length
          · simp (disch := omega) only [X7_stands_L36, rr_p, rr_bp, rr_bb, rr_0, rr_lt, rr_blt, rr_le, rr_ble, rr_eq, rr_beq, rr_nl_n, rr_nl_s, rr_bnl_n, rr_bnl_s, rr_cond_t, rr_cond_f, rr_bcond_t, rr_bcond_f, rr_bon, rr_bcv, rr_cv, rr_g, rr_gr, rr_si, rr_sz, rr_sr, rr_al, rr_ld, rr_st, rr_rl, rr_rs, rr_ni, rr_nr, rr_z, rr_div, rr_rem, rr_lc, rr_mx, rr_mn, rr_ab, rr_no, gd_t, bc_t, bc_f, gd_tt, bc_tt, bc_ff, or_true, true_or, and_true, true_and, Nat.reduceAdd]
          · simp (disch := omega) only [X7_stands_L36, rr_p, rr_bp, rr_bb, rr_0, rr_lt, rr_blt, rr_le, rr_ble, rr_eq, rr_beq, rr_nl_n, rr_nl_s, rr_bnl_n, rr_bnl_s, rr_cond_t, rr_cond_f, rr_bcond_t, rr_bcond_f, rr_bon, rr_bcv, rr_cv, rr_g, rr_gr, rr_si, rr_sz, rr_sr, rr_al, rr_ld, rr_st, rr_rl, rr_rs, rr_ni, rr_nr, rr_z, rr_div, rr_rem, rr_lc, rr_mx, rr_mn, rr_ab, rr_no, gd_t, bc_t, bc_f, gd_tt, bc_tt, bc_ff, or_true, true_or, and_true, true_and, Nat.reduceAdd]
        exact lp_r e4 (by omega)
  have hL0 : mo_lp mo_N (X7_stands_L36 ((hk W i).2.1.length : Int) m (p : Int) (i : Int) a) (0, 0) h = some (0, h) := by
    have e4 : X7_stands_L36 ((hk W i).2.1.length : Int) m (p : Int) (i : Int) a (0, 0) h = some (.inr 0, h) := by
      by_cases z : (0 : Int) < (hk W i).2.1.length
      · simp (disch := omega) only [X7_stands_L36, rr_p, rr_bp, rr_bb, rr_0, rr_lt, rr_blt, rr_le, rr_ble, rr_eq, rr_beq, rr_nl_n, rr_nl_s, rr_bnl_n, rr_bnl_s, rr_cond_t, rr_cond_f, rr_bcond_t, rr_bcond_f, rr_bon, rr_bcv, rr_cv, rr_g, rr_gr, rr_si, rr_sz, rr_sr, rr_al, rr_ld, rr_st, rr_rl, rr_rs, rr_ni, rr_nr, rr_z, rr_div, rr_rem, rr_lc, rr_mx, rr_mn, rr_ab, rr_no, gd_t, bc_t, bc_f, gd_tt, bc_tt, bc_ff, or_true, true_or, and_true, true_and, Nat.reduceAdd]
      · simp (disch := omega) only [X7_stands_L36, rr_p, rr_bp, rr_bb, rr_0, rr_lt, rr_blt, rr_le, rr_ble, rr_eq, rr_beq, rr_nl_n, rr_nl_s, rr_bnl_n, rr_bnl_s, rr_cond_t, rr_cond_f, rr_bcond_t, rr_bcond_f, rr_bon, rr_bcv, rr_cv, rr_g, rr_gr, rr_si, rr_sz, rr_sr, rr_al, rr_ld, rr_st, rr_rl, rr_rs, rr_ni, rr_nr, rr_z, rr_div, rr_rem, rr_lc, rr_mx, rr_mn, rr_ab, rr_no, gd_t, bc_t, bc_f, gd_tt, bc_tt, bc_ff, or_true, true_or, and_true, true_and, Nat.reduceAdd]
    exact lp_r e4 (by rw [mo_N_v]; omega)
  by_cases h0 : 0 ≤ a
  · by_cases h1 : a + (hk W i).2.1.length ≤ xs.length
    · have hl1 := hL 0 (by omega) h0 h1 mo_N (by rw [mo_N_v]; omega)
      have hl1 : mo_lp mo_N (X7_stands_L36 ((hk W i).2.1.length : Int) m (p : Int) (i : Int) a) (1, 0) h = _ := hl1
      have hz : br (∀ j : Nat, 0 ≤ j → j < (hk W i).2.1.length → xs.getD (a.toNat + j) 0 = (hk W i).2.1.getD j 0) (1 : Int) 0 = 0 ∨ br (∀ j : Nat, 0 ≤ j → j < (hk W i).2.1.length → xs.getD (a.toNat + j) 0 = (hk W i).2.1.getD j 0) (1 : Int) 0 = 1 := br_01
      simp (disch := omega) only [X7_stands, rr_p, rr_bp, rr_bb, rr_0, rr_lt, rr_blt, rr_le, rr_ble, rr_eq, rr_beq, rr_nl_n, rr_nl_s, rr_bnl_n, rr_bnl_s, rr_cond_t, rr_cond_f, rr_bcond_t, rr_bcond_f, rr_bon, rr_bcv, rr_cv, rr_g, rr_gr, rr_si, rr_sz, rr_sr, rr_al, rr_ld, rr_st, rr_rl, rr_rs, rr_ni, rr_nr, rr_z, rr_div, rr_rem, rr_lc, rr_mx, rr_mn, rr_ab, rr_no, gd_t, bc_t, bc_f, gd_tt, bc_tt, bc_ff, or_true, true_or, and_true, true_and, Nat.reduceAdd, p9, b2, mo_b_s hl1]
      congr 2
      by_cases hall : stW xs (hk W i).2.1 a
      · rw [bc_t (fun j _ q => hall.2 j q), bc_t ⟨h0, hall⟩]
      · rw [bc_f (fun z => hall ⟨h1, fun j q => z j (by omega) q⟩), bc_f (fun z => hall z.2)]
    · rw [bc_f (fun z => h1 z.2.1)]
      simp (disch := omega) only [X7_stands, rr_p, rr_bp, rr_bb, rr_0, rr_lt, rr_blt, rr_le, rr_ble, rr_eq, rr_beq, rr_nl_n, rr_nl_s, rr_bnl_n, rr_bnl_s, rr_cond_t, rr_cond_f, rr_bcond_t, rr_bcond_f, rr_bon, rr_bcv, rr_cv, rr_g, rr_gr, rr_si, rr_sz, rr_sr, rr_al, rr_ld, rr_st, rr_rl, rr_rs, rr_ni, rr_nr, rr_z, rr_div, rr_rem, rr_lc, rr_mx, rr_mn, rr_ab, rr_no, gd_t, bc_t, bc_f, gd_tt, bc_tt, bc_ff, or_true, true_or, and_true, true_and, Nat.reduceAdd, p9, b2, mo_b_s hL0]
  · rw [bc_f (fun z => h0 z.1)]
    simp (disch := omega) only [X7_stands, rr_p, rr_bp, rr_bb, rr_0, rr_lt, rr_blt, rr_le, rr_ble, rr_eq, rr_beq, rr_nl_n, rr_nl_s, rr_bnl_n, rr_bnl_s, rr_cond_t, rr_cond_f, rr_bcond_t, rr_bcond_f, rr_bon, rr_bcv, rr_cv, rr_g, rr_gr, rr_si, rr_sz, rr_sr, rr_al, rr_ld, rr_st, rr_rl, rr_rs, rr_ni, rr_nr, rr_z, rr_div, rr_rem, rr_lc, rr_mx, rr_mn, rr_ab, rr_no, gd_t, bc_t, bc_f, gd_tt, bc_tt, bc_ff, or_true, true_or, and_true, true_and, Nat.reduceAdd, p9, b2, mo_b_s hL0]
theorem q7_fitsWork {h : AH} {m p : Nat} {W : List HK} {xs : List Int} (hQ : mQ h m p W) (hV : pV W) (hR : mRow h m xs) (hx : pL xs) (lx : xs.length ≤ 80) (hp : ∀ i : Nat, i < W.length → 0 ≤ (hk W i).1) : X7_fitsWork m (p : Int) h = some (br (fitW xs W) 1 0, h) := by
  obtain ⟨hS, hPt, hp12, l1, l2, l3⟩ := id hQ
  have mT := hS.1
  have w1 := hPt.1
  have f27 := hR.1
  obtain ⟨p7, t7, n7⟩ := ms7 hS
  obtain ⟨p8, t8, n8⟩ := ms8 hS
  have hL : ∀ (d k : Nat) (c : Prop), k + d = W.length → (c ↔ ∀ i : Nat, i < k → stW xs (hk W i).2.1 (hk W i).1) → ∀ N, d < N → mo_lp N (X7_fitsWork_L4 m (p : Int)) (br c 1 0, (k : Int)) h = some (br (fitW xs W) 1 0, h) := by
    intro d
    induction d with
    | zero =>
      intro k c hkd hc N hN
      obtain ⟨N, rfl⟩ : ∃ n', N = n' + 1 := ⟨N - 1, by omega⟩
      have e : X7_fitsWork_L4 m (p : Int) (br c 1 0, (k : Int)) h = some (.inr (br c 1 0), h) := by simp (disch := omega) only [X7_fitsWork_L4, rr_p, rr_bp, rr_bb, rr_0, rr_lt, rr_blt, rr_le, rr_ble, rr_eq, rr_beq, rr_nl_n, rr_nl_s, rr_bnl_n, rr_bnl_s, rr_cond_t, rr_cond_f, rr_bcond_t, rr_bcond_f, rr_bon, rr_bcv, rr_cv, rr_g, rr_gr, rr_si, rr_sz, rr_sr, rr_al, rr_ld, rr_st, rr_rl, rr_rs, rr_ni, rr_nr, rr_z, rr_div, rr_rem, rr_lc, rr_mx, rr_mn, rr_ab, rr_no, gd_t, bc_t, bc_f, gd_tt, bc_tt, bc_ff, or_true, true_or, and_true, true_and, Nat.reduceAdd, p7, w1]
      rw [lp_r e (by omega)]
      have : br c (1 : Int) 0 = br (fitW xs W) 1 0 := by
        have hiff : c ↔ fitW xs W := ⟨fun z i hi => hc.mp z i (by omega), fun z => hc.mpr (fun i hi => z i (by omega))⟩
        rw [propext hiff]
      rw [this]
    | succ d ih =>
      intro k c hkd hc N hN
      obtain ⟨N, rfl⟩ : ∃ n', N = n' + 1 := ⟨N - 1, by omega⟩
      by_cases cc : c
      · rw [bc_t cc]
        obtain ⟨b1, b2, b3⟩ := mQ_a hQ (i := (k : Int)) (by omega) (by omega)
        rw [Int.toNat_natCast] at b1 b2 b3
        have r1 := (hV k).1
        have e2 := q7_stands hQ hV hR hx lx (i := k) (by omega) (a := (hk W k).1) (by omega)
        have e : X7_fitsWork_L4 m (p : Int) (1, (k : Int)) h = some (.inl (br (0 ≤ (hk W k).1 ∧ stW xs (hk W k).2.1 (hk W k).1) 1 0, (k : Int) + 1), h) := by
          simp (disch := omega) only [X7_fitsWork_L4, rr_p, rr_bp, rr_bb, rr_0, rr_lt, rr_blt, rr_le, rr_ble, rr_eq, rr_beq, rr_nl_n, rr_nl_s, rr_bnl_n, rr_bnl_s, rr_cond_t, rr_cond_f, rr_bcond_t, rr_bcond_f, rr_bon, rr_bcv, rr_cv, rr_g, rr_gr, rr_si, rr_sz, rr_sr, rr_al, rr_ld, rr_st, rr_rl, rr_rs, rr_ni, rr_nr, rr_z, rr_div, rr_rem, rr_lc, rr_mx, rr_mn, rr_ab, rr_no, gd_t, bc_t, bc_f, gd_tt, bc_tt, bc_ff, or_true, true_or, and_true, true_and, Nat.reduceAdd, p7, p8, w1, b1, f27, mo_b_s e2]
        rw [lp_l e]
        have := ih (k + 1) (0 ≤ (hk W k).1 ∧ stW xs (hk W k).2.1 (hk W k).1) (by omega) ⟨fun z i hi => by
            by_cases zi : i = k
            · rw [zi]; exact z.2
            · exact hc.mp cc i (by omega), fun z => ⟨hp k (by omega), z k (by omega)⟩⟩ N (by omega)
        rw [Int.natCast_add, Int.natCast_one] at this
        exact this
      · rw [bc_f cc]
        have e : X7_fitsWork_L4 m (p : Int) (0, (k : Int)) h = some (.inr 0, h) := by simp (disch := omega) only [X7_fitsWork_L4, rr_p, rr_bp, rr_bb, rr_0, rr_lt, rr_blt, rr_le, rr_ble, rr_eq, rr_beq, rr_nl_n, rr_nl_s, rr_bnl_n, rr_bnl_s, rr_cond_t, rr_cond_f, rr_bcond_t, rr_bcond_f, rr_bon, rr_bcv, rr_cv, rr_g, rr_gr, rr_si, rr_sz, rr_sr, rr_al, rr_ld, rr_st, rr_rl, rr_rs, rr_ni, rr_nr, rr_z, rr_div, rr_rem, rr_lc, rr_mx, rr_mn, rr_ab, rr_no, gd_t, bc_t, bc_f, gd_tt, bc_tt, bc_ff, or_true, true_or, and_true, true_and, Nat.reduceAdd, p7, w1]
        rw [lp_r e (by omega), bc_f (fun z => cc (hc.mpr (fun i hi => z i (by omega))))]
  have h0 := hL W.length 0 True (by omega) ⟨fun _ i hi => by omega, fun _ => trivial⟩ mo_N (by rw [mo_N_v]; omega)
  rw [bc_tt] at h0
  have h0 : mo_lp mo_N (X7_fitsWork_L4 m (p : Int)) (1, 0) h = _ := h0
  have hz : br (fitW xs W) (1 : Int) 0 = 0 ∨ br (fitW xs W) (1 : Int) 0 = 1 := br_01
  simp (disch := omega) only [X7_fitsWork, rr_p, rr_bp, rr_bb, rr_0, rr_lt, rr_blt, rr_le, rr_ble, rr_eq, rr_beq, rr_nl_n, rr_nl_s, rr_bnl_n, rr_bnl_s, rr_cond_t, rr_cond_f, rr_bcond_t, rr_bcond_f, rr_bon, rr_bcv, rr_cv, rr_g, rr_gr, rr_si, rr_sz, rr_sr, rr_al, rr_ld, rr_st, rr_rl, rr_rs, rr_ni, rr_nr, rr_z, rr_div, rr_rem, rr_lc, rr_mx, rr_mn, rr_ab, rr_no, gd_t, bc_t, bc_f, gd_tt, bc_tt, bc_ff, or_true, true_or, and_true, true_and, Nat.reduceAdd, mo_b_s h0]
theorem c_fits (p : Int) (hp : am_r p) (s : SG) (ho : OKS s) : CJ (fun x => X6_fits x p) (fun m => X7_fits m p) s := by
  have oQ1 := ho.2.2.1.1
  have oD := ho.1
  have hp2 := hp
  unfold am_r at hp
  by_cases c1 : 0 ≤ p ∧ p < s.2.2.1.length
  · obtain ⟨pn, rfl⟩ := Int.eq_ofNat_of_zero_le c1.1
    have hOP := ho.2.2.1.2 pn (by omega)
    have hPV := OP_pV hOP (by omega)
    refine ⟨br (fitW s.1 (pt s.2.2.1 pn)) 1 0, s, ho, ?_, ?_⟩
    · intro x h hK
      obtain ⟨hR, nD, hSc, A, B, hB⟩ := id hK
      obtain ⟨⟨o1, ⟨p0, p1, p2, p4, p6, p7, p8, p9, p10, p11, p12⟩, o3, o4, o5, o6, o7, o8, o9⟩, ⟨f3, f5, f13⟩, hA, hQ, hM, hX⟩ := id hB
      have tR := hR.1
      have e1 := q6_patchOrNull hB oQ1 hp2
      rw [if_pos c1, Int.toNat_natCast] at e1
      obtain ⟨y1, y2, y3, y4⟩ := hQ pn (by omega)
      have t0 := y2.1.1.1
      have e2 := q3_fitsOn y2 hPV hR (wL_pL oD.2) hOP.1.1
      refine ⟨h, ?_, hK⟩
      by_cases cf : fitW s.1 (pt s.2.2.1 pn)
      · rw [bc_t cf] at e2 ⊢
        simp (disch := omega) only [X6_fits, rr_p, rr_bp, rr_bb, rr_0, rr_lt, rr_blt, rr_le, rr_ble, rr_eq, rr_beq, rr_nl_n, rr_nl_s, rr_bnl_n, rr_bnl_s, rr_cond_t, rr_cond_f, rr_bcond_t, rr_bcond_f, rr_bon, rr_bcv, rr_cv, rr_g, rr_gr, rr_si, rr_sz, rr_sr, rr_al, rr_ld, rr_st, rr_rl, rr_rs, rr_ni, rr_nr, rr_z, rr_div, rr_rem, rr_lc, rr_mx, rr_mn, rr_ab, rr_no, gd_t, bc_t, bc_f, gd_tt, bc_tt, bc_ff, or_true, true_or, and_true, true_and, Nat.reduceAdd, p0, mo_b_s e1, mo_b_s e2]
      · rw [bc_f cf] at e2 ⊢
        simp (disch := omega) only [X6_fits, rr_p, rr_bp, rr_bb, rr_0, rr_lt, rr_blt, rr_le, rr_ble, rr_eq, rr_beq, rr_nl_n, rr_nl_s, rr_bnl_n, rr_bnl_s, rr_cond_t, rr_cond_f, rr_bcond_t, rr_bcond_f, rr_bon, rr_bcv, rr_cv, rr_g, rr_gr, rr_si, rr_sz, rr_sr, rr_al, rr_ld, rr_st, rr_rl, rr_rs, rr_ni, rr_nr, rr_z, rr_div, rr_rem, rr_lc, rr_mx, rr_mn, rr_ab, rr_no, gd_t, bc_t, bc_f, gd_tt, bc_tt, bc_ff, or_true, true_or, and_true, true_and, Nat.reduceAdd, p0, mo_b_s e1, mo_b_s e2]
    · intro m h hM
      have mT := hM.1.1
      have e1 := q7_isPatch hM oQ1 hp2
      rw [bc_t c1] at e1
      obtain ⟨h1, e2, r2, f2⟩ := q7_workOnDesk hM.1 hM.2.1 oD.1
      have hM1 := MI_fr hM f2 (by omega)
      have mT1 := hM1.1.1
      have e3 := q7_fitsWork (MI_Q hM1 ho (p := pn) (by omega)) hPV r2 (wL_pL oD.2) (by omega) hOP.1.1
      refine ⟨h1, ?_, hM1⟩
      by_cases cf : fitW s.1 (pt s.2.2.1 pn)
      · rw [bc_t cf] at e3 ⊢
        simp (disch := omega) only [X7_fits, rr_p, rr_bp, rr_bb, rr_0, rr_lt, rr_blt, rr_le, rr_ble, rr_eq, rr_beq, rr_nl_n, rr_nl_s, rr_bnl_n, rr_bnl_s, rr_cond_t, rr_cond_f, rr_bcond_t, rr_bcond_f, rr_bon, rr_bcv, rr_cv, rr_g, rr_gr, rr_si, rr_sz, rr_sr, rr_al, rr_ld, rr_st, rr_rl, rr_rs, rr_ni, rr_nr, rr_z, rr_div, rr_rem, rr_lc, rr_mx, rr_mn, rr_ab, rr_no, gd_t, bc_t, bc_f, gd_tt, bc_tt, bc_ff, or_true, true_or, and_true, true_and, Nat.reduceAdd, mo_b_s e1, mo_b_s e2, mo_b_s e3]
      · rw [bc_f cf] at e3 ⊢
        simp (disch := omega) only [X7_fits, rr_p, rr_bp, rr_bb, rr_0, rr_lt, rr_blt, rr_le, rr_ble, rr_eq, rr_beq, rr_nl_n, rr_nl_s, rr_bnl_n, rr_bnl_s, rr_cond_t, rr_cond_f, rr_bcond_t, rr_bcond_f, rr_bon, rr_bcv, rr_cv, rr_g, rr_gr, rr_si, rr_sz, rr_sr, rr_al, rr_ld, rr_st, rr_rl, rr_rs, rr_ni, rr_nr, rr_z, rr_div, rr_rem, rr_lc, rr_mx, rr_mn, rr_ab, rr_no, gd_t, bc_t, bc_f, gd_tt, bc_tt, bc_ff, or_true, true_or, and_true, true_and, Nat.reduceAdd, mo_b_s e1, mo_b_s e2, mo_b_s e3]
  · refine CJ.same (-101) ho ?_ ?_
    · intro x h hK
      obtain ⟨hR, nD, hSc, A, B, hB⟩ := id hK
      obtain ⟨⟨o1, ⟨p0, p1, p2, p4, p6, p7, p8, p9, p10, p11, p12⟩, o3, o4, o5, o6, o7, o8, o9⟩, ⟨f3, f5, f13⟩, hA, hQ, hM, hX⟩ := id hB
      have e1 := q6_patchOrNull hB oQ1 hp2
      rw [if_neg c1] at e1
      simp (disch := omega) only [X6_fits, rr_p, rr_bp, rr_bb, rr_0, rr_lt, rr_blt, rr_le, rr_ble, rr_eq, rr_beq, rr_nl_n, rr_nl_s, rr_bnl_n, rr_bnl_s, rr_cond_t, rr_cond_f, rr_bcond_t, rr_bcond_f, rr_bon, rr_bcv, rr_cv, rr_g, rr_gr, rr_si, rr_sz, rr_sr, rr_al, rr_ld, rr_st, rr_rl, rr_rs, rr_ni, rr_nr, rr_z, rr_div, rr_rem, rr_lc, rr_mx, rr_mn, rr_ab, rr_no, gd_t, bc_t, bc_f, gd_tt, bc_tt, bc_ff, or_true, true_or, and_true, true_and, Nat.reduceAdd, mo_b_s e1]
    · intro m h hM
      have mT := hM.1.1
      have e1 := q7_isPatch hM oQ1 hp2
      rw [bc_f c1] at e1
      simp (disch := omega) only [X7_fits, rr_p, rr_bp, rr_bb, rr_0, rr_lt, rr_blt, rr_le, rr_ble, rr_eq, rr_beq, rr_nl_n, rr_nl_s, rr_bnl_n, rr_bnl_s, rr_cond_t, rr_cond_f, rr_bcond_t, rr_bcond_f, rr_bon, rr_bcv, rr_cv, rr_g, rr_gr, rr_si, rr_sz, rr_sr, rr_al, rr_ld, rr_st, rr_rl, rr_rs, rr_ni, rr_nr, rr_z, rr_div, rr_rem, rr_lc, rr_mx, rr_mn, rr_ab, rr_no, gd_t, bc_t, bc_f, gd_tt, bc_tt, bc_ff, or_true, true_or, and_true, true_and, Nat.reduceAdd, mo_b_s e1]
