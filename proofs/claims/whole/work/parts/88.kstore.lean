def okE (E : SE) : Prop := (1 ≤ E.1 ∧ E.1 ≤ 6) ∧ (1 ≤ E.2.2.2 ∧ E.2.2.2 ≤ 999) ∧ (∀ i s : Int, 0 ≤ i → i < E.1 → -1 ≤ s → s < E.1 → 1 ≤ E.2.1 i s ∧ E.2.1 i s ≤ 99) ∧ ∀ i : Nat, i < E.1 → 0 ≤ E.2.2.1 i ∧ E.2.2.1 i ≤ 9
def kE (h : AH) (l : Nat) (E : SE) : Prop := kLs h l ∧ (ah_F h l 0 = (E.1 : Int) ∧ ah_F h l 1 = E.2.2.2) ∧ (∀ i : Int, 0 ≤ i → i < E.1 → ah_I h (l + 1) i = E.2.1 i (-1)) ∧ (∀ i s : Int, 0 ≤ i → i < E.1 → 0 ≤ s → s < E.1 → ah_I h (l + 2) (s * 6 + i) = E.2.1 i s) ∧ ∀ i : Nat, i < E.1 → ah_I h (l + 3) (i : Int) = E.2.2.1 i
def LF (l : Nat) (h h' : AH) : Prop := FRM h h' l (l + 9) ∧ (∀ k, k < 4 → ah_I h' (l + k) = ah_I h (l + k)) ∧ ah_F h' l 0 = ah_F h l 0 ∧ ah_F h' l 1 = ah_F h l 1
theorem LF.rf {l : Nat} {h : AH} : LF l h h := ⟨FRM.rf, fun _ _ => rfl, rfl, rfl⟩
theorem LF.tr {l : Nat} {h h' h'' : AH} (a : LF l h h') (b : LF l h' h'') : LF l h h'' := ⟨a.1.tr b.1 (Nat.le_refl _) (Nat.le_refl _) (Nat.le_refl _) (Nat.le_refl _), fun k hk => (b.2.1 k hk).trans (a.2.1 k hk), b.2.2.1.trans a.2.2.1, b.2.2.2.trans a.2.2.2⟩
theorem LF.fr {l lo hi : Nat} {h h' : AH} (f : FRM h h' lo hi) (h1 : l + 4 ≤ lo) (h2 : hi ≤ l + 9) : LF l h h' := ⟨f.tr FRM.rf (lo2 := l) (hi2 := l + 9) (by omega) (by omega) (by omega) (by omega), fun k hk => f.2.2.2.2.2.2 (l + k) (by omega), by rw [f.2.2.2.2.2.1 l (by omega)], by rw [f.2.2.2.2.2.1 l (by omega)]⟩
theorem LF.sF {l k : Nat} {h : AH} {v : Int} (hk : 2 ≤ k) : LF l h (ah_sF h l k v) := ⟨FRM.sF (by omega) (by omega), fun _ _ => rfl, hl_F_sF_n (by omega), hl_F_sF_n (by omega)⟩
theorem kE_lf {l : Nat} {h h' : AH} {E : SE} (hE : kE h l E) (f : LF l h h') : kE h' l E := by
  obtain ⟨k1, k2, k3, k4, k5⟩ := hE
  have i1 := f.2.1 1 (by omega)
  have i2 := f.2.1 2 (by omega)
  have i3 := f.2.1 3 (by omega)
  refine ⟨kLs_fr k1 f.1, ?_, ?_, ?_, ?_⟩
  · rw [f.2.2.1, f.2.2.2]; exact k2
  · rw [i1]; exact k3
  · rw [i2]; exact k4
  · rw [i3]; exact k5
theorem q2_pieceRoom {h : AH} {l : Nat} {E : SE} (hE : kE h l E) (ok : okE E) {i s : Int} (h0 : 0 ≤ i) (h1 : i < E.1) (h2 : -1 ≤ s) (h3 : s < E.1) : X2_pieceRoom l i s h = some (E.2.1 i s, h) := by
  obtain ⟨⟨t0, ⟨p2, p3, p4, p5, p6, p7, p8, p9⟩, ⟨t1, t2, t3, t4, t5, t6, t7, t8⟩, ⟨n1, n2, n3, n4, n5, n6, n7, n8⟩⟩, ⟨f0, f1⟩, k3, k4, k5⟩ := id hE
  have hn := ok.1
  by_cases c : s < 0
  · have e := k3 i h0 h1
    have : s = -1 := by omega
    subst this
    simp (disch := omega) only [X2_pieceRoom, rr_p, rr_bp, rr_bb, rr_0, rr_lt, rr_blt, rr_le, rr_ble, rr_eq, rr_beq, rr_nl_n, rr_nl_s, rr_bnl_n, rr_bnl_s, rr_cond_t, rr_cond_f, rr_bcond_t, rr_bcond_f, rr_bon, rr_bcv, rr_cv, rr_g, rr_gr, rr_si, rr_sz, rr_sr, rr_al, rr_ld, rr_st, rr_rl, rr_rs, rr_ni, rr_nr, rr_z, rr_div, rr_rem, rr_lc, rr_mx, rr_mn, rr_ab, rr_no, gd_t, bc_t, bc_f, gd_tt, bc_tt, bc_ff, or_true, true_or, and_true, true_and, Nat.reduceAdd, p2, e]
  · have e := k4 i s h0 h1 (by omega) h3
    simp (disch := omega) only [X2_pieceRoom, rr_p, rr_bp, rr_bb, rr_0, rr_lt, rr_blt, rr_le, rr_ble, rr_eq, rr_beq, rr_nl_n, rr_nl_s, rr_bnl_n, rr_bnl_s, rr_cond_t, rr_cond_f, rr_bcond_t, rr_bcond_f, rr_bon, rr_bcv, rr_cv, rr_g, rr_gr, rr_si, rr_sz, rr_sr, rr_al, rr_ld, rr_st, rr_rl, rr_rs, rr_ni, rr_nr, rr_z, rr_div, rr_rem, rr_lc, rr_mx, rr_mn, rr_ab, rr_no, gd_t, bc_t, bc_f, gd_tt, bc_tt, bc_ff, or_true, true_or, and_true, true_and, Nat.reduceAdd, p3, e]
def cx (ce : Int → Int) (s : Int) : Int := if s < 0 then 0 else ce s
theorem q2_remadeAtLeast {h : AH} {l : Nat} {E : SE} (hE : kE h l E) (ok : okE E) {i s : Int} (h0 : 0 ≤ i) (h1 : i < E.1) (h2 : -1 ≤ s) (h3 : s < E.1) : X2_remadeAtLeast l i s h = some (E.2.1 i s + cx (ah_I h (l + 4)) s, h) := by
  have e1 := q2_pieceRoom hE ok h0 h1 h2 h3
  obtain ⟨⟨t0, ⟨p2, p3, p4, p5, p6, p7, p8, p9⟩, ⟨t1, t2, t3, t4, t5, t6, t7, t8⟩, ⟨n1, n2, n3, n4, n5, n6, n7, n8⟩⟩, ⟨f0, f1⟩, k3, k4, k5⟩ := id hE
  have hn := ok.1
  unfold cx
  by_cases c : s < 0
  · rw [if_pos c]
    simp (disch := omega) only [X2_remadeAtLeast, rr_p, rr_bp, rr_bb, rr_0, rr_lt, rr_blt, rr_le, rr_ble, rr_eq, rr_beq, rr_nl_n, rr_nl_s, rr_bnl_n, rr_bnl_s, rr_cond_t, rr_cond_f, rr_bcond_t, rr_bcond_f, rr_bon, rr_bcv, rr_cv, rr_g, rr_gr, rr_si, rr_sz, rr_sr, rr_al, rr_ld, rr_st, rr_rl, rr_rs, rr_ni, rr_nr, rr_z, rr_div, rr_rem, rr_lc, rr_mx, rr_mn, rr_ab, rr_no, gd_t, bc_t, bc_f, gd_tt, bc_tt, bc_ff, or_true, true_or, and_true, true_and, Nat.reduceAdd, mo_b_s e1]
  · rw [if_neg c]
    simp (disch := omega) only [X2_remadeAtLeast, rr_p, rr_bp, rr_bb, rr_0, rr_lt, rr_blt, rr_le, rr_ble, rr_eq, rr_beq, rr_nl_n, rr_nl_s, rr_bnl_n, rr_bnl_s, rr_cond_t, rr_cond_f, rr_bcond_t, rr_bcond_f, rr_bon, rr_bcv, rr_cv, rr_g, rr_gr, rr_si, rr_sz, rr_sr, rr_al, rr_ld, rr_st, rr_rl, rr_rs, rr_ni, rr_nr, rr_z, rr_div, rr_rem, rr_lc, rr_mx, rr_mn, rr_ab, rr_no, gd_t, bc_t, bc_f, gd_tt, bc_tt, bc_ff, or_true, true_or, and_true, true_and, Nat.reduceAdd, mo_b_s e1, p5]
def acy (E : SE) (s : List Int) : Prop := ∀ j : Int, 0 ≤ j → j < E.1 → itc s (E.1 : Int) E.1 j = -1
/-- a bound from below for what versions are remade for -/
def LBc (E : SE) (r : Nat) (c : Int → Int) : Prop := ∀ s, sR E.1 s → acy E s → ∀ j : Int, 0 ≤ j → j < E.1 → itc s (E.1 : Int) r j = -1 → c j ≤ rmd E s E.1 j
def cOk (E : SE) (c : Int → Int) : Prop := ∀ j : Int, 0 ≤ j → j < E.1 → 0 ≤ c j ∧ c j ≤ 99
def RN (E : SE) (c c' : Int → Int) (i k : Nat) : Prop := (∀ j : Int, 0 ≤ j → j < E.1 → 0 ≤ c' j ∧ c' j ≤ c j) ∧ ∀ a s : Int, 0 ≤ a → a < E.1 → 0 ≤ s → s < E.1 → (a < i ∨ (a = i ∧ s < k)) → c' a ≤ E.2.1 a s + c s
theorem RN_s {E : SE} (ok : okE E) {c c' : Int → Int} {i k : Nat} (h : RN E c c' i k) (hi : i < E.1) (hk1 : k < E.1) : RN E c (fu c' (i : Int) (min (c' (i : Int)) (E.2.1 (i : Int) (k : Int) + c' (k : Int)))) i (k + 1) := by
  have p := ok.2.2.1 (i : Int) (k : Int) (by omega) (by omega) (by omega) (by omega)
  have a1 := h.1 (i : Int) (by omega) (by omega)
  have a2 := h.1 (k : Int) (by omega) (by omega)
  refine ⟨fun j j0 j1 => ?_, fun a s a0 a1' s0 s1 hc => ?_⟩
  · by_cases c : j = (i : Int)
    · rw [c, fu_s]; omega
    · rw [fu_n _ _ c]; exact h.1 j j0 j1
  · by_cases c : a = (i : Int)
    · rw [c, fu_s]
      by_cases cs : s = (k : Int)
      · rw [cs]; omega
      · have := h.2 a s a0 a1' s0 s1 (by omega)
        rw [c] at this; omega
    · rw [fu_n _ _ c]; exact h.2 a s a0 a1' s0 s1 (by omega)
theorem RN_n {E : SE} {c c' : Int → Int} {i : Nat} (h : RN E c c' i E.1) : RN E c c' (i + 1) 0 := ⟨h.1, fun a s a0 a1 s0 s1 hc => h.2 a s a0 a1 s0 s1 (by omega)⟩
theorem LBc_s {E : SE} (ok : okE E) {c c' : Int → Int} {r : Nat} (hl : LBc E r c) (h : RN E c c' E.1 0) (hw : ∀ j : Int, 0 ≤ j → j < E.1 → c j ≤ E.2.1 j (-1)) : LBc E (r + 1) c' := by
  intro s hs ha j j0 j1 hj
  rw [itc_i ⟨j0, j1⟩] at hj
  have e := rmd_1 (E := E) (s := s) ok.1.1 ha j0 j1
  have hr := hs.2 j j0 j1
  have hb := h.1 j j0 j1
  by_cases cu : sv s j = -1
  · have z : rmd E s E.1 (sv s j) = 0 := rmd_o (by omega)
    have := hw j j0 j1
    rw [e, z, cu]; omega
  · have h2 := h.2 j (sv s j) j0 j1 (by omega) hr.2.1 (by omega)
    have h3 := hl s hs ha (sv s j) (by omega) hr.2.1 hj
    rw [e]; omega
theorem q2_cheapest {h : AH} {l : Nat} {E : SE} (hE : kE h l E) (ok : okE E) : ∃ h', X2_reckonCheapest l h = some ((), h') ∧ FRM h h' (l + 4) (l + 5) ∧ cOk E (ah_I h' (l + 4)) ∧ LBc E E.1 (ah_I h' (l + 4)) := by
  obtain ⟨⟨t0, ⟨p2, p3, p4, p5, p6, p7, p8, p9⟩, ⟨t1, t2, t3, t4, t5, t6, t7, t8⟩, ⟨n1, n2, n3, n4, n5, n6, n7, n8⟩⟩, ⟨f0, f1⟩, k3, k4, k5⟩ := id hE
  have hn := ok.1
  have hL := lp_cp (F := X2_reckonCheapest_L2 l) (h := h) (a := l + 4) (n := E.1) 0 (fun k => ah_I h (l + 1) k) (by omega) (fun k g hk => by simp (disch := omega) only [X2_reckonCheapest_L2, rr_p, rr_bp, rr_bb, rr_0, rr_lt, rr_blt, rr_le, rr_ble, rr_eq, rr_beq, rr_nl_n, rr_nl_s, rr_bnl_n, rr_bnl_s, rr_cond_t, rr_cond_f, rr_bcond_t, rr_bcond_f, rr_bon, rr_bcv, rr_cv, rr_g, rr_gr, rr_si, rr_sz, rr_sr, rr_al, rr_ld, rr_st, rr_rl, rr_rs, rr_ni, rr_nr, rr_z, rr_div, rr_rem, rr_lc, rr_mx, rr_mn, rr_ab, rr_no, gd_t, bc_t, bc_f, gd_tt, bc_tt, bc_ff, or_true, true_or, and_true, true_and, Nat.reduceAdd, hl_T_sF, hl_N_sF, hl_P_sF, hl_I_sF, hl_R_sF, hl_S_sF, hl_T_sP, hl_N_sP, hl_F_sP, hl_I_sP, hl_R_sP, hl_S_sP, hl_T_sI, hl_N_sI, hl_F_sI, hl_P_sI, hl_R_sI, hl_S_sI, hl_T_sR, hl_N_sR, hl_F_sR, hl_P_sR, hl_I_sR, hl_S_sR, hl_T_wI, hl_N_wI, hl_F_wI, hl_P_wI, hl_R_wI, hl_S_wI, hl_F_sF_s, hl_F_sF_n, hl_P_sP_s, hl_P_sP_n, hl_I_sI_s, hl_I_sI_n, hl_R_sR_s, hl_R_sR_n, hl_I_wI_s, hl_I_wI_n, f0, p2, p5, hl_sI_wI, Int.zero_add]) (fun g => by simp (disch := omega) only [X2_reckonCheapest_L2, rr_p, rr_bp, rr_bb, rr_0, rr_lt, rr_blt, rr_le, rr_ble, rr_eq, rr_beq, rr_nl_n, rr_nl_s, rr_bnl_n, rr_bnl_s, rr_cond_t, rr_cond_f, rr_bcond_t, rr_bcond_f, rr_bon, rr_bcv, rr_cv, rr_g, rr_gr, rr_si, rr_sz, rr_sr, rr_al, rr_ld, rr_st, rr_rl, rr_rs, rr_ni, rr_nr, rr_z, rr_div, rr_rem, rr_lc, rr_mx, rr_mn, rr_ab, rr_no, gd_t, bc_t, bc_f, gd_tt, bc_tt, bc_ff, or_true, true_or, and_true, true_and, Nat.reduceAdd, hl_T_sF, hl_N_sF, hl_P_sF, hl_I_sF, hl_R_sF, hl_S_sF, hl_T_sP, hl_N_sP, hl_F_sP, hl_I_sP, hl_R_sP, hl_S_sP, hl_T_sI, hl_N_sI, hl_F_sI, hl_P_sI, hl_R_sI, hl_S_sI, hl_T_sR, hl_N_sR, hl_F_sR, hl_P_sR, hl_I_sR, hl_S_sR, hl_T_wI, hl_N_wI, hl_F_wI, hl_P_wI, hl_R_wI, hl_S_wI, hl_F_sF_s, hl_F_sF_n, hl_P_sP_s, hl_P_sP_n, hl_I_sI_s, hl_I_sI_n, hl_R_sR_s, hl_R_sR_n, hl_I_wI_s, hl_I_wI_n, f0])
  generalize hge : (fun y => if 0 ≤ y ∧ y < 0 + (E.1 : Int) then ah_I h (l + 1) (y - 0) else ah_I h (l + 4) y) = g at hL
  have hg : ∀ j : Int, 0 ≤ j → j < E.1 → g j = E.2.1 j (-1) := fun j j0 j1 => by
    rw [← hge]; dsimp only
    rw [if_pos (by omega), Int.sub_zero]; exact k3 j j0 j1
  have G0 : FRM h (ah_wI h (l + 4) g) (l + 4) (l + 5) := FRM.wI (by omega) (by omega)
  -- one round
  have round : ∀ h1 : AH, FRM h h1 (l + 4) (l + 5) → (∀ j : Int, 0 ≤ j → j < E.1 → 0 ≤ ah_I h1 (l + 4) j ∧ ah_I h1 (l + 4) j ≤ E.2.1 j (-1)) → ∃ h2, mo_lp mo_N (X2_reckonCheapest_L40 l) 0 h1 = some ((), h2) ∧ FRM h h2 (l + 4) (l + 5) ∧ RN E (ah_I h1 (l + 4)) (ah_I h2 (l + 4)) E.1 0 := by
    intro h1 g1 hc
    have hL := lp_inv (F := X2_reckonCheapest_L40 l) (fun s h' => ∃ i : Nat, s = (i : Int) ∧ i ≤ E.1 ∧ FRM h h' (l + 4) (l + 5) ∧ RN E (ah_I h1 (l + 4)) (ah_I h' (l + 4)) i 0) (fun s => ((E.1 : Int) - s).toNat) (fun _ h' => FRM h h' (l + 4) (l + 5) ∧ RN E (ah_I h1 (l + 4)) (ah_I h' (l + 4)) E.1 0) ?_ mo_N 0 h1 ⟨0, rfl, by omega, g1, ⟨fun j j0 j1 => ⟨(hc j j0 j1).1, Int.le_refl _⟩, fun a s _ _ _ _ z => by omega⟩⟩ (by rw [mo_N_v]; omega)
    · obtain ⟨_, h', e, q⟩ := hL; exact ⟨h', e, q⟩
    · rintro s h' ⟨i, rfl, hi, g2, hr⟩
      have hE' := kE_lf hE (LF.fr g2 (by omega) (by omega))
      have tl := hE'.1.1
      have f0' := hE'.2.1.1
      by_cases ci : i < E.1
      · left
        have hL2 := lp_inv (F := X2_reckonCheapest_L50 l (i : Int)) (fun s h' => ∃ k : Nat, s = (k : Int) ∧ k ≤ E.1 ∧ FRM h h' (l + 4) (l + 5) ∧ RN E (ah_I h1 (l + 4)) (ah_I h' (l + 4)) i k) (fun s => ((E.1 : Int) - s).toNat) (fun _ h' => FRM h h' (l + 4) (l + 5) ∧ RN E (ah_I h1 (l + 4)) (ah_I h' (l + 4)) i E.1) ?_ mo_N 0 h' ⟨0, rfl, by omega, g2, hr⟩ (by rw [mo_N_v]; omega)
        · obtain ⟨_, h2, e2, q1, q2⟩ := hL2
          exact ⟨(i : Int) + 1, h2, by simp (disch := omega) only [X2_reckonCheapest_L40, rr_p, rr_bp, rr_bb, rr_0, rr_lt, rr_blt, rr_le, rr_ble, rr_eq, rr_beq, rr_nl_n, rr_nl_s, rr_bnl_n, rr_bnl_s, rr_cond_t, rr_cond_f, rr_bcond_t, rr_bcond_f, rr_bon, rr_bcv, rr_cv, rr_g, rr_gr, rr_si, rr_sz, rr_sr, rr_al, rr_ld, rr_st, rr_rl, rr_rs, rr_ni, rr_nr, rr_z, rr_div, rr_rem, rr_lc, rr_mx, rr_mn, rr_ab, rr_no, gd_t, bc_t, bc_f, gd_tt, bc_tt, bc_ff, or_true, true_or, and_true, true_and, Nat.reduceAdd, f0', mo_b_s e2], ⟨i + 1, by simp, by omega, q1, RN_n q2⟩, by omega⟩
        · rintro s h3 ⟨k, rfl, hk1, g3, hr3⟩
          have hE3 := kE_lf hE (LF.fr g3 (by omega) (by omega))
          obtain ⟨⟨tt0, ⟨-, -, -, pp5, -⟩, ⟨-, -, -, tt4, -⟩, ⟨-, -, -, nn4, -⟩⟩, ⟨ff0, -⟩, -⟩ := id hE3
          by_cases ck : k < E.1
          · left
            have e3 := q2_remadeAtLeast hE3 ok (i := (i : Int)) (s := (k : Int)) (by omega) (by omega) (by omega) (by omega)
            have ecx : cx (ah_I h3 (l + 4)) (k : Int) = ah_I h3 (l + 4) (k : Int) := if_neg (by omega)
            rw [ecx] at e3
            have p := ok.2.2.1 (i : Int) (k : Int) (by omega) (by omega) (by omega) (by omega)
            have pw := ok.2.2.1 (i : Int) (-1) (by omega) (by omega) (by omega) (by omega)
            have pw2 := ok.2.2.1 (k : Int) (-1) (by omega) (by omega) (by omega) (by omega)
            have a1 := hr3.1 (i : Int) (by omega) (by omega)
            have a2 := hr3.1 (k : Int) (by omega) (by omega)
            have a3 := hc (i : Int) (by omega) (by omega)
            have a4 := hc (k : Int) (by omega) (by omega)
            refine ⟨(k : Int) + 1, ah_sI h3 (l + 4) (i : Int) (min (ah_I h3 (l + 4) (i : Int)) (E.2.1 (i : Int) (k : Int) + ah_I h3 (l + 4) (k : Int))), by simp (disch := omega) only [X2_reckonCheapest_L50, rr_p, rr_bp, rr_bb, rr_0, rr_lt, rr_blt, rr_le, rr_ble, rr_eq, rr_beq, rr_nl_n, rr_nl_s, rr_bnl_n, rr_bnl_s, rr_cond_t, rr_cond_f, rr_bcond_t, rr_bcond_f, rr_bon, rr_bcv, rr_cv, rr_g, rr_gr, rr_si, rr_sz, rr_sr, rr_al, rr_ld, rr_st, rr_rl, rr_rs, rr_ni, rr_nr, rr_z, rr_div, rr_rem, rr_lc, rr_mx, rr_mn, rr_ab, rr_no, gd_t, bc_t, bc_f, gd_tt, bc_tt, bc_ff, or_true, true_or, and_true, true_and, Nat.reduceAdd, ff0, pp5, mo_b_s e3], ⟨k + 1, by simp, by omega, g3.tr (FRM.sI (lo := l + 4) (hi := l + 5) (by omega) (by omega)) (by omega) (by omega) (by omega) (by omega), ?_⟩, by omega⟩
            rw [hl_sI, hl_I_wI_s]
            exact RN_s ok hr3 ci ck
          · right
            have : k = E.1 := by omega
            subst this
            exact ⟨(), h3, by simp (disch := omega) only [X2_reckonCheapest_L50, rr_p, rr_bp, rr_bb, rr_0, rr_lt, rr_blt, rr_le, rr_ble, rr_eq, rr_beq, rr_nl_n, rr_nl_s, rr_bnl_n, rr_bnl_s, rr_cond_t, rr_cond_f, rr_bcond_t, rr_bcond_f, rr_bon, rr_bcv, rr_cv, rr_g, rr_gr, rr_si, rr_sz, rr_sr, rr_al, rr_ld, rr_st, rr_rl, rr_rs, rr_ni, rr_nr, rr_z, rr_div, rr_rem, rr_lc, rr_mx, rr_mn, rr_ab, rr_no, gd_t, bc_t, bc_f, gd_tt, bc_tt, bc_ff, or_true, true_or, and_true, true_and, Nat.reduceAdd, ff0], g3, hr3⟩
      · right
        have : i = E.1 := by omega
        subst this
        exact ⟨(), h', by simp (disch := omega) only [X2_reckonCheapest_L40, rr_p, rr_bp, rr_bb, rr_0, rr_lt, rr_blt, rr_le, rr_ble, rr_eq, rr_beq, rr_nl_n, rr_nl_s, rr_bnl_n, rr_bnl_s, rr_cond_t, rr_cond_f, rr_bcond_t, rr_bcond_f, rr_bon, rr_bcv, rr_cv, rr_g, rr_gr, rr_si, rr_sz, rr_sr, rr_al, rr_ld, rr_st, rr_rl, rr_rs, rr_ni, rr_nr, rr_z, rr_div, rr_rem, rr_lc, rr_mx, rr_mn, rr_ab, rr_no, gd_t, bc_t, bc_f, gd_tt, bc_tt, bc_ff, or_true, true_or, and_true, true_and, Nat.reduceAdd, f0'], g2, hr⟩
  have hL3 := lp_inv (F := X2_reckonCheapest_L30 l) (fun s h' => ∃ r : Nat, s = (r : Int) ∧ 1 ≤ r ∧ r ≤ E.1 ∧ FRM h h' (l + 4) (l + 5) ∧ (∀ j : Int, 0 ≤ j → j < E.1 → 0 ≤ ah_I h' (l + 4) j ∧ ah_I h' (l + 4) j ≤ E.2.1 j (-1)) ∧ LBc E r (ah_I h' (l + 4))) (fun s => ((E.1 : Int) - s).toNat) (fun _ h' => FRM h h' (l + 4) (l + 5) ∧ (∀ j : Int, 0 ≤ j → j < E.1 → 0 ≤ ah_I h' (l + 4) j ∧ ah_I h' (l + 4) j ≤ E.2.1 j (-1)) ∧ LBc E E.1 (ah_I h' (l + 4))) ?_ mo_N 1 (ah_wI h (l + 4) g) ⟨1, rfl, by omega, by omega, G0, fun j j0 j1 => ?_, ?_⟩ (by rw [mo_N_v]; omega)
  · obtain ⟨_, h', e3, q1, q2, q3⟩ := hL3
    refine ⟨h', by simp (disch := omega) only [X2_reckonCheapest, rr_p, rr_bp, rr_bb, rr_0, rr_lt, rr_blt, rr_le, rr_ble, rr_eq, rr_beq, rr_nl_n, rr_nl_s, rr_bnl_n, rr_bnl_s, rr_cond_t, rr_cond_f, rr_bcond_t, rr_bcond_f, rr_bon, rr_bcv, rr_cv, rr_g, rr_gr, rr_si, rr_sz, rr_sr, rr_al, rr_ld, rr_st, rr_rl, rr_rs, rr_ni, rr_nr, rr_z, rr_div, rr_rem, rr_lc, rr_mx, rr_mn, rr_ab, rr_no, gd_t, bc_t, bc_f, gd_tt, bc_tt, bc_ff, or_true, true_or, and_true, true_and, Nat.reduceAdd, mo_b_s hL, mo_b_s e3], q1, fun j j0 j1 => ?_, q3⟩
    have a := q2 j j0 j1
    have b := ok.2.2.1 j (-1) j0 j1 (by omega) (by omega)
    omega
  · rintro s h' ⟨r, rfl, r1, r2, g1, hc, hlb⟩
    have hE' := kE_lf hE (LF.fr g1 (by omega) (by omega))
    have tl := hE'.1.1
    have f0' := hE'.2.1.1
    by_cases cr : r < E.1
    · left
      obtain ⟨h2, e2, g2, hr⟩ := round h' g1 hc
      refine ⟨(r : Int) + 1, h2, by simp (disch := omega) only [X2_reckonCheapest_L30, rr_p, rr_bp, rr_bb, rr_0, rr_lt, rr_blt, rr_le, rr_ble, rr_eq, rr_beq, rr_nl_n, rr_nl_s, rr_bnl_n, rr_bnl_s, rr_cond_t, rr_cond_f, rr_bcond_t, rr_bcond_f, rr_bon, rr_bcv, rr_cv, rr_g, rr_gr, rr_si, rr_sz, rr_sr, rr_al, rr_ld, rr_st, rr_rl, rr_rs, rr_ni, rr_nr, rr_z, rr_div, rr_rem, rr_lc, rr_mx, rr_mn, rr_ab, rr_no, gd_t, bc_t, bc_f, gd_tt, bc_tt, bc_ff, or_true, true_or, and_true, true_and, Nat.reduceAdd, f0', mo_b_s e2], ⟨r + 1, by simp, by omega, by omega, g2, fun j j0 j1 => ?_, LBc_s ok hlb hr (fun j j0 j1 => (hc j j0 j1).2)⟩, by omega⟩
      have a := hr.1 j j0 j1
      have b := hc j j0 j1
      omega
    · right
      have : r = E.1 := by omega
      subst this
      exact ⟨(), h', by simp (disch := omega) only [X2_reckonCheapest_L30, rr_p, rr_bp, rr_bb, rr_0, rr_lt, rr_blt, rr_le, rr_ble, rr_eq, rr_beq, rr_nl_n, rr_nl_s, rr_bnl_n, rr_bnl_s, rr_cond_t, rr_cond_f, rr_bcond_t, rr_bcond_f, rr_bon, rr_bcv, rr_cv, rr_g, rr_gr, rr_si, rr_sz, rr_sr, rr_al, rr_ld, rr_st, rr_rl, rr_rs, rr_ni, rr_nr, rr_z, rr_div, rr_rem, rr_lc, rr_mx, rr_mn, rr_ab, rr_no, gd_t, bc_t, bc_f, gd_tt, bc_tt, bc_ff, or_true, true_or, and_true, true_and, Nat.reduceAdd, f0'], g1, hc, hlb⟩
  · rw [hl_I_wI_s, hg j j0 j1]
    have := ok.2.2.1 j (-1) j0 j1 (by omega) (by omega)
    omega
  · intro s hs ha j j0 j1 hj
    rw [hl_I_wI_s, hg j j0 j1, rmd_1 (E := E) (s := s) ok.1.1 ha j0 j1]
    rw [itc_i ⟨j0, j1⟩] at hj
    have hj : sv s j = -1 := hj
    rw [rmd_o (v := sv s j) (by omega), hj]; omega
/-- bounds from below for what versions from i on add -/
def LBr (E : SE) (i : Nat) (r m : Int) : Prop := (0 ≤ r ∧ r ≤ 99 * 6) ∧ (0 ≤ m ∧ m ≤ 900 * 6) ∧ ∀ s, sR E.1 s → rmS E s i + r ≤ rmS E s E.1 ∧ (acy E s → smS E s i + m ≤ smS E s E.1)
theorem mul_r {a b c d : Int} (h1 : 0 ≤ a) (h2 : a ≤ c) (h3 : 0 ≤ b) (h4 : b ≤ d) : 0 ≤ a * b ∧ a * b ≤ c * d := ⟨Int.mul_nonneg h1 h3, Int.le_trans (Int.mul_le_mul_of_nonneg_right h2 h3) (Int.mul_le_mul_of_nonneg_left h4 (by omega))⟩
theorem q2_leastFrom {h : AH} {l : Nat} {E : SE} (hE : kE h l E) (ok : okE E) (hc : cOk E (ah_I h (l + 4))) (hlb : LBc E E.1 (ah_I h (l + 4))) : ∃ h', X2_reckonLeastFrom l h = some ((), h') ∧ FRM h h' (l + 5) (l + 7) ∧ ∀ i : Nat, i ≤ E.1 → LBr E i (ah_I h' (l + 5) (i : Int)) (ah_I h' (l + 6) (i : Int)) := by
  obtain ⟨⟨t0, ⟨p2, p3, p4, p5, p6, p7, p8, p9⟩, ⟨t1, t2, t3, t4, t5, t6, t7, t8⟩, ⟨n1, n2, n3, n4, n5, n6, n7, n8⟩⟩, ⟨f0, f1⟩, k3, k4, k5⟩ := id hE
  have hn := ok.1
  have G0 : FRM h (ah_sI (ah_sI h (l + 5) (E.1 : Int) 0) (l + 6) (E.1 : Int) 0) (l + 5) (l + 7) := (FRM.sI (lo := l + 5) (hi := l + 7) (by omega) (by omega)).tr (FRM.sI (lo := l + 5) (hi := l + 7) (by omega) (by omega)) (by omega) (by omega) (by omega) (by omega)
  have hL := lp_inv (F := X2_reckonLeastFrom_L27 l) (fun s h' => ∃ i : Nat, s = (i : Int) - 1 ∧ i ≤ E.1 ∧ FRM h h' (l + 5) (l + 7) ∧ ∀ k : Nat, i ≤ k → k ≤ E.1 → (0 ≤ ah_I h' (l + 5) (k : Int) ∧ ah_I h' (l + 5) (k : Int) ≤ 99 * ((E.1 : Int) - k)) ∧ (0 ≤ ah_I h' (l + 6) (k : Int) ∧ ah_I h' (l + 6) (k : Int) ≤ 900 * ((E.1 : Int) - k)) ∧ ∀ s, sR E.1 s → rmS E s k + ah_I h' (l + 5) (k : Int) ≤ rmS E s E.1 ∧ (acy E s → smS E s k + ah_I h' (l + 6) (k : Int) ≤ smS E s E.1)) (fun s => (s + 1).toNat) (fun _ h' => FRM h h' (l + 5) (l + 7) ∧ ∀ k : Nat, k ≤ E.1 → (0 ≤ ah_I h' (l + 5) (k : Int) ∧ ah_I h' (l + 5) (k : Int) ≤ 99 * ((E.1 : Int) - k)) ∧ (0 ≤ ah_I h' (l + 6) (k : Int) ∧ ah_I h' (l + 6) (k : Int) ≤ 900 * ((E.1 : Int) - k)) ∧ ∀ s, sR E.1 s → rmS E s k + ah_I h' (l + 5) (k : Int) ≤ rmS E s E.1 ∧ (acy E s → smS E s k + ah_I h' (l + 6) (k : Int) ≤ smS E s E.1)) ?_ mo_N ((E.1 : Int) - 1) (ah_sI (ah_sI h (l + 5) (E.1 : Int) 0) (l + 6) (E.1 : Int) 0) ⟨E.1, rfl, by omega, G0, fun k k1 k2 => ?_⟩ (by rw [mo_N_v]; omega)
  · obtain ⟨_, h', e1, q1, q2⟩ := hL
    refine ⟨h', by simp (disch := omega) only [X2_reckonLeastFrom, rr_p, rr_bp, rr_bb, rr_0, rr_lt, rr_blt, rr_le, rr_ble, rr_eq, rr_beq, rr_nl_n, rr_nl_s, rr_bnl_n, rr_bnl_s, rr_cond_t, rr_cond_f, rr_bcond_t, rr_bcond_f, rr_bon, rr_bcv, rr_cv, rr_g, rr_gr, rr_si, rr_sz, rr_sr, rr_al, rr_ld, rr_st, rr_rl, rr_rs, rr_ni, rr_nr, rr_z, rr_div, rr_rem, rr_lc, rr_mx, rr_mn, rr_ab, rr_no, gd_t, bc_t, bc_f, gd_tt, bc_tt, bc_ff, or_true, true_or, and_true, true_and, Nat.reduceAdd, hl_T_sF, hl_N_sF, hl_P_sF, hl_I_sF, hl_R_sF, hl_S_sF, hl_T_sP, hl_N_sP, hl_F_sP, hl_I_sP, hl_R_sP, hl_S_sP, hl_T_sI, hl_N_sI, hl_F_sI, hl_P_sI, hl_R_sI, hl_S_sI, hl_T_sR, hl_N_sR, hl_F_sR, hl_P_sR, hl_I_sR, hl_S_sR, hl_T_wI, hl_N_wI, hl_F_wI, hl_P_wI, hl_R_wI, hl_S_wI, hl_F_sF_s, hl_F_sF_n, hl_P_sP_s, hl_P_sP_n, hl_I_sI_s, hl_I_sI_n, hl_R_sR_s, hl_R_sR_n, hl_I_wI_s, hl_I_wI_n, p6, p7, f0, mo_b_s e1], q1, fun i hi => ?_⟩
    obtain ⟨a1, a2, a3⟩ := q2 i hi
    exact ⟨by omega, by omega, a3⟩
  · rintro s h' ⟨i, rfl, hi, g1, hk⟩
    have hE' := kE_lf hE (LF.fr g1 (by omega) (by omega))
    obtain ⟨⟨tt0, ⟨pp2, pp3, pp4, pp5, pp6, pp7, pp8, pp9⟩, ⟨tt1, tt2, tt3, tt4, tt5, tt6, tt7, tt8⟩, ⟨nn1, nn2, nn3, nn4, nn5, nn6, nn7, nn8⟩⟩, ⟨ff0, ff1⟩, kk3, kk4, kk5⟩ := id hE'
    cases i with
    | zero =>
      right
      exact ⟨(), h', by simp (disch := omega) only [X2_reckonLeastFrom_L27, rr_p, rr_bp, rr_bb, rr_0, rr_lt, rr_blt, rr_le, rr_ble, rr_eq, rr_beq, rr_nl_n, rr_nl_s, rr_bnl_n, rr_bnl_s, rr_cond_t, rr_cond_f, rr_bcond_t, rr_bcond_f, rr_bon, rr_bcv, rr_cv, rr_g, rr_gr, rr_si, rr_sz, rr_sr, rr_al, rr_ld, rr_st, rr_rl, rr_rs, rr_ni, rr_nr, rr_z, rr_div, rr_rem, rr_lc, rr_mx, rr_mn, rr_ab, rr_no, gd_t, bc_t, bc_f, gd_tt, bc_tt, bc_ff, or_true, true_or, and_true, true_and, Nat.reduceAdd], g1, fun k hk2 => hk k (by omega) hk2⟩
    | succ i =>
      left
      have ei : ((i + 1 : Nat) : Int) - 1 = (i : Int) := by omega
      rw [ei]
      have w1 := kk3 (i : Int) (by omega) (by omega)
      have w2 := kk5 i (by omega)
      have pw := ok.2.2.1 (i : Int) (-1) (by omega) (by omega) (by omega) (by omega)
      have hL2 := lp_inv (F := X2_reckonLeastFrom_L40 l (i : Int)) (fun s h'' => h'' = h' ∧ ∃ k : Nat, s.2 = (k : Int) ∧ k ≤ E.1 ∧ (0 ≤ s.1 ∧ s.1 ≤ 99) ∧ s.1 ≤ E.2.1 (i : Int) (-1) ∧ ∀ q : Int, 0 ≤ q → q < k → q ≠ i → s.1 ≤ E.2.1 (i : Int) q) (fun s => ((E.1 : Int) - s.2).toNat) (fun v h'' => h'' = h' ∧ (0 ≤ v ∧ v ≤ 99) ∧ v ≤ E.2.1 (i : Int) (-1) ∧ ∀ q : Int, 0 ≤ q → q < E.1 → q ≠ i → v ≤ E.2.1 (i : Int) q) ?_ mo_N (E.2.1 (i : Int) (-1), 0) h' ⟨rfl, 0, rfl, by omega, by omega, by omega, fun q q0 q1 => by omega⟩ (by rw [mo_N_v]; dsimp only; omega)
      · obtain ⟨v, h'', e2, rfl, v1, v2, v3⟩ := hL2
        have a3 := hk (i + 1) (by omega) (by omega)
        have cb := hc (i : Int) (by omega) (by omega)
        have i4 : ah_I h'' (l + 4) = ah_I h (l + 4) := g1.2.2.2.2.2.2 (l + 4) (by omega)
        have ab := ok.2.2.2 i (by omega)
        have mr := mul_r ab.1 ab.2 cb.1 cb.2
        have ei1 : (i : Int) + 1 = ((i + 1 : Nat) : Int) := by omega
        refine ⟨(i : Int) - 1, ah_sI (ah_sI h'' (l + 5) (i : Int) (ah_I h'' (l + 5) ((i + 1 : Nat) : Int) + v)) (l + 6) (i : Int) (ah_I h'' (l + 6) ((i + 1 : Nat) : Int) + E.2.2.1 i * ah_I h (l + 4) (i : Int)), ?_, ⟨i, rfl, by omega, (g1.tr (FRM.sI (lo := l + 5) (hi := l + 7) (by omega) (by omega)) (lo3 := l + 5) (hi3 := l + 7) (by omega) (by omega) (by omega) (by omega)).tr (FRM.sI (lo := l + 5) (hi := l + 7) (by omega) (by omega)) (by omega) (by omega) (by omega) (by omega), fun k k1 k2 => ?_⟩, by omega⟩
        · simp (disch := omega) only [X2_reckonLeastFrom_L27, rr_p, rr_bp, rr_bb, rr_0, rr_lt, rr_blt, rr_le, rr_ble, rr_eq, rr_beq, rr_nl_n, rr_nl_s, rr_bnl_n, rr_bnl_s, rr_cond_t, rr_cond_f, rr_bcond_t, rr_bcond_f, rr_bon, rr_bcv, rr_cv, rr_g, rr_gr, rr_si, rr_sz, rr_sr, rr_al, rr_ld, rr_st, rr_rl, rr_rs, rr_ni, rr_nr, rr_z, rr_div, rr_rem, rr_lc, rr_mx, rr_mn, rr_ab, rr_no, gd_t, bc_t, bc_f, gd_tt, bc_tt, bc_ff, or_true, true_or, and_true, true_and, Nat.reduceAdd, hl_T_sF, hl_N_sF, hl_P_sF, hl_I_sF, hl_R_sF, hl_S_sF, hl_T_sP, hl_N_sP, hl_F_sP, hl_I_sP, hl_R_sP, hl_S_sP, hl_T_sI, hl_N_sI, hl_F_sI, hl_P_sI, hl_R_sI, hl_S_sI, hl_T_sR, hl_N_sR, hl_F_sR, hl_P_sR, hl_I_sR, hl_S_sR, hl_T_wI, hl_N_wI, hl_F_wI, hl_P_wI, hl_R_wI, hl_S_wI, hl_F_sF_s, hl_F_sF_n, hl_P_sP_s, hl_P_sP_n, hl_I_sI_s, hl_I_sI_n, hl_R_sR_s, hl_R_sR_n, hl_I_wI_s, hl_I_wI_n, pp2, pp4, pp5, pp6, pp7, w1, mo_b_s e2, w2, i4, ei1]
          rw [show (i : Int) + -1 = (i : Int) - 1 by omega]
        · by_cases ck : k = i
          · subst ck
            simp (disch := omega) only [hl_T_sF, hl_N_sF, hl_P_sF, hl_I_sF, hl_R_sF, hl_S_sF, hl_T_sP, hl_N_sP, hl_F_sP, hl_I_sP, hl_R_sP, hl_S_sP, hl_T_sI, hl_N_sI, hl_F_sI, hl_P_sI, hl_R_sI, hl_S_sI, hl_T_sR, hl_N_sR, hl_F_sR, hl_P_sR, hl_I_sR, hl_S_sR, hl_T_wI, hl_N_wI, hl_F_wI, hl_P_wI, hl_R_wI, hl_S_wI, hl_F_sF_s, hl_F_sF_n, hl_P_sP_s, hl_P_sP_n, hl_I_sI_s, hl_I_sI_n, hl_R_sR_s, hl_R_sR_n, hl_I_wI_s, hl_I_wI_n]
            obtain ⟨⟨a1, a2⟩, ⟨a4, a5⟩, a6⟩ := a3
            refine ⟨by omega, by omega, fun s hs => ?_⟩
            obtain ⟨b1, b2⟩ := a6 s hs
            have hsv := hs.2 (k : Int) (by omega) (by omega)
            have hvv : v ≤ E.2.1 (k : Int) (sv s (k : Int)) := by
              by_cases z : sv s (k : Int) = -1
              · rw [z]; exact v2
              · exact v3 _ (by omega) hsv.2.1 hsv.2.2
            have e3 : rmS E s (k + 1) = rmS E s k + E.2.1 (k : Int) (sv s (k : Int)) := rfl
            have e4 : smS E s (k + 1) = smS E s k + E.2.2.1 k * rmd E s E.1 (k : Int) := rfl
            refine ⟨by omega, fun ha => ?_⟩
            have b3 := b2 ha
            have b4 := hlb s hs ha (k : Int) (by omega) (by omega) (ha _ (by omega) (by omega))
            have b5 := Int.mul_le_mul_of_nonneg_left b4 ab.1
            omega
          · simp (disch := omega) only [hl_T_sF, hl_N_sF, hl_P_sF, hl_I_sF, hl_R_sF, hl_S_sF, hl_T_sP, hl_N_sP, hl_F_sP, hl_I_sP, hl_R_sP, hl_S_sP, hl_T_sI, hl_N_sI, hl_F_sI, hl_P_sI, hl_R_sI, hl_S_sI, hl_T_sR, hl_N_sR, hl_F_sR, hl_P_sR, hl_I_sR, hl_S_sR, hl_T_wI, hl_N_wI, hl_F_wI, hl_P_wI, hl_R_wI, hl_S_wI, hl_F_sF_s, hl_F_sF_n, hl_P_sP_s, hl_P_sP_n, hl_I_sI_s, hl_I_sI_n, hl_R_sR_s, hl_R_sR_n, hl_I_wI_s, hl_I_wI_n]
            exact hk k (by omega) k2
      · rintro ⟨v, s2⟩ h'' ⟨rfl, k, rfl, kb, v1, v2, v3⟩
        dsimp only at v1 v2 v3 ⊢
        by_cases ck : k < E.1
        · left
          by_cases cki : (k : Int) = (i : Int)
          · refine ⟨(v, (k : Int) + 1), h'', by simp (disch := omega) only [X2_reckonLeastFrom_L40, rr_p, rr_bp, rr_bb, rr_0, rr_lt, rr_blt, rr_le, rr_ble, rr_eq, rr_beq, rr_nl_n, rr_nl_s, rr_bnl_n, rr_bnl_s, rr_cond_t, rr_cond_f, rr_bcond_t, rr_bcond_f, rr_bon, rr_bcv, rr_cv, rr_g, rr_gr, rr_si, rr_sz, rr_sr, rr_al, rr_ld, rr_st, rr_rl, rr_rs, rr_ni, rr_nr, rr_z, rr_div, rr_rem, rr_lc, rr_mx, rr_mn, rr_ab, rr_no, gd_t, bc_t, bc_f, gd_tt, bc_tt, bc_ff, or_true, true_or, and_true, true_and, Nat.reduceAdd, ff0], ⟨rfl, k + 1, by simp, by omega, v1, v2, fun q q0 q1 q2 => v3 q q0 (by omega) q2⟩, by omega⟩
          · have e3 := q2_pieceRoom hE' ok (i := (i : Int)) (s := (k : Int)) (by omega) (by omega) (by omega) (by omega)
            have p := ok.2.2.1 (i : Int) (k : Int) (by omega) (by omega) (by omega) (by omega)
            refine ⟨(min v (E.2.1 (i : Int) (k : Int)), (k : Int) + 1), h'', by simp (disch := omega) only [X2_reckonLeastFrom_L40, rr_p, rr_bp, rr_bb, rr_0, rr_lt, rr_blt, rr_le, rr_ble, rr_eq, rr_beq, rr_nl_n, rr_nl_s, rr_bnl_n, rr_bnl_s, rr_cond_t, rr_cond_f, rr_bcond_t, rr_bcond_f, rr_bon, rr_bcv, rr_cv, rr_g, rr_gr, rr_si, rr_sz, rr_sr, rr_al, rr_ld, rr_st, rr_rl, rr_rs, rr_ni, rr_nr, rr_z, rr_div, rr_rem, rr_lc, rr_mx, rr_mn, rr_ab, rr_no, gd_t, bc_t, bc_f, gd_tt, bc_tt, bc_ff, or_true, true_or, and_true, true_and, Nat.reduceAdd, ff0, mo_b_s e3], ⟨rfl, k + 1, by simp, by omega, by dsimp only; omega, by dsimp only; omega, fun q q0 q1 q2 => ?_⟩, by omega⟩
            dsimp only
            by_cases cq : q = (k : Int)
            · subst cq; omega
            · have := v3 q q0 (by omega) q2; omega
        · right
          exact ⟨v, h'', by simp (disch := omega) only [X2_reckonLeastFrom_L40, rr_p, rr_bp, rr_bb, rr_0, rr_lt, rr_blt, rr_le, rr_ble, rr_eq, rr_beq, rr_nl_n, rr_nl_s, rr_bnl_n, rr_bnl_s, rr_cond_t, rr_cond_f, rr_bcond_t, rr_bcond_f, rr_bon, rr_bcv, rr_cv, rr_g, rr_gr, rr_si, rr_sz, rr_sr, rr_al, rr_ld, rr_st, rr_rl, rr_rs, rr_ni, rr_nr, rr_z, rr_div, rr_rem, rr_lc, rr_mx, rr_mn, rr_ab, rr_no, gd_t, bc_t, bc_f, gd_tt, bc_tt, bc_ff, or_true, true_or, and_true, true_and, Nat.reduceAdd, ff0], rfl, v1, v2, fun q q0 q1 q2 => v3 q q0 (by omega) q2⟩
  · have : k = E.1 := by omega
    subst this
    simp (disch := omega) only [hl_T_sF, hl_N_sF, hl_P_sF, hl_I_sF, hl_R_sF, hl_S_sF, hl_T_sP, hl_N_sP, hl_F_sP, hl_I_sP, hl_R_sP, hl_S_sP, hl_T_sI, hl_N_sI, hl_F_sI, hl_P_sI, hl_R_sI, hl_S_sI, hl_T_sR, hl_N_sR, hl_F_sR, hl_P_sR, hl_I_sR, hl_S_sR, hl_T_wI, hl_N_wI, hl_F_wI, hl_P_wI, hl_R_wI, hl_S_wI, hl_F_sF_s, hl_F_sF_n, hl_P_sP_s, hl_P_sP_n, hl_I_sI_s, hl_I_sI_n, hl_R_sR_s, hl_R_sR_n, hl_I_wI_s, hl_I_wI_n]
    exact ⟨by omega, by omega, fun s _ => ⟨by omega, fun _ => by omega⟩⟩
