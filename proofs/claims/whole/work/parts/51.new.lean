section HN
variable {h : AH} {a b n t ci k j : Nat} {i : Int}
theorem hn_S_nO : ah_S (ah_nO h ci) = ah_S h + 1 := rfl
theorem hn_S_nI : ah_S (ah_nI h n) = ah_S h + 1 := rfl
theorem hn_S_nR : ah_S (ah_nR h t n) = ah_S h + 1 := rfl
theorem hn_T_nO_s (e : b = ah_S h) : ah_T (ah_nO h ci) b = 10 + ci := by subst e; exact fu_s _ _ _
theorem hn_T_nO_n (e : b ≠ ah_S h) : ah_T (ah_nO h ci) b = ah_T h b := fu_n _ _ e
theorem hn_N_nO : ah_N (ah_nO h ci) = ah_N h := rfl
theorem hn_F_nO_s (e : b = ah_S h) : ah_F (ah_nO h ci) b = fun _ => 0 := by subst e; exact fu_s _ _ _
theorem hn_F_nO_n (e : b ≠ ah_S h) : ah_F (ah_nO h ci) b = ah_F h b := fu_n _ _ e
theorem hn_P_nO_s (e : b = ah_S h) : ah_P (ah_nO h ci) b = fun _ => none := by subst e; exact fu_s _ _ _
theorem hn_P_nO_n (e : b ≠ ah_S h) : ah_P (ah_nO h ci) b = ah_P h b := fu_n _ _ e
theorem hn_I_nO : ah_I (ah_nO h ci) = ah_I h := rfl
theorem hn_R_nO : ah_R (ah_nO h ci) = ah_R h := rfl
theorem hn_T_nI_s (e : b = ah_S h) : ah_T (ah_nI h n) b = 1 := by subst e; exact fu_s _ _ _
theorem hn_T_nI_n (e : b ≠ ah_S h) : ah_T (ah_nI h n) b = ah_T h b := fu_n _ _ e
theorem hn_N_nI_s (e : b = ah_S h) : ah_N (ah_nI h n) b = n := by subst e; exact fu_s _ _ _
theorem hn_N_nI_n (e : b ≠ ah_S h) : ah_N (ah_nI h n) b = ah_N h b := fu_n _ _ e
theorem hn_F_nI : ah_F (ah_nI h n) = ah_F h := rfl
theorem hn_P_nI : ah_P (ah_nI h n) = ah_P h := rfl
theorem hn_I_nI_s (e : b = ah_S h) : ah_I (ah_nI h n) b = fun _ => 0 := by subst e; exact fu_s _ _ _
theorem hn_I_nI_n (e : b ≠ ah_S h) : ah_I (ah_nI h n) b = ah_I h b := fu_n _ _ e
theorem hn_R_nI : ah_R (ah_nI h n) = ah_R h := rfl
theorem hn_T_nR_s (e : b = ah_S h) : ah_T (ah_nR h t n) b = t := by subst e; exact fu_s _ _ _
theorem hn_T_nR_n (e : b ≠ ah_S h) : ah_T (ah_nR h t n) b = ah_T h b := fu_n _ _ e
theorem hn_N_nR_s (e : b = ah_S h) : ah_N (ah_nR h t n) b = n := by subst e; exact fu_s _ _ _
theorem hn_N_nR_n (e : b ≠ ah_S h) : ah_N (ah_nR h t n) b = ah_N h b := fu_n _ _ e
theorem hn_F_nR : ah_F (ah_nR h t n) = ah_F h := rfl
theorem hn_P_nR : ah_P (ah_nR h t n) = ah_P h := rfl
theorem hn_I_nR : ah_I (ah_nR h t n) = ah_I h := rfl
theorem hn_R_nR_s (e : b = ah_S h) : ah_R (ah_nR h t n) b = fun _ => none := by subst e; exact fu_s _ _ _
theorem hn_R_nR_n (e : b ≠ ah_S h) : ah_R (ah_nR h t n) b = ah_R h b := fu_n _ _ e
end HN
/-- like within lo and hi -/
def SM (h h' : AH) (lo hi : Nat) : Prop := ∀ q, lo ≤ q → q < hi → ah_T h' q = ah_T h q ∧ ah_N h' q = ah_N h q ∧ ah_F h' q = ah_F h q ∧ ah_P h' q = ah_P h q ∧ ah_I h' q = ah_I h q ∧ ah_R h' q = ah_R h q
theorem SM.rf {h : AH} {lo hi : Nat} : SM h h lo hi := fun _ _ _ => ⟨rfl, rfl, rfl, rfl, rfl, rfl⟩
theorem SM.tr {h h' h'' : AH} {lo hi : Nat} (a : SM h h' lo hi) (b : SM h' h'' lo hi) : SM h h'' lo hi := fun q h1 h2 => by
  obtain ⟨a1, a2, a3, a4, a5, a6⟩ := a q h1 h2
  obtain ⟨b1, b2, b3, b4, b5, b6⟩ := b q h1 h2
  exact ⟨b1.trans a1, b2.trans a2, b3.trans a3, b4.trans a4, b5.trans a5, b6.trans a6⟩
theorem SM.mono {h h' : AH} {lo hi lo2 hi2 : Nat} (a : SM h h' lo hi) (h1 : lo ≤ lo2) (h2 : hi2 ≤ hi) : SM h h' lo2 hi2 := fun q q1 q2 => a q (by omega) (by omega)
theorem SM.fr {h h' : AH} {lo hi a b : Nat} (f : FRM h h' lo hi) (hd : b ≤ lo ∨ hi ≤ a) : SM h h' a b := fun q h1 h2 => by
  obtain ⟨e1, e2, e3, e4, e5, e6, e7⟩ := f
  exact ⟨by rw [e1], by rw [e2], e6 q (by omega), by rw [e3], e7 q (by omega), by rw [e4]⟩
theorem SM.nO {h : AH} {ci lo hi : Nat} (hs : hi ≤ ah_S h) : SM h (ah_nO h ci) lo hi := fun q _ h2 => by
  have hq : q ≠ ah_S h := by omega
  exact ⟨hn_T_nO_n hq, rfl, hn_F_nO_n hq, hn_P_nO_n hq, rfl, rfl⟩
theorem SM.nI {h : AH} {n lo hi : Nat} (hs : hi ≤ ah_S h) : SM h (ah_nI h n) lo hi := fun q _ h2 => by
  have hq : q ≠ ah_S h := by omega
  exact ⟨hn_T_nI_n hq, hn_N_nI_n hq, rfl, rfl, hn_I_nI_n hq, rfl⟩
theorem SM.nR {h : AH} {t n lo hi : Nat} (hs : hi ≤ ah_S h) : SM h (ah_nR h t n) lo hi := fun q _ h2 => by
  have hq : q ≠ ah_S h := by omega
  exact ⟨hn_T_nR_n hq, hn_N_nR_n hq, rfl, rfl, rfl, hn_R_nR_n hq⟩
theorem SM.sP {h : AH} {a k lo hi : Nat} {r : Option Nat} (hs : a < lo ∨ hi ≤ a) : SM h (ah_sP h a k r) lo hi := fun q h1 h2 => by
  refine ⟨rfl, rfl, rfl, ?_, rfl, rfl⟩
  funext j; exact hl_P_sP_n (Or.inl (by omega))
theorem SM.sF {h : AH} {a k lo hi : Nat} {v : Int} (hs : a < lo ∨ hi ≤ a) : SM h (ah_sF h a k v) lo hi := fun q h1 h2 => by
  refine ⟨rfl, rfl, ?_, rfl, rfl, rfl⟩
  funext j; exact hl_F_sF_n (Or.inl (by omega))
theorem SM.sI {h : AH} {a lo hi : Nat} {i v : Int} (hs : a < lo ∨ hi ≤ a) : SM h (ah_sI h a i v) lo hi := fun q h1 h2 => by
  refine ⟨rfl, rfl, rfl, rfl, ?_, rfl⟩
  funext j; exact hl_I_sI_n (Or.inl (by omega))
theorem SM.sR {h : AH} {a lo hi : Nat} {i : Int} {v : Option Nat} (hs : a < lo ∨ hi ≤ a) : SM h (ah_sR h a i v) lo hi := fun q h1 h2 => by
  refine ⟨rfl, rfl, rfl, rfl, rfl, ?_⟩
  funext j; exact hl_R_sR_n (Or.inl (by omega))
theorem kR_sm {h h' : AH} {a : Nat} {xs : List Int} (hR : kR h a xs) (s : SM h h' a (a + 2)) : kR h' a xs := by
  obtain ⟨a1, a2, a3, a4, a5, a6⟩ := s a (by omega) (by omega)
  obtain ⟨b1, b2, b3, b4, b5, b6⟩ := s (a + 1) (by omega) (by omega)
  unfold kR at hR ⊢
  rw [a1, a3, a4, b1, b2, b5]; exact hR
theorem kDs_sm {h h' : AH} {d : Nat} (hD : kDs h d) (s : SM h h' d (d + 3)) : kDs h' d := by
  obtain ⟨a1, a2, a3, a4, a5, a6⟩ := s d (by omega) (by omega)
  obtain ⟨b1, b2, b3, b4, b5, b6⟩ := s (d + 1) (by omega) (by omega)
  obtain ⟨c1, c2, c3, c4, c5, c6⟩ := s (d + 2) (by omega) (by omega)
  unfold kDs at hD ⊢
  rw [a1, a4, b1, b2, c1, c2]; exact hD
theorem kP_sm {h h' : AH} {a mh ml : Nat} {W : List HK} (hP : kP h a mh ml W) (s : SM h h' a (a + 6)) : kP h' a mh ml W := by
  obtain ⟨a1, a2, a3, a4, a5, a6⟩ := s a (by omega) (by omega)
  obtain ⟨b1, b2, b3, b4, b5, b6⟩ := s (a + 1) (by omega) (by omega)
  obtain ⟨c1, c2, c3, c4, c5, c6⟩ := s (a + 2) (by omega) (by omega)
  obtain ⟨d1, d2, d3, d4, d5, d6⟩ := s (a + 3) (by omega) (by omega)
  obtain ⟨e1, e2, e3, e4, e5, e6⟩ := s (a + 4) (by omega) (by omega)
  obtain ⟨f1, f2, f3, f4, f5, f6⟩ := s (a + 5) (by omega) (by omega)
  unfold kP kPs kPc at hP ⊢
  rw [a1, a3, a4, b1, b2, b5, c1, c2, c5, d1, d2, d5, e1, e2, e5, f1, f2, f5]; exact hP
theorem q4_init {h : AH} {a n : Nat} (hT : ah_T h a = 14) (hF : ah_F h a 1 = 0) (hS : ah_S h = a + 1) (hn : n ≤ 64) : ∃ h', X4_init a (n : Int) h = some ((), h') ∧ kR h' a [] ∧ ah_N h' (a + 1) = n ∧ SM h h' 0 a ∧ ah_S h' = a + 2 := by
  refine ⟨ah_sP (ah_nI h n) a 0 (some (a + 1)), ?_, ⟨?_, ?_, ?_, ?_, ?_, ?_, ?_⟩, ?_, ?_, ?_⟩
  · have e1 : (max (n : Int) 0).toNat = n := by omega
    have t1 : ah_T (ah_nI h n) a = 14 := by rw [hn_T_nI_n (by omega)]; exact hT
    simp (disch := omega) only [X4_init, rr_p, rr_bp, rr_bb, rr_0, rr_lt, rr_blt, rr_le, rr_ble, rr_eq, rr_beq, rr_nl_n, rr_nl_s, rr_bnl_n, rr_bnl_s, rr_cond_t, rr_cond_f, rr_bcond_t, rr_bcond_f, rr_bon, rr_bcv, rr_cv, rr_g, rr_gr, rr_si, rr_sz, rr_sr, rr_al, rr_ld, rr_st, rr_rl, rr_rs, rr_ni, rr_nr, rr_z, rr_div, rr_rem, rr_lc, rr_mx, rr_mn, rr_ab, rr_no, gd_t, bc_t, bc_f, gd_tt, bc_tt, bc_ff, or_true, true_or, and_true, true_and, Nat.reduceAdd, hS, e1]
  · simp (disch := omega) only [hl_T_sF, hl_N_sF, hl_P_sF, hl_I_sF, hl_R_sF, hl_S_sF, hl_T_sP, hl_N_sP, hl_F_sP, hl_I_sP, hl_R_sP, hl_S_sP, hl_T_sI, hl_N_sI, hl_F_sI, hl_P_sI, hl_R_sI, hl_S_sI, hl_T_sR, hl_N_sR, hl_F_sR, hl_P_sR, hl_I_sR, hl_S_sR, hl_T_wI, hl_N_wI, hl_F_wI, hl_P_wI, hl_R_wI, hl_S_wI, hl_F_sF_s, hl_F_sF_n, hl_P_sP_s, hl_P_sP_n, hl_I_sI_s, hl_I_sI_n, hl_R_sR_s, hl_R_sR_n, hl_I_wI_s, hl_I_wI_n, hn_S_nO, hn_S_nI, hn_S_nR, hn_T_nO_s, hn_T_nO_n, hn_N_nO, hn_F_nO_s, hn_F_nO_n, hn_P_nO_s, hn_P_nO_n, hn_I_nO, hn_R_nO, hn_T_nI_s, hn_T_nI_n, hn_N_nI_s, hn_N_nI_n, hn_F_nI, hn_P_nI, hn_I_nI_s, hn_I_nI_n, hn_R_nI, hn_T_nR_s, hn_T_nR_n, hn_N_nR_s, hn_N_nR_n, hn_F_nR, hn_P_nR, hn_I_nR, hn_R_nR_s, hn_R_nR_n]; exact hT
  · simp (disch := omega) only [hl_T_sF, hl_N_sF, hl_P_sF, hl_I_sF, hl_R_sF, hl_S_sF, hl_T_sP, hl_N_sP, hl_F_sP, hl_I_sP, hl_R_sP, hl_S_sP, hl_T_sI, hl_N_sI, hl_F_sI, hl_P_sI, hl_R_sI, hl_S_sI, hl_T_sR, hl_N_sR, hl_F_sR, hl_P_sR, hl_I_sR, hl_S_sR, hl_T_wI, hl_N_wI, hl_F_wI, hl_P_wI, hl_R_wI, hl_S_wI, hl_F_sF_s, hl_F_sF_n, hl_P_sP_s, hl_P_sP_n, hl_I_sI_s, hl_I_sI_n, hl_R_sR_s, hl_R_sR_n, hl_I_wI_s, hl_I_wI_n, hn_S_nO, hn_S_nI, hn_S_nR, hn_T_nO_s, hn_T_nO_n, hn_N_nO, hn_F_nO_s, hn_F_nO_n, hn_P_nO_s, hn_P_nO_n, hn_I_nO, hn_R_nO, hn_T_nI_s, hn_T_nI_n, hn_N_nI_s, hn_N_nI_n, hn_F_nI, hn_P_nI, hn_I_nI_s, hn_I_nI_n, hn_R_nI, hn_T_nR_s, hn_T_nR_n, hn_N_nR_s, hn_N_nR_n, hn_F_nR, hn_P_nR, hn_I_nR, hn_R_nR_s, hn_R_nR_n]
  · simp (disch := omega) only [hl_T_sF, hl_N_sF, hl_P_sF, hl_I_sF, hl_R_sF, hl_S_sF, hl_T_sP, hl_N_sP, hl_F_sP, hl_I_sP, hl_R_sP, hl_S_sP, hl_T_sI, hl_N_sI, hl_F_sI, hl_P_sI, hl_R_sI, hl_S_sI, hl_T_sR, hl_N_sR, hl_F_sR, hl_P_sR, hl_I_sR, hl_S_sR, hl_T_wI, hl_N_wI, hl_F_wI, hl_P_wI, hl_R_wI, hl_S_wI, hl_F_sF_s, hl_F_sF_n, hl_P_sP_s, hl_P_sP_n, hl_I_sI_s, hl_I_sI_n, hl_R_sR_s, hl_R_sR_n, hl_I_wI_s, hl_I_wI_n, hn_S_nO, hn_S_nI, hn_S_nR, hn_T_nO_s, hn_T_nO_n, hn_N_nO, hn_F_nO_s, hn_F_nO_n, hn_P_nO_s, hn_P_nO_n, hn_I_nO, hn_R_nO, hn_T_nI_s, hn_T_nI_n, hn_N_nI_s, hn_N_nI_n, hn_F_nI, hn_P_nI, hn_I_nI_s, hn_I_nI_n, hn_R_nI, hn_T_nR_s, hn_T_nR_n, hn_N_nR_s, hn_N_nR_n, hn_F_nR, hn_P_nR, hn_I_nR, hn_R_nR_s, hn_R_nR_n]
  · simp (disch := omega) only [hl_T_sF, hl_N_sF, hl_P_sF, hl_I_sF, hl_R_sF, hl_S_sF, hl_T_sP, hl_N_sP, hl_F_sP, hl_I_sP, hl_R_sP, hl_S_sP, hl_T_sI, hl_N_sI, hl_F_sI, hl_P_sI, hl_R_sI, hl_S_sI, hl_T_sR, hl_N_sR, hl_F_sR, hl_P_sR, hl_I_sR, hl_S_sR, hl_T_wI, hl_N_wI, hl_F_wI, hl_P_wI, hl_R_wI, hl_S_wI, hl_F_sF_s, hl_F_sF_n, hl_P_sP_s, hl_P_sP_n, hl_I_sI_s, hl_I_sI_n, hl_R_sR_s, hl_R_sR_n, hl_I_wI_s, hl_I_wI_n, hn_S_nO, hn_S_nI, hn_S_nR, hn_T_nO_s, hn_T_nO_n, hn_N_nO, hn_F_nO_s, hn_F_nO_n, hn_P_nO_s, hn_P_nO_n, hn_I_nO, hn_R_nO, hn_T_nI_s, hn_T_nI_n, hn_N_nI_s, hn_N_nI_n, hn_F_nI, hn_P_nI, hn_I_nI_s, hn_I_nI_n, hn_R_nI, hn_T_nR_s, hn_T_nR_n, hn_N_nR_s, hn_N_nR_n, hn_F_nR, hn_P_nR, hn_I_nR, hn_R_nR_s, hn_R_nR_n]; rw [hF]; rfl
  · simp
  · simp (disch := omega) only [hl_T_sF, hl_N_sF, hl_P_sF, hl_I_sF, hl_R_sF, hl_S_sF, hl_T_sP, hl_N_sP, hl_F_sP, hl_I_sP, hl_R_sP, hl_S_sP, hl_T_sI, hl_N_sI, hl_F_sI, hl_P_sI, hl_R_sI, hl_S_sI, hl_T_sR, hl_N_sR, hl_F_sR, hl_P_sR, hl_I_sR, hl_S_sR, hl_T_wI, hl_N_wI, hl_F_wI, hl_P_wI, hl_R_wI, hl_S_wI, hl_F_sF_s, hl_F_sF_n, hl_P_sP_s, hl_P_sP_n, hl_I_sI_s, hl_I_sI_n, hl_R_sR_s, hl_R_sR_n, hl_I_wI_s, hl_I_wI_n, hn_S_nO, hn_S_nI, hn_S_nR, hn_T_nO_s, hn_T_nO_n, hn_N_nO, hn_F_nO_s, hn_F_nO_n, hn_P_nO_s, hn_P_nO_n, hn_I_nO, hn_R_nO, hn_T_nI_s, hn_T_nI_n, hn_N_nI_s, hn_N_nI_n, hn_F_nI, hn_P_nI, hn_I_nI_s, hn_I_nI_n, hn_R_nI, hn_T_nR_s, hn_T_nR_n, hn_N_nR_s, hn_N_nR_n, hn_F_nR, hn_P_nR, hn_I_nR, hn_R_nR_s, hn_R_nR_n]; omega
  · intro j hj; simp at hj
  · simp (disch := omega) only [hl_T_sF, hl_N_sF, hl_P_sF, hl_I_sF, hl_R_sF, hl_S_sF, hl_T_sP, hl_N_sP, hl_F_sP, hl_I_sP, hl_R_sP, hl_S_sP, hl_T_sI, hl_N_sI, hl_F_sI, hl_P_sI, hl_R_sI, hl_S_sI, hl_T_sR, hl_N_sR, hl_F_sR, hl_P_sR, hl_I_sR, hl_S_sR, hl_T_wI, hl_N_wI, hl_F_wI, hl_P_wI, hl_R_wI, hl_S_wI, hl_F_sF_s, hl_F_sF_n, hl_P_sP_s, hl_P_sP_n, hl_I_sI_s, hl_I_sI_n, hl_R_sR_s, hl_R_sR_n, hl_I_wI_s, hl_I_wI_n, hn_S_nO, hn_S_nI, hn_S_nR, hn_T_nO_s, hn_T_nO_n, hn_N_nO, hn_F_nO_s, hn_F_nO_n, hn_P_nO_s, hn_P_nO_n, hn_I_nO, hn_R_nO, hn_T_nI_s, hn_T_nI_n, hn_N_nI_s, hn_N_nI_n, hn_F_nI, hn_P_nI, hn_I_nI_s, hn_I_nI_n, hn_R_nI, hn_T_nR_s, hn_T_nR_n, hn_N_nR_s, hn_N_nR_n, hn_F_nR, hn_P_nR, hn_I_nR, hn_R_nR_s, hn_R_nR_n]
  · exact SM.tr (SM.nI (by omega)) (SM.sP (by omega))
  · simp only [hl_T_sF, hl_N_sF, hl_P_sF, hl_I_sF, hl_R_sF, hl_S_sF, hl_T_sP, hl_N_sP, hl_F_sP, hl_I_sP, hl_R_sP, hl_S_sP, hl_T_sI, hl_N_sI, hl_F_sI, hl_P_sI, hl_R_sI, hl_S_sI, hl_T_sR, hl_N_sR, hl_F_sR, hl_P_sR, hl_I_sR, hl_S_sR, hl_T_wI, hl_N_wI, hl_F_wI, hl_P_wI, hl_R_wI, hl_S_wI, hl_F_sF_s, hl_F_sF_n, hl_P_sP_s, hl_P_sP_n, hl_I_sI_s, hl_I_sI_n, hl_R_sR_s, hl_R_sR_n, hl_I_wI_s, hl_I_wI_n, hn_S_nO, hn_S_nI, hn_S_nR, hn_T_nO_s, hn_T_nO_n, hn_N_nO, hn_F_nO_s, hn_F_nO_n, hn_P_nO_s, hn_P_nO_n, hn_I_nO, hn_R_nO, hn_T_nI_s, hn_T_nI_n, hn_N_nI_s, hn_N_nI_n, hn_F_nI, hn_P_nI, hn_I_nI_s, hn_I_nI_n, hn_R_nI, hn_T_nR_s, hn_T_nR_n, hn_N_nR_s, hn_N_nR_n, hn_F_nR, hn_P_nR, hn_I_nR, hn_R_nR_s, hn_R_nR_n, hS]
/-- the int arrays of a new object a, in their order: field, length -/
def AR (h : AH) (a : Nat) (l : List (Nat × Nat)) : Prop := ah_S h = a + 1 + l.length ∧ ∀ i, i < l.length → ah_T h (a + 1 + i) = 1 ∧ ah_N h (a + 1 + i) = (l.getD i (0, 0)).2 ∧ ah_I h (a + 1 + i) = (fun _ => 0) ∧ ah_P h a (l.getD i (0, 0)).1 = some (a + 1 + i)
theorem ar_step {h : AH} {a ci cap k : Nat} {n : Int} {l : List (Nat × Nat)} (hA : AR h a l) (hT : ah_T h a = 10 + ci) (h0 : 0 ≤ n ∧ n ≤ cap) (hk : k ∉ l.map Prod.fst) : ∃ h', (∀ {β : Type} (K : Unit → MO β), mo_b (op_ni cap n) (fun t => mo_b (op_sr ci (some a) k t) K) h = K () h') ∧ AR h' a (l ++ [(k, n.toNat)]) ∧ ah_T h' a = 10 + ci ∧ ah_F h' a = ah_F h a ∧ SM h h' 0 a := by
  obtain ⟨hS, hc⟩ := hA
  have hT2 : ah_T (ah_nI h n.toNat) a = 10 + ci := by rw [hn_T_nI_n (by omega)]; exact hT
  refine ⟨ah_sP (ah_nI h n.toNat) a k (some (ah_S h)), ?_, ⟨?_, ?_⟩, hT2, rfl, SM.tr (SM.nI (by omega)) (SM.sP (by omega))⟩
  · intro β K
    rw [rr_ni, gd_t h0, rr_sr, gd_t hT2]
  · show ah_S h + 1 = _
    rw [hS, List.length_append]; rfl
  · intro i hi
    have hi2 : i < l.length + 1 := by simpa using hi
    by_cases hie : i = l.length
    · subst hie
      have e : (l ++ [(k, n.toNat)]).getD l.length (0, 0) = (k, n.toNat) := by simp [List.getD_eq_getElem?_getD]
      rw [e, ← hS]
      exact ⟨hn_T_nI_s (n := n.toNat) rfl, hn_N_nI_s (n := n.toNat) rfl, hn_I_nI_s (n := n.toNat) rfl, hl_P_sP_s⟩
    · have hl : i < l.length := by omega
      have e : (l ++ [(k, n.toNat)]).getD i (0, 0) = l.getD i (0, 0) := by simp [List.getD_eq_getElem?_getD, List.getElem?_append_left hl]
      obtain ⟨c1, c2, c3, c4⟩ := hc i hl
      have hne : a + 1 + i ≠ ah_S h := by omega
      have hkk : (l.getD i (0, 0)).1 ≠ k := fun q => hk (List.mem_map.mpr ⟨l.getD i (0, 0), by rw [List.getD_eq_getElem?_getD, List.getElem?_eq_getElem hl]; exact List.getElem_mem hl, q⟩)
      rw [e]
      exact ⟨by rw [hl_T_sP, hn_T_nI_n hne]; exact c1, by rw [hl_N_sP, hn_N_nI_n hne]; exact c2, by rw [hl_I_sP, hn_I_nI_n hne]; exact c3, by rw [hl_P_sP_n (Or.inr hkk)]; exact c4⟩
theorem AR.nil {h : AH} {a : Nat} (hS : ah_S h = a + 1) : AR h a [] := ⟨hS, fun i hi => by simp at hi⟩
theorem q3_init {h : AH} {a mh ml : Nat} (hT : ah_T h a = 13) (hF : ah_F h a 5 = 0) (hS : ah_S h = a + 1) (m1 : mh ≤ 20) (m2 : ml ≤ 56) : ∃ h', X3_init a (mh : Int) (ml : Int) h = some ((), h') ∧ kP h' a mh ml [] ∧ SM h h' 0 a ∧ ah_S h' = a + 6 := by
  have e1 : (max (mh : Int) 0) = mh := by omega
  have e2 : (max (ml : Int) 0) = ml := by omega
  obtain ⟨h1, E1, A1, T1, F1, S1⟩ := ar_step (ci := 3) (cap := 64) (k := 0) (n := (mh : Int)) (AR.nil hS) hT (by omega) (by simp)
  obtain ⟨h2, E2, A2, T2, F2, S2⟩ := ar_step (ci := 3) (cap := 64) (k := 1) (n := (mh : Int) + 1) A1 T1 (by omega) (by simp)
  obtain ⟨h3, E3, A3, T3, F3, S3⟩ := ar_step (ci := 3) (cap := 64) (k := 2) (n := (mh : Int) + 1) A2 T2 (by omega) (by simp)
  obtain ⟨h4, E4, A4, T4, F4, S4⟩ := ar_step (ci := 3) (cap := 64) (k := 3) (n := (ml : Int)) A3 T3 (by omega) (by simp)
  obtain ⟨h5, E5, A5, T5, F5, S5⟩ := ar_step (ci := 3) (cap := 64) (k := 4) (n := (ml : Int)) A4 T4 (by omega) (by simp)
  have eF : ah_F h5 a 5 = 0 := by rw [F5, F4, F3, F2, F1]; exact hF
  obtain ⟨aS, ac⟩ := A5
  obtain ⟨c01, c02, c03, c04⟩ := ac 0 (by simp)
  obtain ⟨c11, c12, c13, c14⟩ := ac 1 (by simp)
  obtain ⟨c21, c22, c23, c24⟩ := ac 2 (by simp)
  obtain ⟨c31, c32, c33, c34⟩ := ac 3 (by simp)
  obtain ⟨c41, c42, c43, c44⟩ := ac 4 (by simp)
  refine ⟨h5, ?_, ⟨⟨⟨T5, c01, c11, c21, c31, c41⟩, ⟨c04, c14, c24, c34, c44⟩, ⟨c02, ?_, ?_, c32, c42⟩, m1, m2⟩, eF, ⟨by simp, by simp [fG], by simp [fC]⟩, ?_, ?_, ?_, ?_, ?_⟩, ((S1.tr S2).tr (S3.tr S4)).tr S5, aS⟩
  · unfold X3_init
    rw [rr_mx, e1, gd_t (by omega), rr_mx, e2, gd_t (by omega), E1, E2, E3, E4, E5]
    rfl
  · rw [c12]; show ((mh : Int) + 1).toNat = mh + 1; omega
  · rw [c22]; show ((mh : Int) + 1).toNat = mh + 1; omega
  · intro i hi; simp at hi
  · intro i hi
    have : i = 0 := by simpa using hi
    subst this
    rw [c13]; rfl
  · intro i hi
    have : i = 0 := by simpa using hi
    subst this
    rw [c23]; rfl
  · intro j hj; simp [fG] at hj
  · intro j hj; simp [fC] at hj
theorem q1_init {h : AH} {a : Nat} (hT : ah_T h a = 11) (hS : ah_S h = a + 1) : ∃ h', X1_init a h = some ((), h') ∧ kDs h' a ∧ SM h h' 0 a ∧ ah_S h' = a + 3 := by
  obtain ⟨h1, E1, A1, T1, F1, S1⟩ := ar_step (ci := 1) (cap := 225) (k := 0) (n := 225) (AR.nil hS) hT (by omega) (by simp)
  obtain ⟨h2, E2, A2, T2, F2, S2⟩ := ar_step (ci := 1) (cap := 14) (k := 1) (n := 14) A1 T1 (by omega) (by simp)
  obtain ⟨aS, ac⟩ := A2
  obtain ⟨c01, c02, c03, c04⟩ := ac 0 (by simp)
  obtain ⟨c11, c12, c13, c14⟩ := ac 1 (by simp)
  refine ⟨h2, ?_, ⟨T2, c01, c11, c04, c14, c02, c12⟩, S1.tr S2, aS⟩
  unfold X1_init
  rw [E1, E2]; rfl
