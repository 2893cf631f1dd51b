theorem vn_app_l {V : List VR} {w : VR} {i : Nat} (h : i < V.length) : vn (V ++ [w]) i = vn V i := by
  unfold vn; rw [List.getD_eq_getElem?_getD, List.getD_eq_getElem?_getD, List.getElem?_append_left h]
theorem vn_last {V : List VR} {w : VR} : vn (V ++ [w]) V.length = w := by
  unfold vn; rw [List.getD_eq_getElem?_getD, List.getElem?_append_right (Nat.le_refl _), Nat.sub_self]; rfl
theorem ledP_app {V : List VR} {w : VR} {v : Nat} {p a : Int} (hv : v < V.length) (hp : -1 ≤ p ∧ p < V.length) : ledP (V ++ [w]) v p a = ledP V v p a := by
  unfold ledP
  by_cases c : p = -1
  · rw [bc_t c, bc_t c]
  · rw [bc_f c, bc_f c, vn_app_l hv, vn_app_l (by omega)]
theorem bro_app {V : List VR} {w : VR} (h : oPar V) : ∀ (n v : Nat) (a : Int), v < V.length → bro (V ++ [w]) n v a = bro V n v a := by
  intro n
  induction n with
  | zero => intro v a _; rfl
  | succ n ih =>
    intro v a hl
    obtain ⟨⟨a1, a2⟩, b1, b2⟩ := h v hl
    rw [bro, bro, vn_app_l hl, ledP_app hl (by omega), ledP_app hl (by omega)]
    by_cases c1 : ledP V v (vn V v).2.1 a ≠ -1
    · have := ledP_n c1
      rw [bc_t c1, bc_t c1, ih _ _ (by omega)]
    · rw [bc_f c1, bc_f c1]
      by_cases c2 : ledP V v (vn V v).2.2.1 a ≠ -1
      · have := ledP_n c2
        rw [bc_t c2, bc_t c2, ih _ _ (by omega)]
      · rw [bc_f c2, bc_f c2]
theorem OV_add {V : List VR} {D : List Int} {p q : Int} (h : OV V) (hl : V.length < 10) (h1 : D.length ≤ 14) (h2 : wL D) (hp : -1 ≤ p ∧ p < V.length) (hq : -1 ≤ q ∧ q < V.length) : OV (V ++ [(D, p, q, 1)]) := by
  refine ⟨by simp; omega, fun i hi => ?_⟩
  have hi : i < V.length + 1 := by simpa using hi
  by_cases c : i = V.length
  · subst c
    rw [vn_last]
    exact ⟨h1, h2, hp, hq, by dsimp only; omega⟩
  · rw [vn_app_l (by omega)]; exact h.2 i (by omega)
theorem q5_init {h : AH} {a : Nat} {p q : Int} (hT : ah_T h a = 15) (hS : ah_S h = a + 1) : ∃ h', X5_init a p q h = some ((), h') ∧ kV h' a ([], p, q, 1) ∧ SM h h' 0 a ∧ ah_S h' = a + 4 := by
  have t1 : ah_T (ah_nO h 4) (a + 1) = 14 := hn_T_nO_s hS.symm
  have f1 : ah_F (ah_nO h 4) (a + 1) 1 = 0 := by rw [hn_F_nO_s hS.symm]
  have s1 : ah_S (ah_nO h 4) = a + 1 + 1 := by rw [hn_S_nO, hS]
  obtain ⟨h3, e3, r3, n3, s3, v3⟩ := q4_init (n := 14) t1 f1 s1 (by omega)
  have e3 : X4_init (a + 1) 14 (ah_nO h 4) = some ((), h3) := e3
  have c3 := s3 a (by omega) (by omega)
  have tA : ah_T h3 a = 15 := by rw [c3.1, hn_T_nO_n (by omega)]; exact hT
  obtain ⟨w1, w2, w3, w4, w5, w6, w7⟩ := id r3
  have tR : ah_T (ah_nI (ah_sP h3 a 0 (some (a + 1))) 14) a = 15 := by rw [hn_T_nI_n (by rw [hl_S_sP, v3]; omega), hl_T_sP]; exact tA
  refine ⟨ah_sF (ah_sF (ah_sF (ah_sP (ah_nI (ah_sP h3 a 0 (some (a + 1))) 14) a 3 (some (a + 3))) a 4 1) a 1 p) a 2 q, ?_, ?_, ?_, ?_⟩
  · have v3' : a + 1 + 2 = a + 3 := by omega
    have v5 : Int.toNat 14 = 14 := rfl
    simp (disch := omega) only [X5_init, rr_p, rr_bp, rr_bb, rr_0, rr_lt, rr_blt, rr_le, rr_ble, rr_eq, rr_beq, rr_nl_n, rr_nl_s, rr_bnl_n, rr_bnl_s, rr_cond_t, rr_cond_f, rr_bcond_t, rr_bcond_f, rr_bon, rr_bcv, rr_cv, rr_g, rr_gr, rr_si, rr_sz, rr_sr, rr_al, rr_ld, rr_st, rr_rl, rr_rs, rr_ni, rr_nr, rr_z, rr_div, rr_rem, rr_lc, rr_mx, rr_mn, rr_ab, rr_no, gd_t, bc_t, bc_f, gd_tt, bc_tt, bc_ff, or_true, true_or, and_true, true_and, Nat.reduceAdd, hl_T_sF, hl_N_sF, hl_P_sF, hl_I_sF, hl_R_sF, hl_S_sF, hl_T_sP, hl_N_sP, hl_F_sP, hl_I_sP, hl_R_sP, hl_S_sP, hl_T_sI, hl_N_sI, hl_F_sI, hl_P_sI, hl_R_sI, hl_S_sI, hl_T_sR, hl_N_sR, hl_F_sR, hl_P_sR, hl_I_sR, hl_S_sR, hl_T_wI, hl_N_wI, hl_F_wI, hl_P_wI, hl_R_wI, hl_S_wI, hl_F_sF_s, hl_F_sF_n, hl_P_sP_s, hl_P_sP_n, hl_I_sI_s, hl_I_sI_n, hl_R_sR_s, hl_R_sR_n, hl_I_wI_s, hl_I_wI_n, hn_S_nO, hn_S_nI, hn_S_nR, hn_T_nO_s, hn_T_nO_n, hn_N_nO, hn_F_nO_s, hn_F_nO_n, hn_P_nO_s, hn_P_nO_n, hn_I_nO, hn_R_nO, hn_T_nI_s, hn_T_nI_n, hn_N_nI_s, hn_N_nI_n, hn_F_nI, hn_P_nI, hn_I_nI_s, hn_I_nI_n, hn_R_nI, hn_T_nR_s, hn_T_nR_n, hn_N_nR_s, hn_N_nR_n, hn_F_nR, hn_P_nR, hn_I_nR, hn_R_nR_s, hn_R_nR_n, hS, mo_b_s e3, v3, v3', v5]
  · unfold kV kR
    have v3' : ah_S h3 = a + 3 := by rw [v3]
    have v4 : ah_S (ah_sP h3 a 0 (some (a + 1))) = a + 3 := by rw [hl_S_sP, v3]
    simp (disch := omega) only [hl_T_sF, hl_N_sF, hl_P_sF, hl_I_sF, hl_R_sF, hl_S_sF, hl_T_sP, hl_N_sP, hl_F_sP, hl_I_sP, hl_R_sP, hl_S_sP, hl_T_sI, hl_N_sI, hl_F_sI, hl_P_sI, hl_R_sI, hl_S_sI, hl_T_sR, hl_N_sR, hl_F_sR, hl_P_sR, hl_I_sR, hl_S_sR, hl_T_wI, hl_N_wI, hl_F_wI, hl_P_wI, hl_R_wI, hl_S_wI, hl_F_sF_s, hl_F_sF_n, hl_P_sP_s, hl_P_sP_n, hl_I_sI_s, hl_I_sI_n, hl_R_sR_s, hl_R_sR_n, hl_I_wI_s, hl_I_wI_n, hn_S_nO, hn_S_nI, hn_S_nR, hn_T_nO_s, hn_T_nO_n, hn_N_nO, hn_F_nO_s, hn_F_nO_n, hn_P_nO_s, hn_P_nO_n, hn_I_nO, hn_R_nO, hn_T_nI_s, hn_T_nI_n, hn_N_nI_s, hn_N_nI_n, hn_F_nI, hn_P_nI, hn_I_nI_s, hn_I_nI_n, hn_R_nI, hn_T_nR_s, hn_T_nR_n, hn_N_nR_s, hn_N_nR_n, hn_F_nR, hn_P_nR, hn_I_nR, hn_R_nR_s, hn_R_nR_n, v3']
    refine ⟨tA, trivial, trivial, trivial, trivial, trivial, trivial, trivial, ⟨w1, w2, w3, ?_, ?_, ?_, fun j hj => by simp at hj⟩, ?_⟩
    · exact w4
    · exact w5
    · exact w6
    · exact n3
  · have q1 : SM h (ah_nO h 4) 0 a := SM.nO (by omega)
    exact ((((((q1.tr (s3.mono (by omega) (by omega))).tr (SM.sP (by omega))).tr (SM.nI (by rw [hl_S_sP, v3]; omega))).tr (SM.sP (by omega))).tr (SM.sF (by omega))).tr (SM.sF (by omega))).tr (SM.sF (by omega))
  · simp only [hl_T_sF, hl_N_sF, hl_P_sF, hl_I_sF, hl_R_sF, hl_S_sF, hl_T_sP, hl_N_sP, hl_F_sP, hl_I_sP, hl_R_sP, hl_S_sP, hl_T_sI, hl_N_sI, hl_F_sI, hl_P_sI, hl_R_sI, hl_S_sI, hl_T_sR, hl_N_sR, hl_F_sR, hl_P_sR, hl_I_sR, hl_S_sR, hl_T_wI, hl_N_wI, hl_F_wI, hl_P_wI, hl_R_wI, hl_S_wI, hl_F_sF_s, hl_F_sF_n, hl_P_sP_s, hl_P_sP_n, hl_I_sI_s, hl_I_sI_n, hl_R_sR_s, hl_R_sR_n, hl_I_wI_s, hl_I_wI_n, hn_S_nO, hn_S_nI, hn_S_nR, hn_T_nO_s, hn_T_nO_n, hn_N_nO, hn_F_nO_s, hn_F_nO_n, hn_P_nO_s, hn_P_nO_n, hn_I_nO, hn_R_nO, hn_T_nI_s, hn_T_nI_n, hn_N_nI_s, hn_N_nI_n, hn_F_nI, hn_P_nI, hn_I_nI_s, hn_I_nI_n, hn_R_nI, hn_T_nR_s, hn_T_nR_n, hn_N_nR_s, hn_N_nR_n, hn_F_nR, hn_P_nR, hn_I_nR, hn_R_nR_s, hn_R_nR_n, v3]
theorem kV_fr {h h' : AH} {a lo hi : Nat} {v : VR} (hV : kV h a v) (f : FRM h h' lo hi) (hd : a + 3 ≤ lo ∨ hi ≤ a) : kV h' a v := by
  obtain ⟨t1, p1, p3, t3, n3, f1, f2, f4, r, n2⟩ := hV
  refine ⟨by rw [f.1]; exact t1, by rw [f.2.2.1]; exact p1, by rw [f.2.2.1]; exact p3, by rw [f.1]; exact t3, by rw [f.2.1]; exact n3, ?_, ?_, ?_, kR_fr r f (by omega), by rw [f.2.1]; exact n2⟩
  · rw [f.2.2.2.2.2.1 a (by omega)]; exact f1
  · rw [f.2.2.2.2.2.1 a (by omega)]; exact f2
  · rw [f.2.2.2.2.2.1 a (by omega)]; exact f4
/-- as KB, while a new version is being kept: rooms and bringers aside -/
def kN (h : AH) (x : Nat) (V : List VR) (Q : List (List HK)) (d : Nat) (A B : Nat → Nat) : Prop := kO h x ∧ (ah_F h x 3 = (V.length : Int) ∧ ah_F h x 5 = (Q.length : Int) ∧ ah_F h x 13 = (d : Int)) ∧ (∀ v : Nat, v < V.length → ah_R h (x + 5) (v : Int) = some (A v) ∧ kV h (A v) (vn V v) ∧ x + 38 ≤ A v ∧ A v + 4 ≤ ah_S h) ∧ kQ h x Q B ∧ kX V.length Q.length A B
theorem kN_fr {h h' : AH} {x d lo hi : Nat} {V : List VR} {Q : List (List HK)} {A B : Nat → Nat} (hK : kN h x V Q d A B) (f : FRM h h' lo hi) (hd : (x + 7 ≤ lo ∧ hi ≤ x + 38) ∨ ∃ w, w < V.length ∧ lo = A w + 3 ∧ hi = A w + 4) : kN h' x V Q d A B := by
  obtain ⟨hO, hF, hA, hQ, hX⟩ := hK
  have hx : x < lo := by
    rcases hd with z | ⟨w, w1, w2, w3⟩
    · omega
    · have := (hA w w1).2.2.1; omega
  refine ⟨?_, ?_, fun v hv => ?_, fun p hp => ?_, hX⟩
  · unfold kO at hO ⊢
    rw [f.1, f.2.1, f.2.2.1, f.2.2.2.2.1]; exact hO
  · rw [f.2.2.2.2.2.1 x (by omega)]; exact hF
  · obtain ⟨v1, v2, v3, v4⟩ := hA v hv
    refine ⟨by rw [f.2.2.2.1]; exact v1, kV_fr v2 f ?_, v3, by rw [f.2.2.2.2.1]; exact v4⟩
    rcases hd with z | ⟨w, w1, w2, w3⟩
    · omega
    · by_cases c : v = w
      · subst c; omega
      · have := hX.1 v w hv w1 c; omega
  · obtain ⟨q1, q2, q3, q4⟩ := hQ p hp
    refine ⟨by rw [f.2.2.2.1]; exact q1, kP_fr q2 f ?_, q3, by rw [f.2.2.2.2.1]; exact q4⟩
    rcases hd with z | ⟨w, w1, w2, w3⟩
    · omega
    · have := hX.2.2 w p w1 hp; omega
theorem q6_ver0 {h : AH} {x d : Nat} {V : List VR} {Q : List (List HK)} {A B : Nat → Nat} (hK : kN h x V Q d A B) (hV : V.length ≤ 10) {n : Int} (hn : am_r n) : X6_versionOrNull x n h = some (if 0 ≤ n ∧ n < V.length then some (A n.toNat) else none, h) := by
  obtain ⟨⟨o1, ⟨p0, p1, p2, p4, p6, p7, p8, p9, p10, p11, p12⟩, o3, o4, o5, o6, o7, o8, o9⟩, ⟨f3, f5, f13⟩, hA, hQ, hX⟩ := hK
  unfold am_r at hn
  by_cases h1 : 0 ≤ n
  · by_cases h2 : n < V.length
    · rw [if_pos ⟨h1, h2⟩]
      have e := (hA n.toNat (by omega)).1
      rw [Int.toNat_of_nonneg h1] at e
      simp (disch := omega) only [X6_versionOrNull, rr_p, rr_bp, rr_bb, rr_0, rr_lt, rr_blt, rr_le, rr_ble, rr_eq, rr_beq, rr_nl_n, rr_nl_s, rr_bnl_n, rr_bnl_s, rr_cond_t, rr_cond_f, rr_bcond_t, rr_bcond_f, rr_bon, rr_bcv, rr_cv, rr_g, rr_gr, rr_si, rr_sz, rr_sr, rr_al, rr_ld, rr_st, rr_rl, rr_rs, rr_ni, rr_nr, rr_z, rr_div, rr_rem, rr_lc, rr_mx, rr_mn, rr_ab, rr_no, gd_t, bc_t, bc_f, gd_tt, bc_tt, bc_ff, or_true, true_or, and_true, true_and, Nat.reduceAdd, f3, p2, e]
    · rw [if_neg (by omega)]
      simp (disch := omega) only [X6_versionOrNull, rr_p, rr_bp, rr_bb, rr_0, rr_lt, rr_blt, rr_le, rr_ble, rr_eq, rr_beq, rr_nl_n, rr_nl_s, rr_bnl_n, rr_bnl_s, rr_cond_t, rr_cond_f, rr_bcond_t, rr_bcond_f, rr_bon, rr_bcv, rr_cv, rr_g, rr_gr, rr_si, rr_sz, rr_sr, rr_al, rr_ld, rr_st, rr_rl, rr_rs, rr_ni, rr_nr, rr_z, rr_div, rr_rem, rr_lc, rr_mx, rr_mn, rr_ab, rr_no, gd_t, bc_t, bc_f, gd_tt, bc_tt, bc_ff, or_true, true_or, and_true, true_and, Nat.reduceAdd, f3, p2]
  · rw [if_neg (by omega)]
    simp (disch := omega) only [X6_versionOrNull, rr_p, rr_bp, rr_bb, rr_0, rr_lt, rr_blt, rr_le, rr_ble, rr_eq, rr_beq, rr_nl_n, rr_nl_s, rr_bnl_n, rr_bnl_s, rr_cond_t, rr_cond_f, rr_bcond_t, rr_bcond_f, rr_bon, rr_bcv, rr_cv, rr_g, rr_gr, rr_si, rr_sz, rr_sr, rr_al, rr_ld, rr_st, rr_rl, rr_rs, rr_ni, rr_nr, rr_z, rr_div, rr_rem, rr_lc, rr_mx, rr_mn, rr_ab, rr_no, gd_t, bc_t, bc_f, gd_tt, bc_tt, bc_ff, or_true, true_or, and_true, true_and, Nat.reduceAdd, f3, p2]
theorem q6_reckonRooms {h : AH} {x d n : Nat} {V : List VR} {Q : List (List HK)} {A B : Nat → Nat} (hK : kN h x V Q d A B) (hSc : KSc h x) (oV : OV V) (hn : V.length = n + 1) : ∃ h', X6_reckonRooms x (n : Int) h = some ((), h') ∧ kN h' x V Q d A B ∧ KSc h' x ∧ FRM h h' (x + 7) (x + 17) ∧ (∀ u v : Nat, u < n → v < n → ah_I h' (x + 7) ((u : Int) * 10 + (v : Int)) = ah_I h (x + 7) ((u : Int) * 10 + (v : Int))) ∧ ∀ o : Nat, o ≤ n → ah_I h' (x + 7) ((o : Int) * 10 + (n : Int)) = rm (dW (vn V o).1 (vn V n).1) ∧ ah_I h' (x + 7) ((n : Int) * 10 + (o : Int)) = rm (dW (vn V n).1 (vn V o).1) := by
  have oV1 := oV.1
  have e0 := q6_ver0 hK oV1 (n := (n : Int)) (by unfold am_r; omega)
  rw [if_pos (by omega), Int.toNat_natCast] at e0
  have o1 := hK.1.1
  have hL := lp_inv (F := X6_reckonRooms_L8 (some (A n)) x (n : Int)) (fun s h' => ∃ k : Nat, s = (k : Int) ∧ k ≤ n + 1 ∧ kN h' x V Q d A B ∧ KSc h' x ∧ FRM h h' (x + 7) (x + 17) ∧ (∀ u v : Nat, u < n → v < n → ah_I h' (x + 7) ((u : Int) * 10 + (v : Int)) = ah_I h (x + 7) ((u : Int) * 10 + (v : Int))) ∧ ∀ o : Nat, o < k → ah_I h' (x + 7) ((o : Int) * 10 + (n : Int)) = rm (dW (vn V o).1 (vn V n).1) ∧ ah_I h' (x + 7) ((n : Int) * 10 + (o : Int)) = rm (dW (vn V n).1 (vn V o).1)) (fun s => ((n : Int) + 1 - s).toNat) (fun _ h' => kN h' x V Q d A B ∧ KSc h' x ∧ FRM h h' (x + 7) (x + 17) ∧ (∀ u v : Nat, u < n → v < n → ah_I h' (x + 7) ((u : Int) * 10 + (v : Int)) = ah_I h (x + 7) ((u : Int) * 10 + (v : Int))) ∧ ∀ o : Nat, o ≤ n → ah_I h' (x + 7) ((o : Int) * 10 + (n : Int)) = rm (dW (vn V o).1 (vn V n).1) ∧ ah_I h' (x + 7) ((n : Int) * 10 + (o : Int)) = rm (dW (vn V n).1 (vn V o).1)) ?_ mo_N 0 h ⟨0, rfl, by omega, hK, hSc, FRM.rf, fun u v _ _ => rfl, fun o ho => by omega⟩ (by rw [mo_N_v]; omega)
  · obtain ⟨_, h', e1, q⟩ := hL
    exact ⟨h', by simp (disch := omega) only [X6_reckonRooms, rr_p, rr_bp, rr_bb, rr_0, rr_lt, rr_blt, rr_le, rr_ble, rr_eq, rr_beq, rr_nl_n, rr_nl_s, rr_bnl_n, rr_bnl_s, rr_cond_t, rr_cond_f, rr_bcond_t, rr_bcond_f, rr_bon, rr_bcv, rr_cv, rr_g, rr_gr, rr_si, rr_sz, rr_sr, rr_al, rr_ld, rr_st, rr_rl, rr_rs, rr_ni, rr_nr, rr_z, rr_div, rr_rem, rr_lc, rr_mx, rr_mn, rr_ab, rr_no, gd_t, bc_t, bc_f, gd_tt, bc_tt, bc_ff, or_true, true_or, and_true, true_and, Nat.reduceAdd, mo_b_s e0, mo_b_s e1], q⟩
  · rintro s h' ⟨k, rfl, hk1, hK', hSc', hf, ho1, ho2⟩
    have e1 := q6_ver0 hK' oV1 (n := (k : Int)) (by unfold am_r; omega)
    obtain ⟨⟨o1, ⟨p0, p1, p2, p4, p6, p7, p8, p9, p10, p11, p12⟩, o3, o4, o5, o6, o7, o8, o9⟩, ⟨f3, f5, f13⟩, hA, hQ, hX⟩ := id hK'
    by_cases ck : k < n + 1
    · left
      rw [if_pos (by omega), Int.toNat_natCast] at e1
      obtain ⟨a1, a2, a3, a4⟩ := hA k (by omega)
      obtain ⟨b1, b2, b3, b4⟩ := hA n (by omega)
      obtain ⟨l1, l2, -⟩ := oV.2 k (by omega)
      obtain ⟨k1, k2, -⟩ := oV.2 n (by omega)
      obtain ⟨W1, hW1⟩ := hSc'.2.2.2.1
      obtain ⟨h1, h2, e2, r2, g1, g2⟩ := q6_writeDifference o1 p7 hSc'.2.2.1 hW1 a2 b2 (by omega) (by omega) a3 b3 (by omega) (by omega) l1 k1 l2 k2
      have hSc1 := KSc_di hSc' g1
      have hSc2 := KSc_p1 hSc1 g2 r2
      have hK2 := kN_fr (kN_fr hK' g1 (Or.inl (by omega))) g2 (Or.inl (by omega))
      obtain ⟨⟨y1, ⟨-, -, -, -, y6, y7, y8, -⟩, -, -, -, -, y37, y38, -⟩, -⟩ := id hK2
      have e3 := q3_room r2
      have tP2 := r2.1.1.1
      have g3 : FRM h2 (ah_sI h2 (x + 7) ((k : Int) * 10 + (n : Int)) (rm (dW (vn V k).1 (vn V n).1))) (x + 7) (x + 8) := FRM.sI (by omega) (by omega)
      have hSc3 := KSc_sm hSc2 (SM.fr g3 (by omega)) (SM.fr g3 (by omega))
      have hK3 := kN_fr hK2 g3 (Or.inl (by omega))
      obtain ⟨⟨z1, ⟨-, -, -, -, z6, z7, z8, -⟩, -, -, -, -, z37, z38, -⟩, -, hA3, -⟩ := id hK3
      obtain ⟨c1, c2, c3, c4⟩ := hA3 k (by omega)
      obtain ⟨d1, d2, d3, d4⟩ := hA3 n (by omega)
      obtain ⟨W2, hW2⟩ := hSc3.2.2.2.1
      obtain ⟨h4, h5, e4, r4, g4, g5⟩ := q6_writeDifference z1 z7 hSc3.2.2.1 hW2 d2 c2 (by omega) (by omega) d3 c3 (by omega) (by omega) k1 l1 k2 l2
      have hSc4 := KSc_di hSc3 g4
      have hSc5 := KSc_p1 hSc4 g5 r4
      have hK5 := kN_fr (kN_fr hK3 g4 (Or.inl (by omega))) g5 (Or.inl (by omega))
      obtain ⟨⟨w1, ⟨-, -, -, -, w6, w7, w8, -⟩, -, -, -, -, w37, w38, -⟩, -⟩ := id hK5
      have e5 := q3_room r4
      have tP5 := r4.1.1.1
      have g6 : FRM h5 (ah_sI h5 (x + 7) ((n : Int) * 10 + (k : Int)) (rm (dW (vn V n).1 (vn V k).1))) (x + 7) (x + 8) := FRM.sI (by omega) (by omega)
      have hSc6 := KSc_sm hSc5 (SM.fr g6 (by omega)) (SM.fr g6 (by omega))
      have hK6 := kN_fr hK5 g6 (Or.inl (by omega))
      have t6 := hK6.1.1
      have i2 : ah_I h2 (x + 7) = ah_I h' (x + 7) := by rw [g2.2.2.2.2.2.2 (x + 7) (by omega), g1.2.2.2.2.2.2 (x + 7) (by omega)]
      have i5 : ah_I h5 (x + 7) = ah_I (ah_sI h2 (x + 7) ((k : Int) * 10 + (n : Int)) (rm (dW (vn V k).1 (vn V n).1))) (x + 7) := by rw [g5.2.2.2.2.2.2 (x + 7) (by omega), g4.2.2.2.2.2.2 (x + 7) (by omega)]
      have e3 : X3_room (x + 11) h2 = some (rm (dW (vn V k).1 (vn V n).1), h2) := e3
      have e5 : X3_room (x + 11) h5 = some (rm (dW (vn V n).1 (vn V k).1), h5) := e5
      have e6 : X6_setDifferenceRoom x (k : Int) (n : Int) (rm (dW (vn V k).1 (vn V n).1)) h2 = some ((), ah_sI h2 (x + 7) ((k : Int) * 10 + (n : Int)) (rm (dW (vn V k).1 (vn V n).1))) := by simp (disch := omega) only [X6_setDifferenceRoom, rr_p, rr_bp, rr_bb, rr_0, rr_lt, rr_blt, rr_le, rr_ble, rr_eq, rr_beq, rr_nl_n, rr_nl_s, rr_bnl_n, rr_bnl_s, rr_cond_t, rr_cond_f, rr_bcond_t, rr_bcond_f, rr_bon, rr_bcv, rr_cv, rr_g, rr_gr, rr_si, rr_sz, rr_sr, rr_al, rr_ld, rr_st, rr_rl, rr_rs, rr_ni, rr_nr, rr_z, rr_div, rr_rem, rr_lc, rr_mx, rr_mn, rr_ab, rr_no, gd_t, bc_t, bc_f, gd_tt, bc_tt, bc_ff, or_true, true_or, and_true, true_and, Nat.reduceAdd, y6]
      have e7 : X6_setDifferenceRoom x (n : Int) (k : Int) (rm (dW (vn V n).1 (vn V k).1)) h5 = some ((), ah_sI h5 (x + 7) ((n : Int) * 10 + (k : Int)) (rm (dW (vn V n).1 (vn V k).1))) := by simp (disch := omega) only [X6_setDifferenceRoom, rr_p, rr_bp, rr_bb, rr_0, rr_lt, rr_blt, rr_le, rr_ble, rr_eq, rr_beq, rr_nl_n, rr_nl_s, rr_bnl_n, rr_bnl_s, rr_cond_t, rr_cond_f, rr_bcond_t, rr_bcond_f, rr_bon, rr_bcv, rr_cv, rr_g, rr_gr, rr_si, rr_sz, rr_sr, rr_al, rr_ld, rr_st, rr_rl, rr_rs, rr_ni, rr_nr, rr_z, rr_div, rr_rem, rr_lc, rr_mx, rr_mn, rr_ab, rr_no, gd_t, bc_t, bc_f, gd_tt, bc_tt, bc_ff, or_true, true_or, and_true, true_and, Nat.reduceAdd, w6]
      refine ⟨(k : Int) + 1, _, by simp (disch := omega) only [X6_reckonRooms_L8, rr_p, rr_bp, rr_bb, rr_0, rr_lt, rr_blt, rr_le, rr_ble, rr_eq, rr_beq, rr_nl_n, rr_nl_s, rr_bnl_n, rr_bnl_s, rr_cond_t, rr_cond_f, rr_bcond_t, rr_bcond_f, rr_bon, rr_bcv, rr_cv, rr_g, rr_gr, rr_si, rr_sz, rr_sr, rr_al, rr_ld, rr_st, rr_rl, rr_rs, rr_ni, rr_nr, rr_z, rr_div, rr_rem, rr_lc, rr_mx, rr_mn, rr_ab, rr_no, gd_t, bc_t, bc_f, gd_tt, bc_tt, bc_ff, or_true, true_or, and_true, true_and, Nat.reduceAdd, f3, mo_b_s e1, p8, mo_b_s e2, y8, mo_b_s e3, mo_b_s e6, z8, mo_b_s e4, w8, mo_b_s e5, mo_b_s e7], ⟨k + 1, by simp, by omega, hK6, hSc6, ?_, fun u v hu hv => ?_, fun o ho => ?_⟩, by omega⟩
      · exact (((hf.tr g1 (lo3 := x + 7) (hi3 := x + 17) (by omega) (by omega) (by omega) (by omega)).tr g2 (lo3 := x + 7) (hi3 := x + 17) (by omega) (by omega) (by omega) (by omega)).tr g3 (lo3 := x + 7) (hi3 := x + 17) (by omega) (by omega) (by omega) (by omega)).tr ((g4.tr g5 (lo3 := x + 7) (hi3 := x + 17) (by omega) (by omega) (by omega) (by omega)).tr g6 (lo3 := x + 7) (hi3 := x + 17) (by omega) (by omega) (by omega) (by omega)) (by omega) (by omega) (by omega) (by omega)
      · rw [hl_I_sI_n (Or.inr (by omega)), i5, hl_I_sI_n (Or.inr (by omega)), i2]; exact ho1 u v hu hv
      · by_cases co : o = k
        · subst co
          refine ⟨?_, by rw [hl_I_sI_s]⟩
          by_cases cn : o = n
          · subst cn; rw [hl_I_sI_s]
          · rw [hl_I_sI_n (Or.inr (by omega)), i5, hl_I_sI_s]
        · obtain ⟨q1, q2⟩ := ho2 o (by omega)
          refine ⟨?_, ?_⟩
          · rw [hl_I_sI_n (Or.inr (by omega)), i5, hl_I_sI_n (Or.inr (by omega)), i2]; exact q1
          · rw [hl_I_sI_n (Or.inr (by omega)), i5, hl_I_sI_n (Or.inr (by omega)), i2]; exact q2
    · right
      exact ⟨(), h', by simp (disch := omega) only [X6_reckonRooms_L8, rr_p, rr_bp, rr_bb, rr_0, rr_lt, rr_blt, rr_le, rr_ble, rr_eq, rr_beq, rr_nl_n, rr_nl_s, rr_bnl_n, rr_bnl_s, rr_cond_t, rr_cond_f, rr_bcond_t, rr_bcond_f, rr_bon, rr_bcv, rr_cv, rr_g, rr_gr, rr_si, rr_sz, rr_sr, rr_al, rr_ld, rr_st, rr_rl, rr_rs, rr_ni, rr_nr, rr_z, rr_div, rr_rem, rr_lc, rr_mx, rr_mn, rr_ab, rr_no, gd_t, bc_t, bc_f, gd_tt, bc_tt, bc_ff, or_true, true_or, and_true, true_and, Nat.reduceAdd, f3], hK', hSc', hf, ho1, fun o ho => ho2 o (by omega)⟩
theorem q5_setBringer {h : AH} {a : Nat} {v : VR} (hV : kV h a v) {i w : Int} : (0 ≤ i ∧ i < 14 → X5_setBringer a i w h = some ((), ah_sI h (a + 3) i w)) ∧ (-100 ≤ i ∧ i < 0 → X5_setBringer a i w h = some ((), h)) := by
  obtain ⟨t1, p1, p3, t3, n3, -⟩ := hV
  refine ⟨fun hi => ?_, fun hi => ?_⟩
  · simp (disch := omega) only [X5_setBringer, rr_p, rr_bp, rr_bb, rr_0, rr_lt, rr_blt, rr_le, rr_ble, rr_eq, rr_beq, rr_nl_n, rr_nl_s, rr_bnl_n, rr_bnl_s, rr_cond_t, rr_cond_f, rr_bcond_t, rr_bcond_f, rr_bon, rr_bcv, rr_cv, rr_g, rr_gr, rr_si, rr_sz, rr_sr, rr_al, rr_ld, rr_st, rr_rl, rr_rs, rr_ni, rr_nr, rr_z, rr_div, rr_rem, rr_lc, rr_mx, rr_mn, rr_ab, rr_no, gd_t, bc_t, bc_f, gd_tt, bc_tt, bc_ff, or_true, true_or, and_true, true_and, Nat.reduceAdd, p3]
  · simp (disch := omega) only [X5_setBringer, rr_p, rr_bp, rr_bb, rr_0, rr_lt, rr_blt, rr_le, rr_ble, rr_eq, rr_beq, rr_nl_n, rr_nl_s, rr_bnl_n, rr_bnl_s, rr_cond_t, rr_cond_f, rr_bcond_t, rr_bcond_f, rr_bon, rr_bcv, rr_cv, rr_g, rr_gr, rr_si, rr_sz, rr_sr, rr_al, rr_ld, rr_st, rr_rl, rr_rs, rr_ni, rr_nr, rr_z, rr_div, rr_rem, rr_lc, rr_mx, rr_mn, rr_ab, rr_no, gd_t, bc_t, bc_f, gd_tt, bc_tt, bc_ff, or_true, true_or, and_true, true_and, Nat.reduceAdd]
theorem q5_allBroughtBy {h : AH} {a : Nat} {v : VR} (hV : kV h a v) (hl : v.1.length ≤ 14) {w : Int} : ∃ h', X5_allBroughtBy a w h = some ((), h') ∧ FRM h h' (a + 3) (a + 4) ∧ ∀ i : Nat, i < v.1.length → ah_I h' (a + 3) (i : Int) = w := by
  have hL := lp_inv (F := X5_allBroughtBy_L2 a w) (fun s h' => ∃ k : Nat, s = (k : Int) ∧ k ≤ v.1.length ∧ FRM h h' (a + 3) (a + 4) ∧ ∀ i : Nat, i < k → ah_I h' (a + 3) (i : Int) = w) (fun s => ((v.1.length : Int) - s).toNat) (fun _ h' => FRM h h' (a + 3) (a + 4) ∧ ∀ i : Nat, i < v.1.length → ah_I h' (a + 3) (i : Int) = w) ?_ mo_N 0 h ⟨0, rfl, by omega, FRM.rf, fun i hi => by omega⟩ (by rw [mo_N_v]; omega)
  · obtain ⟨_, h', e1, q⟩ := hL
    exact ⟨h', by simp (disch := omega) only [X5_allBroughtBy, rr_p, rr_bp, rr_bb, rr_0, rr_lt, rr_blt, rr_le, rr_ble, rr_eq, rr_beq, rr_nl_n, rr_nl_s, rr_bnl_n, rr_bnl_s, rr_cond_t, rr_cond_f, rr_bcond_t, rr_bcond_f, rr_bon, rr_bcv, rr_cv, rr_g, rr_gr, rr_si, rr_sz, rr_sr, rr_al, rr_ld, rr_st, rr_rl, rr_rs, rr_ni, rr_nr, rr_z, rr_div, rr_rem, rr_lc, rr_mx, rr_mn, rr_ab, rr_no, gd_t, bc_t, bc_f, gd_tt, bc_tt, bc_ff, or_true, true_or, and_true, true_and, Nat.reduceAdd, mo_b_s e1], q⟩
  · rintro s h' ⟨k, rfl, hk1, hf, hi⟩
    have hV' := kV_fr hV hf (by omega)
    obtain ⟨t1, p1, -, -, -, -, -, -, r, -⟩ := id hV'
    have tR := r.1
    have e1 := q4_size r
    by_cases ck : k < v.1.length
    · left
      have e2 := (q5_setBringer hV' (i := (k : Int)) (w := w)).1 (by omega)
      refine ⟨(k : Int) + 1, ah_sI h' (a + 3) (k : Int) w, by simp (disch := omega) only [X5_allBroughtBy_L2, rr_p, rr_bp, rr_bb, rr_0, rr_lt, rr_blt, rr_le, rr_ble, rr_eq, rr_beq, rr_nl_n, rr_nl_s, rr_bnl_n, rr_bnl_s, rr_cond_t, rr_cond_f, rr_bcond_t, rr_bcond_f, rr_bon, rr_bcv, rr_cv, rr_g, rr_gr, rr_si, rr_sz, rr_sr, rr_al, rr_ld, rr_st, rr_rl, rr_rs, rr_ni, rr_nr, rr_z, rr_div, rr_rem, rr_lc, rr_mx, rr_mn, rr_ab, rr_no, gd_t, bc_t, bc_f, gd_tt, bc_tt, bc_ff, or_true, true_or, and_true, true_and, Nat.reduceAdd, p1, mo_b_s e1, mo_b_s e2], ⟨k + 1, by simp, by omega, hf.tr (FRM.sI (lo := a + 3) (hi := a + 4) (by omega) (by omega)) (by omega) (by omega) (by omega) (by omega), fun i hi2 => ?_⟩, by omega⟩
      by_cases c : i = k
      · subst c; rw [hl_I_sI_s]
      · rw [hl_I_sI_n (Or.inr (by omega))]; exact hi i (by omega)
    · right
      exact ⟨(), h', by simp (disch := omega) only [X5_allBroughtBy_L2, rr_p, rr_bp, rr_bb, rr_0, rr_lt, rr_blt, rr_le, rr_ble, rr_eq, rr_beq, rr_nl_n, rr_nl_s, rr_bnl_n, rr_bnl_s, rr_cond_t, rr_cond_f, rr_bcond_t, rr_bcond_f, rr_bon, rr_bcv, rr_cv, rr_g, rr_gr, rr_si, rr_sz, rr_sr, rr_al, rr_ld, rr_st, rr_rl, rr_rs, rr_ni, rr_nr, rr_z, rr_div, rr_rem, rr_lc, rr_mx, rr_mn, rr_ab, rr_no, gd_t, bc_t, bc_f, gd_tt, bc_tt, bc_ff, or_true, true_or, and_true, true_and, Nat.reduceAdd, p1, mo_b_s e1], hf, fun i hi2 => hi i (by omega)⟩
theorem q6_leadBackTo {h : AH} {x a b : Nat} {u w : VR} (tx : ah_T h x = 16) (p7 : ah_P h x 7 = some (x + 8)) (hD : kDs h (x + 8)) (hU : kV h b u) (hW : kV h a w) (ha : x + 38 ≤ a) (hb : x + 38 ≤ b) (hab : a + 4 ≤ b ∨ b + 4 ≤ a) (lu : u.1.length ≤ 14) (lw : w.1.length ≤ 14) (wu : wL u.1) (ww : wL w.1) : ∃ h1 h', X6_leadBackTo x (some b) (some a) h = some ((), h') ∧ FRM h h1 (x + 8) (x + 8 + 3) ∧ FRM h1 h' (a + 3) (a + 4) ∧ ∀ i : Nat, i < w.1.length → ah_I h' (a + 3) (i : Int) = if led u.1 w.1 (i : Int) = -1 then ah_I h (a + 3) (i : Int) else ah_I h (b + 3) (led u.1 w.1 (i : Int)) := by
  have tU := hU.1
  have pU := hU.2.1
  have rU := hU.2.2.2.2.2.2.2.2.1
  have tW := hW.1
  have pW := hW.2.1
  have rW := hW.2.2.2.2.2.2.2.2.1
  have tD := hD.1
  obtain ⟨h1, e1, m1, g1⟩ := q1_find hD rU rW (by omega) (by omega) (wL_pL wu) (wL_pL ww) lu lw
  have hL := lp_inv (F := X6_leadBackTo_L22 x (some b) (some a)) (fun s h' => ∃ k : Nat, s = (k : Int) ∧ k ≤ u.1.length ∧ FRM h1 h' (a + 3) (a + 4) ∧ (∀ l : Nat, l < k → 0 ≤ (trc u.1 w.1 0).getD l 0 → ah_I h' (a + 3) ((trc u.1 w.1 0).getD l 0) = ah_I h (b + 3) (l : Int)) ∧ ∀ i : Int, (∀ l : Nat, l < k → (trc u.1 w.1 0).getD l 0 ≠ i) → ah_I h' (a + 3) i = ah_I h (a + 3) i) (fun s => ((u.1.length : Int) - s).toNat) (fun _ h' => FRM h1 h' (a + 3) (a + 4) ∧ (∀ l : Nat, l < u.1.length → 0 ≤ (trc u.1 w.1 0).getD l 0 → ah_I h' (a + 3) ((trc u.1 w.1 0).getD l 0) = ah_I h (b + 3) (l : Int)) ∧ ∀ i : Int, (∀ l : Nat, l < u.1.length → (trc u.1 w.1 0).getD l 0 ≠ i) → ah_I h' (a + 3) i = ah_I h (a + 3) i) ?_ mo_N 0 h1 ⟨0, rfl, by omega, FRM.rf, fun l hl => by omega, fun i _ => by rw [g1.2.2.2.2.2.2 (a + 3) (by omega)]⟩ (by rw [mo_N_v]; omega)
  · obtain ⟨_, h', e2, g2, q1, q2⟩ := hL
    refine ⟨h1, h', by simp (disch := omega) only [X6_leadBackTo, rr_p, rr_bp, rr_bb, rr_0, rr_lt, rr_blt, rr_le, rr_ble, rr_eq, rr_beq, rr_nl_n, rr_nl_s, rr_bnl_n, rr_bnl_s, rr_cond_t, rr_cond_f, rr_bcond_t, rr_bcond_f, rr_bon, rr_bcv, rr_cv, rr_g, rr_gr, rr_si, rr_sz, rr_sr, rr_al, rr_ld, rr_st, rr_rl, rr_rs, rr_ni, rr_nr, rr_z, rr_div, rr_rem, rr_lc, rr_mx, rr_mn, rr_ab, rr_no, gd_t, bc_t, bc_f, gd_tt, bc_tt, bc_ff, or_true, true_or, and_true, true_and, Nat.reduceAdd, p7, pU, pW, mo_b_s e1, mo_b_s e2], g1, g2, fun i hi => ?_⟩
    by_cases c : ∃ l, l < u.1.length ∧ (trc u.1 w.1 0).getD l 0 = (i : Int)
    · obtain ⟨l, l1, l2⟩ := c
      have := q1 l l1 (by omega)
      rw [l2] at this
      rw [led_y l1 (by omega) l2, if_neg (by omega)]; exact this
    · rw [led_n (fun l l1 l2 => c ⟨l, l1, l2⟩), if_pos rfl]
      exact q2 (i : Int) (fun l l1 l2 => c ⟨l, l1, l2⟩)
  · rintro s h' ⟨k, rfl, hk1, hf, q1, q2⟩
    have tx' : ah_T h' x = 16 := by rw [hf.1, g1.1]; exact tx
    have p7' : ah_P h' x 7 = some (x + 8) := by rw [hf.2.2.1, g1.2.2.1]; exact p7
    have hU' := kV_fr (kV_fr hU g1 (by omega)) hf (by omega)
    have hW' := kV_fr (kV_fr hW g1 (by omega)) hf (by omega)
    have hD' := kDs_fr (kDs_fr hD g1) hf
    obtain ⟨t1, pp1, -, -, -, -, -, -, r, -⟩ := id hU'
    have tR := r.1
    have tW' := hW'.1
    have tD' := hD'.1
    have e2 := q4_size r
    by_cases ck : k < u.1.length
    · left
      have e3 := q1_mate hD' (i := (k : Int)) (by omega)
      rw [hf.2.2.2.2.2.2 (x + 8 + 2) (by omega), m1 k ck] at e3
      have e4 := q5_bringerOf hU' (i := (k : Int)) (by omega)
      rw [hf.2.2.2.2.2.2 (b + 3) (by omega), g1.2.2.2.2.2.2 (b + 3) (by omega)] at e4
      have tr := @trc_r u.1 w.1 k ck
      by_cases c0 : 0 ≤ (trc u.1 w.1 0).getD k 0
      · have e5 := (q5_setBringer hW' (i := (trc u.1 w.1 0).getD k 0) (w := ah_I h (b + 3) (k : Int))).1 (by omega)
        refine ⟨(k : Int) + 1, ah_sI h' (a + 3) ((trc u.1 w.1 0).getD k 0) (ah_I h (b + 3) (k : Int)), by simp (disch := omega) only [X6_leadBackTo_L22, rr_p, rr_bp, rr_bb, rr_0, rr_lt, rr_blt, rr_le, rr_ble, rr_eq, rr_beq, rr_nl_n, rr_nl_s, rr_bnl_n, rr_bnl_s, rr_cond_t, rr_cond_f, rr_bcond_t, rr_bcond_f, rr_bon, rr_bcv, rr_cv, rr_g, rr_gr, rr_si, rr_sz, rr_sr, rr_al, rr_ld, rr_st, rr_rl, rr_rs, rr_ni, rr_nr, rr_z, rr_div, rr_rem, rr_lc, rr_mx, rr_mn, rr_ab, rr_no, gd_t, bc_t, bc_f, gd_tt, bc_tt, bc_ff, or_true, true_or, and_true, true_and, Nat.reduceAdd, pp1, mo_b_s e2, p7', mo_b_s e3, mo_b_s e4, mo_b_s e5], ⟨k + 1, by simp, by omega, hf.tr (FRM.sI (lo := a + 3) (hi := a + 4) (by omega) (by omega)) (by omega) (by omega) (by omega) (by omega), fun l hl h0 => ?_, fun i hi => ?_⟩, by omega⟩
        · by_cases c : l = k
          · subst c; rw [hl_I_sI_s]
          · rw [hl_I_sI_n (Or.inr (fun z => c (trc_i (by omega) ck (by omega) z)))]; exact q1 l (by omega) h0
        · have := hi k (by omega)
          rw [hl_I_sI_n (Or.inr (by omega))]; exact q2 i (fun l hl => hi l (by omega))
      · have e5 := (q5_setBringer hW' (i := (trc u.1 w.1 0).getD k 0) (w := ah_I h (b + 3) (k : Int))).2 (by omega)
        refine ⟨(k : Int) + 1, h', by simp (disch := omega) only [X6_leadBackTo_L22, rr_p, rr_bp, rr_bb, rr_0, rr_lt, rr_blt, rr_le, rr_ble, rr_eq, rr_beq, rr_nl_n, rr_nl_s, rr_bnl_n, rr_bnl_s, rr_cond_t, rr_cond_f, rr_bcond_t, rr_bcond_f, rr_bon, rr_bcv, rr_cv, rr_g, rr_gr, rr_si, rr_sz, rr_sr, rr_al, rr_ld, rr_st, rr_rl, rr_rs, rr_ni, rr_nr, rr_z, rr_div, rr_rem, rr_lc, rr_mx, rr_mn, rr_ab, rr_no, gd_t, bc_t, bc_f, gd_tt, bc_tt, bc_ff, or_true, true_or, and_true, true_and, Nat.reduceAdd, pp1, mo_b_s e2, p7', mo_b_s e3, mo_b_s e4, mo_b_s e5], ⟨k + 1, by simp, by omega, hf, fun l hl h0 => ?_, fun i hi => q2 i (fun l hl => hi l (by omega))⟩, by omega⟩
        by_cases c : l = k
        · subst c; omega
        · exact q1 l (by omega) h0
    · right
      have : k = u.1.length := by omega
      subst this
      exact ⟨(), h', by simp (disch := omega) only [X6_leadBackTo_L22, rr_p, rr_bp, rr_bb, rr_0, rr_lt, rr_blt, rr_le, rr_ble, rr_eq, rr_beq, rr_nl_n, rr_nl_s, rr_bnl_n, rr_bnl_s, rr_cond_t, rr_cond_f, rr_bcond_t, rr_bcond_f, rr_bon, rr_bcv, rr_cv, rr_g, rr_gr, rr_si, rr_sz, rr_sr, rr_al, rr_ld, rr_st, rr_rl, rr_rs, rr_ni, rr_nr, rr_z, rr_div, rr_rem, rr_lc, rr_mx, rr_mn, rr_ab, rr_no, gd_t, bc_t, bc_f, gd_tt, bc_tt, bc_ff, or_true, true_or, and_true, true_and, Nat.reduceAdd, pp1, mo_b_s e2], hf, q1, q2⟩
