/-- what a store of the first n versions is made of -/
def stE (V : List VR) (n : Nat) (bd : Int) : SE := (n, fun i s => if s < 0 then ((vn V i.toNat).1.length : Int) + 1 else rm (dW (vn V s.toNat).1 (vn V i.toNat).1), fun i => (vn V i).2.2.2, bd)
theorem rm_r {xs ys : List Int} (hx : wL xs) (hy : wL ys) (lx : xs.length ≤ 14) (ly : ys.length ≤ 14) : 1 ≤ rm (dW xs ys) ∧ rm (dW xs ys) ≤ 99 := by
  obtain ⟨d1, d2, d3, -, -⟩ := dW_f hx hy
  unfold rm; omega
theorem stE_ok {V : List VR} {n : Nat} {bd : Int} (oV : OV V) (hn : 1 ≤ n ∧ n ≤ 6 ∧ n ≤ V.length) (hb : 1 ≤ bd ∧ bd ≤ 999) : okE (stE V n bd) := by
  refine ⟨⟨hn.1, hn.2.1⟩, hb, fun i s i0 i1 s0 s1 => ?_, fun i hi => ?_⟩
  · have i1 : i < (n : Int) := i1
    have s1 : s < (n : Int) := s1
    obtain ⟨l1, l2, -⟩ := oV.2 i.toNat (by omega)
    show 1 ≤ (if s < 0 then ((vn V i.toNat).1.length : Int) + 1 else rm (dW (vn V s.toNat).1 (vn V i.toNat).1)) ∧ (if s < 0 then ((vn V i.toNat).1.length : Int) + 1 else rm (dW (vn V s.toNat).1 (vn V i.toNat).1)) ≤ 99
    by_cases c : s < 0
    · rw [if_pos c]; omega
    · rw [if_neg c]
      obtain ⟨k1, k2, -⟩ := oV.2 s.toNat (by omega)
      exact rm_r k2 l2 k1 l1
  · have hi : i < n := hi
    exact (oV.2 i (by omega)).2.2.2.2
theorem hm_ge {xs ys : List Int} : ∀ (ms : List Int) (i gf cf : Nat), ys.length ≤ cf + ms.length + (fC (hm xs ys ms i gf cf)).length := by
  have ho : ∀ gf cf i n : Nat, min n ys.length ≤ cf + (fC (hmo xs ys gf cf i n)).length := by
    intro gf cf i n
    unfold hmo
    split
    · simp [fC]; omega
    · simp [fC]; omega
  intro ms
  induction ms with
  | nil =>
    intro i gf cf
    have := ho gf cf i ys.length
    rw [hm]; simp at this ⊢; omega
  | cons m ms ih =>
    intro i gf cf
    by_cases c : m = -1
    · have := ih (i + 1) gf cf
      rw [hm, if_pos c, List.length_cons]; omega
    · have h1 := ih (i + 1) (i + 1) (m.toNat + 1)
      have h2 := ho gf cf i m.toNat
      rw [hm, if_neg c, List.length_cons, fC_app, List.length_append]; omega
theorem stE_tri {V : List VR} {n : Nat} {bd : Int} : tri (stE V n bd) := by
  intro i s i0 i1 s0 s1
  have h := hm_ge (xs := (vn V s.toNat).1) (ys := (vn V i.toNat).1) (trc (vn V s.toNat).1 (vn V i.toNat).1 0) 0 0 0
  rw [trc_len] at h
  have e1 : ∀ j : Int, (stE V n bd).2.1 j (-1) = ((vn V j.toNat).1.length : Int) + 1 := fun j => rfl
  have e2 : (stE V n bd).2.1 i s = rm (dW (vn V s.toNat).1 (vn V i.toNat).1) := by
    show (if s < 0 then ((vn V i.toNat).1.length : Int) + 1 else rm (dW (vn V s.toNat).1 (vn V i.toNat).1)) = _
    rw [if_neg (by omega)]
  rw [e1, e1, e2]
  unfold rm dW
  omega
theorem KI_done {h : AH} {x d : Nat} {D : List Int} {V : List VR} {Q : List (List HK)} (hK : KI h x (D, V, Q, d)) : KI (ah_sF h x 13 ((d : Int) + 1)) x (D, V, Q, d + 1) := by
  obtain ⟨hR, nD, hSc, A, B, ⟨hO, ⟨f3, f5, f13⟩, hA, hQ, hM, hX⟩⟩ := hK
  have sm : ∀ lo hi, x + 1 ≤ lo → SM h (ah_sF h x 13 ((d : Int) + 1)) lo hi := fun lo hi hl => SM.sF (by omega)
  refine ⟨kR_sm hR (sm _ _ (by omega)), nD, KSc_sm hSc (sm _ _ (by omega)) (sm _ _ (by omega)), A, B, hO, ⟨?_, ?_, ?_⟩, fun v hv => ?_, fun p hp => ?_, hM, hX⟩
  · simp (disch := omega) only [hl_T_sF, hl_N_sF, hl_P_sF, hl_I_sF, hl_R_sF, hl_S_sF, hl_T_sP, hl_N_sP, hl_F_sP, hl_I_sP, hl_R_sP, hl_S_sP, hl_T_sI, hl_N_sI, hl_F_sI, hl_P_sI, hl_R_sI, hl_S_sI, hl_T_sR, hl_N_sR, hl_F_sR, hl_P_sR, hl_I_sR, hl_S_sR, hl_T_wI, hl_N_wI, hl_F_wI, hl_P_wI, hl_R_wI, hl_S_wI, hl_F_sF_s, hl_F_sF_n, hl_P_sP_s, hl_P_sP_n, hl_I_sI_s, hl_I_sI_n, hl_R_sR_s, hl_R_sR_n, hl_I_wI_s, hl_I_wI_n]; exact f3
  · simp (disch := omega) only [hl_T_sF, hl_N_sF, hl_P_sF, hl_I_sF, hl_R_sF, hl_S_sF, hl_T_sP, hl_N_sP, hl_F_sP, hl_I_sP, hl_R_sP, hl_S_sP, hl_T_sI, hl_N_sI, hl_F_sI, hl_P_sI, hl_R_sI, hl_S_sI, hl_T_sR, hl_N_sR, hl_F_sR, hl_P_sR, hl_I_sR, hl_S_sR, hl_T_wI, hl_N_wI, hl_F_wI, hl_P_wI, hl_R_wI, hl_S_wI, hl_F_sF_s, hl_F_sF_n, hl_P_sP_s, hl_P_sP_n, hl_I_sI_s, hl_I_sI_n, hl_R_sR_s, hl_R_sR_n, hl_I_wI_s, hl_I_wI_n]; exact f5
  · simp (disch := omega) only [hl_T_sF, hl_N_sF, hl_P_sF, hl_I_sF, hl_R_sF, hl_S_sF, hl_T_sP, hl_N_sP, hl_F_sP, hl_I_sP, hl_R_sP, hl_S_sP, hl_T_sI, hl_N_sI, hl_F_sI, hl_P_sI, hl_R_sI, hl_S_sI, hl_T_sR, hl_N_sR, hl_F_sR, hl_P_sR, hl_I_sR, hl_S_sR, hl_T_wI, hl_N_wI, hl_F_wI, hl_P_wI, hl_R_wI, hl_S_wI, hl_F_sF_s, hl_F_sF_n, hl_P_sP_s, hl_P_sP_n, hl_I_sI_s, hl_I_sI_n, hl_R_sR_s, hl_R_sR_n, hl_I_wI_s, hl_I_wI_n, Int.natCast_add, Int.natCast_one]
  · obtain ⟨v1, v2, v3, v4, v5⟩ := hA v hv
    exact ⟨v1, kV_sm v2 (sm _ _ (by omega)), v3, v4, v5⟩
  · obtain ⟨p1, p2, p3, p4⟩ := hQ p hp
    exact ⟨p1, kP_sm p2 (sm _ _ (by omega)), p3, p4⟩
theorem q6_findStore {h : AH} {x d n : Nat} {bd : Int} {D : List Int} {V : List VR} {Q : List (List HK)} (hK : KI h x (D, V, Q, d)) (oV : OV V) (hn : 1 ≤ n ∧ n ≤ 6 ∧ n ≤ V.length) (hb : 1 ≤ bd ∧ bd ≤ 999) (hd : d ≤ 30) : ∃ h', X6_findStore x (n : Int) bd h = some ((), h') ∧ KI h' x (D, V, Q, d + 1) ∧ kE h' (x + 30) (stE V n bd) ∧ kBst h' (x + 30) (stE V n bd) (ev (stE V n bd) n [] none) := by
  have hK1 := KI_done hK
  obtain ⟨hR0, nD0, hSc0, A, B, hB0⟩ := id hK
  obtain ⟨hR1, nD1, hSc1, A1, B1, hB1⟩ := id hK1
  have oV1 := oV.1
  have f13 := hB0.2.1.2.2
  dsimp only at f13
  have tx0 := hB0.1.1
  have p12_0 := hB0.1.2.1.2.2.2.2.2.2.2.2.2.2
  obtain ⟨⟨tx1, ⟨-, -, -, -, -, -, -, -, -, -, p12⟩, -⟩, -⟩ := id hB1
  -- clear
  have hLs1 := hSc1.2.2.2.2.2.2.2
  have tl1 := hLs1.1
  have G2 : FRM (ah_sF h x 13 ((d : Int) + 1)) (ah_sF (ah_sF (ah_sF (ah_sF (ah_sF (ah_sF h x 13 ((d : Int) + 1)) (x + 30) 0 (n : Int)) (x + 30) 1 bd) (x + 30) 9 0) (x + 30) 10 0) (x + 30) 11 0) (x + 30) (x + 30 + 8) := by
    have fF : ∀ (g : AH) (k : Nat) (v : Int), FRM g (ah_sF g (x + 30) k v) (x + 30) (x + 30 + 8) := fun g k v => FRM.sF (by omega) (by omega)
    exact ((((fF _ _ _).tr (fF _ _ _) (lo3 := x + 30) (hi3 := x + 30 + 8) (by omega) (by omega) (by omega) (by omega)).tr (fF _ _ _) (lo3 := x + 30) (hi3 := x + 30 + 8) (by omega) (by omega) (by omega) (by omega)).tr (fF _ _ _) (lo3 := x + 30) (hi3 := x + 30 + 8) (by omega) (by omega) (by omega) (by omega)).tr (fF _ _ _) (by omega) (by omega) (by omega) (by omega)
  have e2 : X2_clear (x + 30) (n : Int) bd (ah_sF h x 13 ((d : Int) + 1)) = some ((), ah_sF (ah_sF (ah_sF (ah_sF (ah_sF (ah_sF h x 13 ((d : Int) + 1)) (x + 30) 0 (n : Int)) (x + 30) 1 bd) (x + 30) 9 0) (x + 30) 10 0) (x + 30) 11 0) := by
    have tl0 : ah_T h (x + 30) = 12 := hSc0.2.2.2.2.2.2.2.1
    have m1 : min (n : Int) 6 = (n : Int) := by omega
    have m2 : max (0 : Int) (n : Int) = (n : Int) := by omega
    simp (disch := omega) only [X2_clear, rr_p, rr_bp, rr_bb, rr_0, rr_lt, rr_blt, rr_le, rr_ble, rr_eq, rr_beq, rr_nl_n, rr_nl_s, rr_bnl_n, rr_bnl_s, rr_cond_t, rr_cond_f, rr_bcond_t, rr_bcond_f, rr_bon, rr_bcv, rr_cv, rr_g, rr_gr, rr_si, rr_sz, rr_sr, rr_al, rr_ld, rr_st, rr_rl, rr_rs, rr_ni, rr_nr, rr_z, rr_div, rr_rem, rr_lc, rr_mx, rr_mn, rr_ab, rr_no, gd_t, bc_t, bc_f, gd_tt, bc_tt, bc_ff, or_true, true_or, and_true, true_and, Nat.reduceAdd, hl_T_sF, hl_N_sF, hl_P_sF, hl_I_sF, hl_R_sF, hl_S_sF, hl_T_sP, hl_N_sP, hl_F_sP, hl_I_sP, hl_R_sP, hl_S_sP, hl_T_sI, hl_N_sI, hl_F_sI, hl_P_sI, hl_R_sI, hl_S_sI, hl_T_sR, hl_N_sR, hl_F_sR, hl_P_sR, hl_I_sR, hl_S_sR, hl_T_wI, hl_N_wI, hl_F_wI, hl_P_wI, hl_R_wI, hl_S_wI, hl_F_sF_s, hl_F_sF_n, hl_P_sP_s, hl_P_sP_n, hl_I_sI_s, hl_I_sI_n, hl_R_sR_s, hl_R_sR_n, hl_I_wI_s, hl_I_wI_n, m1, m2]
  have F2a : ah_F (ah_sF (ah_sF (ah_sF (ah_sF (ah_sF (ah_sF h x 13 ((d : Int) + 1)) (x + 30) 0 (n : Int)) (x + 30) 1 bd) (x + 30) 9 0) (x + 30) 10 0) (x + 30) 11 0) (x + 30) 0 = (n : Int) := by simp (disch := omega) only [hl_T_sF, hl_N_sF, hl_P_sF, hl_I_sF, hl_R_sF, hl_S_sF, hl_T_sP, hl_N_sP, hl_F_sP, hl_I_sP, hl_R_sP, hl_S_sP, hl_T_sI, hl_N_sI, hl_F_sI, hl_P_sI, hl_R_sI, hl_S_sI, hl_T_sR, hl_N_sR, hl_F_sR, hl_P_sR, hl_I_sR, hl_S_sR, hl_T_wI, hl_N_wI, hl_F_wI, hl_P_wI, hl_R_wI, hl_S_wI, hl_F_sF_s, hl_F_sF_n, hl_P_sP_s, hl_P_sP_n, hl_I_sI_s, hl_I_sI_n, hl_R_sR_s, hl_R_sR_n, hl_I_wI_s, hl_I_wI_n]
  have F2b : ah_F (ah_sF (ah_sF (ah_sF (ah_sF (ah_sF (ah_sF h x 13 ((d : Int) + 1)) (x + 30) 0 (n : Int)) (x + 30) 1 bd) (x + 30) 9 0) (x + 30) 10 0) (x + 30) 11 0) (x + 30) 1 = bd := by simp (disch := omega) only [hl_T_sF, hl_N_sF, hl_P_sF, hl_I_sF, hl_R_sF, hl_S_sF, hl_T_sP, hl_N_sP, hl_F_sP, hl_I_sP, hl_R_sP, hl_S_sP, hl_T_sI, hl_N_sI, hl_F_sI, hl_P_sI, hl_R_sI, hl_S_sI, hl_T_sR, hl_N_sR, hl_F_sR, hl_P_sR, hl_I_sR, hl_S_sR, hl_T_wI, hl_N_wI, hl_F_wI, hl_P_wI, hl_R_wI, hl_S_wI, hl_F_sF_s, hl_F_sF_n, hl_P_sP_s, hl_P_sP_n, hl_I_sI_s, hl_I_sI_n, hl_R_sR_s, hl_R_sR_n, hl_I_wI_s, hl_I_wI_n]
  have F2c : ah_F (ah_sF (ah_sF (ah_sF (ah_sF (ah_sF (ah_sF h x 13 ((d : Int) + 1)) (x + 30) 0 (n : Int)) (x + 30) 1 bd) (x + 30) 9 0) (x + 30) 10 0) (x + 30) 11 0) (x + 30) 9 = 0 := by simp (disch := omega) only [hl_T_sF, hl_N_sF, hl_P_sF, hl_I_sF, hl_R_sF, hl_S_sF, hl_T_sP, hl_N_sP, hl_F_sP, hl_I_sP, hl_R_sP, hl_S_sP, hl_T_sI, hl_N_sI, hl_F_sI, hl_P_sI, hl_R_sI, hl_S_sI, hl_T_sR, hl_N_sR, hl_F_sR, hl_P_sR, hl_I_sR, hl_S_sR, hl_T_wI, hl_N_wI, hl_F_wI, hl_P_wI, hl_R_wI, hl_S_wI, hl_F_sF_s, hl_F_sF_n, hl_P_sP_s, hl_P_sP_n, hl_I_sI_s, hl_I_sI_n, hl_R_sR_s, hl_R_sR_n, hl_I_wI_s, hl_I_wI_n]
  generalize hg2 : ah_sF (ah_sF (ah_sF (ah_sF (ah_sF (ah_sF h x 13 ((d : Int) + 1)) (x + 30) 0 (n : Int)) (x + 30) 1 bd) (x + 30) 9 0) (x + 30) 10 0) (x + 30) 11 0 = h2 at *
  have hSc2 := KSc_ls hSc1 G2
  have hK2 := KI_scr hK1 G2 (by omega) hSc2
  have hB2 : KB h2 x V Q (d + 1) A1 B1 := KB_fr hB1 G2 (by omega)
  -- rooms and what is asked
  have hL := lp_inv (F := X6_findStore_L21 x (n : Int)) (fun s h' => ∃ i : Nat, s = (i : Int) ∧ i ≤ n ∧ FRM h2 h' (x + 31) (x + 34) ∧ ∀ a : Nat, a < i → ah_I h' (x + 31) (a : Int) = ((vn V a).1.length : Int) + 1 ∧ ah_I h' (x + 33) (a : Int) = (vn V a).2.2.2 ∧ ∀ q : Nat, q < n → ah_I h' (x + 32) ((q : Int) * 6 + (a : Int)) = rm (dW (vn V q).1 (vn V a).1)) (fun s => ((n : Int) - s).toNat) (fun _ h' => FRM h2 h' (x + 31) (x + 34) ∧ ∀ a : Nat, a < n → ah_I h' (x + 31) (a : Int) = ((vn V a).1.length : Int) + 1 ∧ ah_I h' (x + 33) (a : Int) = (vn V a).2.2.2 ∧ ∀ q : Nat, q < n → ah_I h' (x + 32) ((q : Int) * 6 + (a : Int)) = rm (dW (vn V q).1 (vn V a).1)) ?_ mo_N 0 h2 ⟨0, rfl, by omega, FRM.rf, fun a ha => by omega⟩ (by rw [mo_N_v]; omega)
  · obtain ⟨_, h3, e3, g3, q3⟩ := hL
    have hSc3 := KSc_ls hSc2 (g3.tr FRM.rf (lo3 := x + 30) (hi3 := x + 30 + 8) (lo2 := x + 30) (hi2 := x + 30 + 8) (by omega) (by omega) (by omega) (by omega))
    have hK3 := KI_scr hK2 g3 (by omega) hSc3
    have hB3 := KB_fr hB2 g3 (by omega)
    have ok := stE_ok oV hn hb
    have hE3 : kE h3 (x + 30) (stE V n bd) := by
      refine ⟨hSc3.2.2.2.2.2.2.2, ⟨?_, ?_⟩, fun i i0 i1 => ?_, fun i s i0 i1 s0 s1 => ?_, fun i hi => ?_⟩
      · rw [g3.2.2.2.2.2.1 (x + 30) (by omega)]; exact F2a
      · rw [g3.2.2.2.2.2.1 (x + 30) (by omega)]; exact F2b
      · have i1 : i < (n : Int) := i1
        obtain ⟨k, rfl⟩ := Int.eq_ofNat_of_zero_le i0
        rw [show x + 30 + 1 = x + 31 by omega]
        exact (q3 k (by omega)).1
      · have i1 : i < (n : Int) := i1
        have s1 : s < (n : Int) := s1
        obtain ⟨k, rfl⟩ := Int.eq_ofNat_of_zero_le i0
        obtain ⟨q, rfl⟩ := Int.eq_ofNat_of_zero_le s0
        rw [show x + 30 + 2 = x + 32 by omega]
        have := (q3 k (by omega)).2.2 q (by omega)
        show _ = (if (q : Int) < 0 then ((vn V (k : Int).toNat).1.length : Int) + 1 else rm (dW (vn V (q : Int).toNat).1 (vn V (k : Int).toNat).1))
        rw [if_neg (by omega), Int.toNat_natCast, Int.toNat_natCast]; exact this
      · have hi : i < n := hi
        rw [show x + 30 + 3 = x + 33 by omega]
        exact (q3 i hi).2.1
    have tl3 := hE3.1.1
    obtain ⟨h4, e4, f4, b4⟩ := q2_find hE3 ok stE_tri (by rw [g3.2.2.2.2.2.1 (x + 30) (by omega)]; exact F2c)
    have hSc4 := KSc_ls hSc3 f4.1
    have hK4 := KI_scr hK3 f4.1 (by omega) hSc4
    have p12_3 := hB3.1.2.1.2.2.2.2.2.2.2.2.2.2
    have tx3 := hB3.1.1
    refine ⟨h4, ?_, hK4, kE_lf hE3 f4, b4⟩
    simp (disch := omega) only [X6_findStore, rr_p, rr_bp, rr_bb, rr_0, rr_lt, rr_blt, rr_le, rr_ble, rr_eq, rr_beq, rr_nl_n, rr_nl_s, rr_bnl_n, rr_bnl_s, rr_cond_t, rr_cond_f, rr_bcond_t, rr_bcond_f, rr_bon, rr_bcv, rr_cv, rr_g, rr_gr, rr_si, rr_sz, rr_sr, rr_al, rr_ld, rr_st, rr_rl, rr_rs, rr_ni, rr_nr, rr_z, rr_div, rr_rem, rr_lc, rr_mx, rr_mn, rr_ab, rr_no, gd_t, bc_t, bc_f, gd_tt, bc_tt, bc_ff, or_true, true_or, and_true, true_and, Nat.reduceAdd, f13, p12, mo_b_s e2, mo_b_s e3, p12_3, mo_b_s e4]
  · rintro s h' ⟨i, rfl, hi, g1, hq⟩
    have hB' := KB_fr hB2 g1 (by omega)
    obtain ⟨⟨tx', ⟨-, -, -, -, p6', -, -, -, -, -, p12'⟩, -, -, -, -, o7', o8', o9'⟩, -, hA', -, hM', -⟩ := id hB'
    have hSc' := KSc_ls hSc2 (g1.tr FRM.rf (lo3 := x + 30) (hi3 := x + 30 + 8) (lo2 := x + 30) (hi2 := x + 30 + 8) (by omega) (by omega) (by omega) (by omega))
    by_cases ci : i < n
    · left
      have e1 := q6_versionOrNull hB' oV1 (n := (i : Int)) (by unfold am_r; omega)
      rw [if_pos (by omega), Int.toNat_natCast] at e1
      obtain ⟨a1, a2, a3, a4, -⟩ := hA' i (by omega)
      obtain ⟨aT, aP, -, -, -, -, -, aF4, aR, -⟩ := id a2
      have e3 := q4_room aR
      have tR := aR.1
      obtain ⟨tl, ⟨lp2, lp3, lp4, -⟩, ⟨lt1, lt2, lt3, -⟩, ⟨ln1, ln2, ln3, -⟩⟩ := id hSc'.2.2.2.2.2.2.2
      rw [show x + 30 + 1 = x + 31 by omega] at lp2 lt1 ln1
      rw [show x + 30 + 2 = x + 32 by omega] at lp3 lt2 ln2
      rw [show x + 30 + 3 = x + 33 by omega] at lp4 lt3 ln3
      have e4 : X2_setWhole (x + 30) (i : Int) (((vn V i).1.length : Int) + 1) (vn V i).2.2.2 h' = some ((), ah_sI (ah_sI h' (x + 31) (i : Int) (((vn V i).1.length : Int) + 1)) (x + 33) (i : Int) (vn V i).2.2.2) := by
        simp (disch := omega) only [X2_setWhole, rr_p, rr_bp, rr_bb, rr_0, rr_lt, rr_blt, rr_le, rr_ble, rr_eq, rr_beq, rr_nl_n, rr_nl_s, rr_bnl_n, rr_bnl_s, rr_cond_t, rr_cond_f, rr_bcond_t, rr_bcond_f, rr_bon, rr_bcv, rr_cv, rr_g, rr_gr, rr_si, rr_sz, rr_sr, rr_al, rr_ld, rr_st, rr_rl, rr_rs, rr_ni, rr_nr, rr_z, rr_div, rr_rem, rr_lc, rr_mx, rr_mn, rr_ab, rr_no, gd_t, bc_t, bc_f, gd_tt, bc_tt, bc_ff, or_true, true_or, and_true, true_and, Nat.reduceAdd, hl_T_sF, hl_N_sF, hl_P_sF, hl_I_sF, hl_R_sF, hl_S_sF, hl_T_sP, hl_N_sP, hl_F_sP, hl_I_sP, hl_R_sP, hl_S_sP, hl_T_sI, hl_N_sI, hl_F_sI, hl_P_sI, hl_R_sI, hl_S_sI, hl_T_sR, hl_N_sR, hl_F_sR, hl_P_sR, hl_I_sR, hl_S_sR, hl_T_wI, hl_N_wI, hl_F_wI, hl_P_wI, hl_R_wI, hl_S_wI, hl_F_sF_s, hl_F_sF_n, hl_P_sP_s, hl_P_sP_n, hl_I_sI_s, hl_I_sI_n, hl_R_sR_s, hl_R_sR_n, hl_I_wI_s, hl_I_wI_n, lp2, lp4]
      have g4 : FRM h' (ah_sI (ah_sI h' (x + 31) (i : Int) (((vn V i).1.length : Int) + 1)) (x + 33) (i : Int) (vn V i).2.2.2) (x + 31) (x + 34) := (FRM.sI (lo := x + 31) (hi := x + 34) (by omega) (by omega)).tr (FRM.sI (lo := x + 31) (hi := x + 34) (by omega) (by omega)) (by omega) (by omega) (by omega) (by omega)
      have w31 : ah_I (ah_sI (ah_sI h' (x + 31) (i : Int) (((vn V i).1.length : Int) + 1)) (x + 33) (i : Int) (vn V i).2.2.2) (x + 31) (i : Int) = ((vn V i).1.length : Int) + 1 := by simp (disch := omega) only [hl_T_sF, hl_N_sF, hl_P_sF, hl_I_sF, hl_R_sF, hl_S_sF, hl_T_sP, hl_N_sP, hl_F_sP, hl_I_sP, hl_R_sP, hl_S_sP, hl_T_sI, hl_N_sI, hl_F_sI, hl_P_sI, hl_R_sI, hl_S_sI, hl_T_sR, hl_N_sR, hl_F_sR, hl_P_sR, hl_I_sR, hl_S_sR, hl_T_wI, hl_N_wI, hl_F_wI, hl_P_wI, hl_R_wI, hl_S_wI, hl_F_sF_s, hl_F_sF_n, hl_P_sP_s, hl_P_sP_n, hl_I_sI_s, hl_I_sI_n, hl_R_sR_s, hl_R_sR_n, hl_I_wI_s, hl_I_wI_n]
      have w33 : ah_I (ah_sI (ah_sI h' (x + 31) (i : Int) (((vn V i).1.length : Int) + 1)) (x + 33) (i : Int) (vn V i).2.2.2) (x + 33) (i : Int) = (vn V i).2.2.2 := by simp (disch := omega) only [hl_T_sF, hl_N_sF, hl_P_sF, hl_I_sF, hl_R_sF, hl_S_sF, hl_T_sP, hl_N_sP, hl_F_sP, hl_I_sP, hl_R_sP, hl_S_sP, hl_T_sI, hl_N_sI, hl_F_sI, hl_P_sI, hl_R_sI, hl_S_sI, hl_T_sR, hl_N_sR, hl_F_sR, hl_P_sR, hl_I_sR, hl_S_sR, hl_T_wI, hl_N_wI, hl_F_wI, hl_P_wI, hl_R_wI, hl_S_wI, hl_F_sF_s, hl_F_sF_n, hl_P_sP_s, hl_P_sP_n, hl_I_sI_s, hl_I_sI_n, hl_R_sR_s, hl_R_sR_n, hl_I_wI_s, hl_I_wI_n]
      have w31o : ∀ a : Nat, a < i → ah_I (ah_sI (ah_sI h' (x + 31) (i : Int) (((vn V i).1.length : Int) + 1)) (x + 33) (i : Int) (vn V i).2.2.2) (x + 31) (a : Int) = ah_I h' (x + 31) (a : Int) := fun a ha => by simp (disch := omega) only [hl_T_sF, hl_N_sF, hl_P_sF, hl_I_sF, hl_R_sF, hl_S_sF, hl_T_sP, hl_N_sP, hl_F_sP, hl_I_sP, hl_R_sP, hl_S_sP, hl_T_sI, hl_N_sI, hl_F_sI, hl_P_sI, hl_R_sI, hl_S_sI, hl_T_sR, hl_N_sR, hl_F_sR, hl_P_sR, hl_I_sR, hl_S_sR, hl_T_wI, hl_N_wI, hl_F_wI, hl_P_wI, hl_R_wI, hl_S_wI, hl_F_sF_s, hl_F_sF_n, hl_P_sP_s, hl_P_sP_n, hl_I_sI_s, hl_I_sI_n, hl_R_sR_s, hl_R_sR_n, hl_I_wI_s, hl_I_wI_n]
      have w33o : ∀ a : Nat, a < i → ah_I (ah_sI (ah_sI h' (x + 31) (i : Int) (((vn V i).1.length : Int) + 1)) (x + 33) (i : Int) (vn V i).2.2.2) (x + 33) (a : Int) = ah_I h' (x + 33) (a : Int) := fun a ha => by simp (disch := omega) only [hl_T_sF, hl_N_sF, hl_P_sF, hl_I_sF, hl_R_sF, hl_S_sF, hl_T_sP, hl_N_sP, hl_F_sP, hl_I_sP, hl_R_sP, hl_S_sP, hl_T_sI, hl_N_sI, hl_F_sI, hl_P_sI, hl_R_sI, hl_S_sI, hl_T_sR, hl_N_sR, hl_F_sR, hl_P_sR, hl_I_sR, hl_S_sR, hl_T_wI, hl_N_wI, hl_F_wI, hl_P_wI, hl_R_wI, hl_S_wI, hl_F_sF_s, hl_F_sF_n, hl_P_sP_s, hl_P_sP_n, hl_I_sI_s, hl_I_sI_n, hl_R_sR_s, hl_R_sR_n, hl_I_wI_s, hl_I_wI_n]
      have w32o : ah_I (ah_sI (ah_sI h' (x + 31) (i : Int) (((vn V i).1.length : Int) + 1)) (x + 33) (i : Int) (vn V i).2.2.2) (x + 32) = ah_I h' (x + 32) := by
        funext y; simp (disch := omega) only [hl_T_sF, hl_N_sF, hl_P_sF, hl_I_sF, hl_R_sF, hl_S_sF, hl_T_sP, hl_N_sP, hl_F_sP, hl_I_sP, hl_R_sP, hl_S_sP, hl_T_sI, hl_N_sI, hl_F_sI, hl_P_sI, hl_R_sI, hl_S_sI, hl_T_sR, hl_N_sR, hl_F_sR, hl_P_sR, hl_I_sR, hl_S_sR, hl_T_wI, hl_N_wI, hl_F_wI, hl_P_wI, hl_R_wI, hl_S_wI, hl_F_sF_s, hl_F_sF_n, hl_P_sP_s, hl_P_sP_n, hl_I_sI_s, hl_I_sI_n, hl_R_sR_s, hl_R_sR_n, hl_I_wI_s, hl_I_wI_n]
      generalize hg5 : ah_sI (ah_sI h' (x + 31) (i : Int) (((vn V i).1.length : Int) + 1)) (x + 33) (i : Int) (vn V i).2.2.2 = h5 at *
      have hL2 := lp_inv (F := X6_findStore_L62 x (n : Int) (i : Int)) (fun s h'' => ∃ k : Nat, s = (k : Int) ∧ k ≤ n ∧ FRM h5 h'' (x + 32) (x + 33) ∧ (∀ q : Nat, q < k → ah_I h'' (x + 32) ((q : Int) * 6 + (i : Int)) = rm (dW (vn V q).1 (vn V i).1)) ∧ ∀ a q : Nat, a < i → q < n → ah_I h'' (x + 32) ((q : Int) * 6 + (a : Int)) = ah_I h5 (x + 32) ((q : Int) * 6 + (a : Int))) (fun s => ((n : Int) - s).toNat) (fun _ h'' => FRM h5 h'' (x + 32) (x + 33) ∧ (∀ q : Nat, q < n → ah_I h'' (x + 32) ((q : Int) * 6 + (i : Int)) = rm (dW (vn V q).1 (vn V i).1)) ∧ ∀ a q : Nat, a < i → q < n → ah_I h'' (x + 32) ((q : Int) * 6 + (a : Int)) = ah_I h5 (x + 32) ((q : Int) * 6 + (a : Int))) ?_ mo_N 0 h5 ⟨0, rfl, by omega, FRM.rf, fun q hq => by omega, fun a q _ _ => rfl⟩ (by rw [mo_N_v]; omega)
      · obtain ⟨_, h6, e6, g6, q6, r6⟩ := hL2
        refine ⟨(i : Int) + 1, h6, by simp (disch := omega) only [X6_findStore_L21, rr_p, rr_bp, rr_bb, rr_0, rr_lt, rr_blt, rr_le, rr_ble, rr_eq, rr_beq, rr_nl_n, rr_nl_s, rr_bnl_n, rr_bnl_s, rr_cond_t, rr_cond_f, rr_bcond_t, rr_bcond_f, rr_bon, rr_bcv, rr_cv, rr_g, rr_gr, rr_si, rr_sz, rr_sr, rr_al, rr_ld, rr_st, rr_rl, rr_rs, rr_ni, rr_nr, rr_z, rr_div, rr_rem, rr_lc, rr_mx, rr_mn, rr_ab, rr_no, gd_t, bc_t, bc_f, gd_tt, bc_tt, bc_ff, or_true, true_or, and_true, true_and, Nat.reduceAdd, mo_b_s e1, p12', aP, mo_b_s e3, aF4, mo_b_s e4, mo_b_s e6], ⟨i + 1, by simp, by omega, (g1.tr g4 (lo3 := x + 31) (hi3 := x + 34) (by omega) (by omega) (by omega) (by omega)).tr g6 (by omega) (by omega) (by omega) (by omega), fun a ha => ?_⟩, by omega⟩
        rw [g6.2.2.2.2.2.2 (x + 31) (by omega), g6.2.2.2.2.2.2 (x + 33) (by omega)]
        by_cases ca : a = i
        · subst ca
          exact ⟨w31, w33, q6⟩
        · obtain ⟨b1, b2, b3⟩ := hq a (by omega)
          exact ⟨by rw [w31o a (by omega)]; exact b1, by rw [w33o a (by omega)]; exact b2, fun q hqn => by rw [r6 a q (by omega) hqn, w32o]; exact b3 q hqn⟩
      · rintro s h6 ⟨k, rfl, hk1, g6, q6, r6⟩
        have hB6 := KB_fr (KB_fr hB' g4 (by omega)) g6 (by omega)
        obtain ⟨⟨tx6, ⟨-, -, -, -, p66, -, -, -, -, -, p126⟩, -, -, -, -, o76, o86, -⟩, -, -, -, hM6, -⟩ := id hB6
        have tl6 : ah_T h6 (x + 30) = 12 := by rw [g6.1, g4.1]; exact tl
        have lp36 : ah_P h6 (x + 30) 3 = some (x + 32) := by rw [g6.2.2.1, g4.2.2.1]; exact lp3
        have lt26 : ah_T h6 (x + 32) = 1 := by rw [g6.1, g4.1]; exact lt2
        have ln26 : ah_N h6 (x + 32) = 36 := by rw [g6.2.1, g4.2.1]; exact ln2
        by_cases ck : k < n
        · left
          have m6 := hM6 k i (by omega) (by omega)
          have e7 : X6_differenceRoom x (k : Int) (i : Int) h6 = some (rm (dW (vn V k).1 (vn V i).1), h6) := by simp (disch := omega) only [X6_differenceRoom, rr_p, rr_bp, rr_bb, rr_0, rr_lt, rr_blt, rr_le, rr_ble, rr_eq, rr_beq, rr_nl_n, rr_nl_s, rr_bnl_n, rr_bnl_s, rr_cond_t, rr_cond_f, rr_bcond_t, rr_bcond_f, rr_bon, rr_bcv, rr_cv, rr_g, rr_gr, rr_si, rr_sz, rr_sr, rr_al, rr_ld, rr_st, rr_rl, rr_rs, rr_ni, rr_nr, rr_z, rr_div, rr_rem, rr_lc, rr_mx, rr_mn, rr_ab, rr_no, gd_t, bc_t, bc_f, gd_tt, bc_tt, bc_ff, or_true, true_or, and_true, true_and, Nat.reduceAdd, p66, m6]
          have e8 : X2_setPatch (x + 30) (i : Int) (k : Int) (rm (dW (vn V k).1 (vn V i).1)) h6 = some ((), ah_sI h6 (x + 32) ((k : Int) * 6 + (i : Int)) (rm (dW (vn V k).1 (vn V i).1))) := by simp (disch := omega) only [X2_setPatch, rr_p, rr_bp, rr_bb, rr_0, rr_lt, rr_blt, rr_le, rr_ble, rr_eq, rr_beq, rr_nl_n, rr_nl_s, rr_bnl_n, rr_bnl_s, rr_cond_t, rr_cond_f, rr_bcond_t, rr_bcond_f, rr_bon, rr_bcv, rr_cv, rr_g, rr_gr, rr_si, rr_sz, rr_sr, rr_al, rr_ld, rr_st, rr_rl, rr_rs, rr_ni, rr_nr, rr_z, rr_div, rr_rem, rr_lc, rr_mx, rr_mn, rr_ab, rr_no, gd_t, bc_t, bc_f, gd_tt, bc_tt, bc_ff, or_true, true_or, and_true, true_and, Nat.reduceAdd, lp36]
          refine ⟨(k : Int) + 1, ah_sI h6 (x + 32) ((k : Int) * 6 + (i : Int)) (rm (dW (vn V k).1 (vn V i).1)), by simp (disch := omega) only [X6_findStore_L62, rr_p, rr_bp, rr_bb, rr_0, rr_lt, rr_blt, rr_le, rr_ble, rr_eq, rr_beq, rr_nl_n, rr_nl_s, rr_bnl_n, rr_bnl_s, rr_cond_t, rr_cond_f, rr_bcond_t, rr_bcond_f, rr_bon, rr_bcv, rr_cv, rr_g, rr_gr, rr_si, rr_sz, rr_sr, rr_al, rr_ld, rr_st, rr_rl, rr_rs, rr_ni, rr_nr, rr_z, rr_div, rr_rem, rr_lc, rr_mx, rr_mn, rr_ab, rr_no, gd_t, bc_t, bc_f, gd_tt, bc_tt, bc_ff, or_true, true_or, and_true, true_and, Nat.reduceAdd, p126, mo_b_s e7, mo_b_s e8], ⟨k + 1, by simp, by omega, g6.tr (FRM.sI (lo := x + 32) (hi := x + 33) (by omega) (by omega)) (by omega) (by omega) (by omega) (by omega), fun q hq2 => ?_, fun a q ha hq2 => ?_⟩, by omega⟩
          · by_cases cq : q = k
            · subst cq; rw [hl_I_sI_s]
            · rw [hl_I_sI_n (Or.inr (by omega))]; exact q6 q (by omega)
          · rw [hl_I_sI_n (Or.inr (by omega))]; exact r6 a q ha hq2
        · right
          exact ⟨(), h6, by simp (disch := omega) only [X6_findStore_L62, rr_p, rr_bp, rr_bb, rr_0, rr_lt, rr_blt, rr_le, rr_ble, rr_eq, rr_beq, rr_nl_n, rr_nl_s, rr_bnl_n, rr_bnl_s, rr_cond_t, rr_cond_f, rr_bcond_t, rr_bcond_f, rr_bon, rr_bcv, rr_cv, rr_g, rr_gr, rr_si, rr_sz, rr_sr, rr_al, rr_ld, rr_st, rr_rl, rr_rs, rr_ni, rr_nr, rr_z, rr_div, rr_rem, rr_lc, rr_mx, rr_mn, rr_ab, rr_no, gd_t, bc_t, bc_f, gd_tt, bc_tt, bc_ff, or_true, true_or, and_true, true_and, Nat.reduceAdd], g6, fun q hq2 => q6 q (by omega), r6⟩
    · right
      exact ⟨(), h', by simp (disch := omega) only [X6_findStore_L21, rr_p, rr_bp, rr_bb, rr_0, rr_lt, rr_blt, rr_le, rr_ble, rr_eq, rr_beq, rr_nl_n, rr_nl_s, rr_bnl_n, rr_bnl_s, rr_cond_t, rr_cond_f, rr_bcond_t, rr_bcond_f, rr_bon, rr_bcv, rr_cv, rr_g, rr_gr, rr_si, rr_sz, rr_sr, rr_al, rr_ld, rr_st, rr_rl, rr_rs, rr_ni, rr_nr, rr_z, rr_div, rr_rem, rr_lc, rr_mx, rr_mn, rr_ab, rr_no, gd_t, bc_t, bc_f, gd_tt, bc_tt, bc_ff, or_true, true_or, and_true, true_and, Nat.reduceAdd], g1, fun a ha => hq a (by omega)⟩
