theorem pow_b {n : Nat} (h1 : 1 ≤ n) (h2 : n ≤ 6) : n ^ n ≤ 46656 := by
  have : n = 1 ∨ n = 2 ∨ n = 3 ∨ n = 4 ∨ n = 5 ∨ n = 6 := by omega
  rcases this with rfl | rfl | rfl | rfl | rfl | rfl <;> decide
theorem MI_done {h : AH} {m d : Nat} {D : List Int} {V : List VR} {Q : List (List HK)} (hM : MI h m (D, V, Q, d)) : MI (ah_sF h m 15 ((d : Int) + 1)) m (D, V, Q, d + 1) := by
  have F : MF m 30 30 15 16 h (ah_sF h m 15 ((d : Int) + 1)) := MF.sF (by omega) (by omega)
  exact ⟨mS_fr hM.1 F, mDesk_fr hM.2.1 F (by omega), mVer_fr hM.2.2.1 F (by omega), mPat_fr hM.2.2.2.1 F (by omega), by rw [hl_F_sF_s]; dsimp only; omega⟩
theorem q7_layStore {h : AH} {m n : Nat} {bd : Int} {s : SG} (hM : MI h m s) (ho : OKS s) (hn : 1 ≤ n ∧ n ≤ 6 ∧ n ≤ s.2.1.length) (hb : 1 ≤ bd ∧ bd ≤ 999) : ∃ h', X7_layStore m (n : Int) bd h = some ((), h') ∧ MI h' m s ∧ mE h' m (stE s.2.1 n bd) ∧ mBst h' m (stE s.2.1 n bd) (ev (stE s.2.1 n bd) n [] none) := by
  have oV1 := ho.2.1.1
  have ok := stE_ok (bd := bd) ho.2.1 hn hb
  have hL := lp_inv (F := X7_layStore_L2 m (n : Int)) (fun t h' => ∃ i : Nat, t = (i : Int) ∧ i ≤ n ∧ MI h' m s ∧ ∀ a b : Nat, a < i → b < n → ah_I h' (m + 25) (6 * (a : Int) + (b : Int)) = if a = b then ((vn s.2.1 a).1.length : Int) + 1 else rm (dW (vn s.2.1 b).1 (vn s.2.1 a).1)) (fun t => ((n : Int) - t).toNat) (fun _ h' => MI h' m s ∧ ∀ a b : Nat, a < n → b < n → ah_I h' (m + 25) (6 * (a : Int) + (b : Int)) = if a = b then ((vn s.2.1 a).1.length : Int) + 1 else rm (dW (vn s.2.1 b).1 (vn s.2.1 a).1)) ?_ mo_N 0 h ⟨0, rfl, by omega, hM, fun a b ha => by omega⟩ (by rw [mo_N_v]; omega)
  · obtain ⟨_, h1, e1, hM1, q1⟩ := hL
    have mT1 := hM1.1.1
    have F2 : MF m 30 30 41 42 h1 (ah_sF h1 m 41 0) := MF.sF (by omega) (by omega)
    have hM2 := MI_fr hM1 F2 (by omega)
    have mT2 := hM2.1.1
    have hE2 : mE (ah_sF h1 m 41 0) m (stE s.2.1 n bd) := by
      refine ⟨hM2.1, fun i k i0 i1 k0 k1 => ?_, fun i hi => ?_⟩
      · have i1 : i < (n : Int) := i1
        have k1 : k < (n : Int) := k1
        obtain ⟨a, rfl⟩ := Int.eq_ofNat_of_zero_le i0
        obtain ⟨b, rfl⟩ := Int.eq_ofNat_of_zero_le k0
        have := q1 a b (by omega) (by omega)
        rw [hl_I_sF, this]
        by_cases c : a = b
        · rw [if_pos c, if_pos (by omega)]
          show _ = (if (-1 : Int) < 0 then ((vn s.2.1 (a : Int).toNat).1.length : Int) + 1 else rm (dW (vn s.2.1 (-1 : Int).toNat).1 (vn s.2.1 (a : Int).toNat).1))
          rw [if_pos (by omega), Int.toNat_natCast]
        · rw [if_neg c, if_neg (by omega)]
          show _ = (if (b : Int) < 0 then ((vn s.2.1 (a : Int).toNat).1.length : Int) + 1 else rm (dW (vn s.2.1 (b : Int).toNat).1 (vn s.2.1 (a : Int).toNat).1))
          rw [if_neg (by omega), Int.toNat_natCast, Int.toNat_natCast]
      · have hi : i < n := hi
        have := (mVer_l hM2.2.2.1 (v := (i : Int)) (by omega) (by omega)).2.2.2
        rw [Int.toNat_natCast] at this; exact this
    have hB2 : mBst (ah_sF h1 m 41 0) m (stE s.2.1 n bd) none := by show ah_F (ah_sF h1 m 41 0) m 41 = 0; rw [hl_F_sF_s]
    -- how many codes
    have hs := lp_seq (F := X7_layStore_L78 (n : Int)) (fun j : Nat => (((n ^ j : Nat) : Int), (j : Int))) (fun _ => ah_sF h1 m 41 0) n (b := ((n ^ n : Nat) : Int)) (hE := ah_sF h1 m 41 0) (fun j hj => by
      simp (disch := omega) only [X7_layStore_L78, rr_p, rr_bp, rr_bb, rr_0, rr_lt, rr_blt, rr_le, rr_ble, rr_eq, rr_beq, rr_nl_n, rr_nl_s, rr_bnl_n, rr_bnl_s, rr_cond_t, rr_cond_f, rr_bcond_t, rr_bcond_f, rr_bon, rr_bcv, rr_cv, rr_g, rr_gr, rr_si, rr_sz, rr_sr, rr_al, rr_ld, rr_st, rr_rl, rr_rs, rr_ni, rr_nr, rr_z, rr_div, rr_rem, rr_lc, rr_mx, rr_mn, rr_ab, rr_no, gd_t, bc_t, bc_f, gd_tt, bc_tt, bc_ff, or_true, true_or, and_true, true_and, Nat.reduceAdd]
      rw [Nat.pow_succ, Int.natCast_mul, Int.natCast_add, Int.natCast_one]) (by simp (disch := omega) only [X7_layStore_L78, rr_p, rr_bp, rr_bb, rr_0, rr_lt, rr_blt, rr_le, rr_ble, rr_eq, rr_beq, rr_nl_n, rr_nl_s, rr_bnl_n, rr_bnl_s, rr_cond_t, rr_cond_f, rr_bcond_t, rr_bcond_f, rr_bon, rr_bcv, rr_cv, rr_g, rr_gr, rr_si, rr_sz, rr_sr, rr_al, rr_ld, rr_st, rr_rl, rr_rs, rr_ni, rr_nr, rr_z, rr_div, rr_rem, rr_lc, rr_mx, rr_mn, rr_ab, rr_no, gd_t, bc_t, bc_f, gd_tt, bc_tt, bc_ff, or_true, true_or, and_true, true_and, Nat.reduceAdd]) mo_N (by rw [mo_N_v]; omega)
    have hs : mo_lp mo_N (X7_layStore_L78 (n : Int)) (1, 0) (ah_sF h1 m 41 0) = some (((n ^ n : Nat) : Int), ah_sF h1 m 41 0) := by
      rw [Nat.pow_zero] at hs; exact hs
    have pb := pow_b hn.1 hn.2.1
    generalize hN : n ^ n = N at *
    have hL3 := lp_inv (F := X7_layStore_L97 (N : Int) m (n : Int) bd) (fun t h' => ∃ c : Nat, t = (c : Int) ∧ c ≤ N ∧ MI h' m s ∧ mE h' m (stE s.2.1 n bd) ∧ mBst h' m (stE s.2.1 n bd) ((List.range c).foldl (fun b c => updB (stE s.2.1 n bd) b ([] ++ dc n n 0 c)) none)) (fun t => ((N : Int) - t).toNat) (fun _ h' => MI h' m s ∧ mE h' m (stE s.2.1 n bd) ∧ mBst h' m (stE s.2.1 n bd) ((List.range N).foldl (fun b c => updB (stE s.2.1 n bd) b ([] ++ dc n n 0 c)) none)) ?_ mo_N 0 (ah_sF h1 m 41 0) ⟨0, rfl, by omega, hM2, hE2, hB2⟩ (by rw [mo_N_v]; omega)
    · obtain ⟨_, h3, e3, q2, q3, q4⟩ := hL3
      refine ⟨h3, by simp (disch := omega) only [X7_layStore, rr_p, rr_bp, rr_bb, rr_0, rr_lt, rr_blt, rr_le, rr_ble, rr_eq, rr_beq, rr_nl_n, rr_nl_s, rr_bnl_n, rr_bnl_s, rr_cond_t, rr_cond_f, rr_bcond_t, rr_bcond_f, rr_bon, rr_bcv, rr_cv, rr_g, rr_gr, rr_si, rr_sz, rr_sr, rr_al, rr_ld, rr_st, rr_rl, rr_rs, rr_ni, rr_nr, rr_z, rr_div, rr_rem, rr_lc, rr_mx, rr_mn, rr_ab, rr_no, gd_t, bc_t, bc_f, gd_tt, bc_tt, bc_ff, or_true, true_or, and_true, true_and, Nat.reduceAdd, mo_b_s e1, mo_b_s hs, mo_b_s e3], q2, q3, ?_⟩
      have hcode := ev_code (E := stE s.2.1 n bd) hn.1 n [] none
      rw [show (stE s.2.1 n bd).1 = n from rfl, hN] at hcode
      rw [hcode]; exact q4
    · rintro t h' ⟨c, rfl, hc, hM', hE', hB'⟩
      have mT' := hM'.1.1
      by_cases cc : c < N
      · left
        obtain ⟨h2, e2, a2, f2⟩ := q7_layCode (c := c) hM'.1 ⟨hn.1, hn.2.1⟩ (by rw [hN]; exact cc) (by omega)
        have hM2 := MI_fr hM' f2 (by omega)
        have hE2 := mE_fr hE' f2 (by omega)
        have hB2 := mBst_fr hB' f2 (by omega)
        have mT2 := hM2.1.1
        have hsR0 : sR n (dc n n 0 c) := dc_sR hn.1 (by rw [hN]; exact cc)
        have hsR : sR (stE s.2.1 n bd).1 (dc n n 0 c) := hsR0
        obtain ⟨h3, e3, f3, a3⟩ := q7_layRemade hE2 ok hsR a2
        have hM3 := MI_fr hM2 f3 (by omega)
        have hE3 := mE_fr hE2 f3 (by omega)
        have hB3 := mBst_fr hB2 f3 (by omega)
        have mT3 := hM3.1.1
        have e3 : X7_layRemade m (n : Int) h2 = _ := e3
        by_cases ca : acy (stE s.2.1 n bd) (dc n n 0 c)
        · rw [bc_t ca] at e3
          obtain ⟨h4, e4, b4, f4⟩ := q7_look hE3 ok hsR ca (fun j j0 j1 => by rw [f3.2.2.2.2.1 26 (by omega)]; exact a2 j j0 j1) (a3 ca) hB3
          have e4 : X7_look m (n : Int) bd h3 = some ((), h4) := e4
          refine ⟨(c : Int) + 1, h4, by simp (disch := omega) only [X7_layStore_L97, rr_p, rr_bp, rr_bb, rr_0, rr_lt, rr_blt, rr_le, rr_ble, rr_eq, rr_beq, rr_nl_n, rr_nl_s, rr_bnl_n, rr_bnl_s, rr_cond_t, rr_cond_f, rr_bcond_t, rr_bcond_f, rr_bon, rr_bcv, rr_cv, rr_g, rr_gr, rr_si, rr_sz, rr_sr, rr_al, rr_ld, rr_st, rr_rl, rr_rs, rr_ni, rr_nr, rr_z, rr_div, rr_rem, rr_lc, rr_mx, rr_mn, rr_ab, rr_no, gd_t, bc_t, bc_f, gd_tt, bc_tt, bc_ff, or_true, true_or, and_true, true_and, Nat.reduceAdd, mo_b_s e2, mo_b_s e3, mo_b_s e4], ⟨c + 1, by simp, by omega, MI_fr hM3 f4 (by omega), mE_fr hE3 f4 (by omega), ?_⟩, by omega⟩
          rw [range_fold]; exact b4
        · rw [bc_f ca] at e3
          refine ⟨(c : Int) + 1, h3, by simp (disch := omega) only [X7_layStore_L97, rr_p, rr_bp, rr_bb, rr_0, rr_lt, rr_blt, rr_le, rr_ble, rr_eq, rr_beq, rr_nl_n, rr_nl_s, rr_bnl_n, rr_bnl_s, rr_cond_t, rr_cond_f, rr_bcond_t, rr_bcond_f, rr_bon, rr_bcv, rr_cv, rr_g, rr_gr, rr_si, rr_sz, rr_sr, rr_al, rr_ld, rr_st, rr_rl, rr_rs, rr_ni, rr_nr, rr_z, rr_div, rr_rem, rr_lc, rr_mx, rr_mn, rr_ab, rr_no, gd_t, bc_t, bc_f, gd_tt, bc_tt, bc_ff, or_true, true_or, and_true, true_and, Nat.reduceAdd, mo_b_s e2, mo_b_s e3], ⟨c + 1, by simp, by omega, hM3, hE3, ?_⟩, by omega⟩
          rw [range_fold]
          generalize (List.range c).foldl (fun b c => updB (stE s.2.1 n bd) b ([] ++ dc n n 0 c)) none = b at hB3 ⊢
          have : updB (stE s.2.1 n bd) b ([] ++ dc n n 0 c) = b := bc_f (fun z => ca z.1.1)
          rw [this]; exact hB3
      · right
        have : c = N := by omega
        subst this
        exact ⟨(), h', by simp (disch := omega) only [X7_layStore_L97, rr_p, rr_bp, rr_bb, rr_0, rr_lt, rr_blt, rr_le, rr_ble, rr_eq, rr_beq, rr_nl_n, rr_nl_s, rr_bnl_n, rr_bnl_s, rr_cond_t, rr_cond_f, rr_bcond_t, rr_bcond_f, rr_bon, rr_bcv, rr_cv, rr_g, rr_gr, rr_si, rr_sz, rr_sr, rr_al, rr_ld, rr_st, rr_rl, rr_rs, rr_ni, rr_nr, rr_z, rr_div, rr_rem, rr_lc, rr_mx, rr_mn, rr_ab, rr_no, gd_t, bc_t, bc_f, gd_tt, bc_tt, bc_ff, or_true, true_or, and_true, true_and, Nat.reduceAdd], hM', hE', hB'⟩
  · rintro t h' ⟨i, rfl, hi, hM', hq⟩
    have mT' := hM'.1.1
    by_cases ci : i < n
    · left
      have hL2 := lp_inv (F := X7_layStore_L10 m (n : Int) (i : Int)) (fun t h'' => ∃ k : Nat, t = (k : Int) ∧ k ≤ n ∧ MI h'' m s ∧ (∀ a b : Nat, a < i → b < n → ah_I h'' (m + 25) (6 * (a : Int) + (b : Int)) = if a = b then ((vn s.2.1 a).1.length : Int) + 1 else rm (dW (vn s.2.1 b).1 (vn s.2.1 a).1)) ∧ ∀ b : Nat, b < k → ah_I h'' (m + 25) (6 * (i : Int) + (b : Int)) = if i = b then ((vn s.2.1 i).1.length : Int) + 1 else rm (dW (vn s.2.1 b).1 (vn s.2.1 i).1)) (fun t => ((n : Int) - t).toNat) (fun _ h'' => MI h'' m s ∧ (∀ a b : Nat, a < i → b < n → ah_I h'' (m + 25) (6 * (a : Int) + (b : Int)) = if a = b then ((vn s.2.1 a).1.length : Int) + 1 else rm (dW (vn s.2.1 b).1 (vn s.2.1 a).1)) ∧ ∀ b : Nat, b < n → ah_I h'' (m + 25) (6 * (i : Int) + (b : Int)) = if i = b then ((vn s.2.1 i).1.length : Int) + 1 else rm (dW (vn s.2.1 b).1 (vn s.2.1 i).1)) ?_ mo_N 0 h' ⟨0, rfl, by omega, hM', hq, fun b hb2 => by omega⟩ (by rw [mo_N_v]; omega)
      · obtain ⟨_, h2, e2, q1, q2, q3⟩ := hL2
        refine ⟨(i : Int) + 1, h2, by simp (disch := omega) only [X7_layStore_L2, rr_p, rr_bp, rr_bb, rr_0, rr_lt, rr_blt, rr_le, rr_ble, rr_eq, rr_beq, rr_nl_n, rr_nl_s, rr_bnl_n, rr_bnl_s, rr_cond_t, rr_cond_f, rr_bcond_t, rr_bcond_f, rr_bon, rr_bcv, rr_cv, rr_g, rr_gr, rr_si, rr_sz, rr_sr, rr_al, rr_ld, rr_st, rr_rl, rr_rs, rr_ni, rr_nr, rr_z, rr_div, rr_rem, rr_lc, rr_mx, rr_mn, rr_ab, rr_no, gd_t, bc_t, bc_f, gd_tt, bc_tt, bc_ff, or_true, true_or, and_true, true_and, Nat.reduceAdd, mo_b_s e2], ⟨i + 1, by simp, by omega, q1, fun a b ha hb2 => ?_⟩, by omega⟩
        by_cases z : a = i
        · subst z; exact q3 b hb2
        · exact q2 a b (by omega) hb2
      · rintro t h2 ⟨k, rfl, hk1, hM2, q1, q2⟩
        have mT2 := hM2.1.1
        by_cases ck : k < n
        · left
          obtain ⟨l1, l2, -⟩ := ho.2.1.2 k (by omega)
          obtain ⟨k1, k2, -⟩ := ho.2.1.2 i (by omega)
          have hR := MI_rows hM2 ho (u := (k : Int)) (v := (i : Int)) (by omega) (by omega)
          rw [Int.toNat_natCast, Int.toNat_natCast] at hR
          obtain ⟨h3, e3, w3, -, -, f3⟩ := q7_layDifference hR (wL_pL l2) (wL_pL k2) l1 k1
          have hM3 := MI_fr hM2 f3 (by omega)
          have mT3 := hM3.1.1
          obtain ⟨p2, t2, n2⟩ := ms2 hM3.1
          obtain ⟨p25, t25, n25⟩ := ms25 hM3.1
          have hl := (mVer_l hM3.2.2.1 (v := (i : Int)) (by omega) (by omega)).1
          rw [Int.toNat_natCast] at hl
          obtain ⟨⟨z1, z2, z3⟩, -⟩ := id w3
          have e4 : X7_workRoom m h3 = some (rm (dW (vn s.2.1 k).1 (vn s.2.1 i).1), h3) := by
            simp (disch := omega) only [X7_workRoom, rr_p, rr_bp, rr_bb, rr_0, rr_lt, rr_blt, rr_le, rr_ble, rr_eq, rr_beq, rr_nl_n, rr_nl_s, rr_bnl_n, rr_bnl_s, rr_cond_t, rr_cond_f, rr_bcond_t, rr_bcond_f, rr_bon, rr_bcv, rr_cv, rr_g, rr_gr, rr_si, rr_sz, rr_sr, rr_al, rr_ld, rr_st, rr_rl, rr_rs, rr_ni, rr_nr, rr_z, rr_div, rr_rem, rr_lc, rr_mx, rr_mn, rr_ab, rr_no, gd_t, bc_t, bc_f, gd_tt, bc_tt, bc_ff, or_true, true_or, and_true, true_and, Nat.reduceAdd, z1, z3, rm]
          have key : ∀ v : Int, v = (if i = k then ((vn s.2.1 i).1.length : Int) + 1 else rm (dW (vn s.2.1 k).1 (vn s.2.1 i).1)) → X7_layStore_L10 m (n : Int) (i : Int) (k : Int) h2 = some (.inl ((k : Int) + 1), ah_sI h3 (m + 25) (6 * (i : Int) + (k : Int)) v) := by
            intro v hv
            by_cases z : i = k
            · rw [if_pos z] at hv
              subst hv
              simp (disch := omega) only [X7_layStore_L10, rr_p, rr_bp, rr_bb, rr_0, rr_lt, rr_blt, rr_le, rr_ble, rr_eq, rr_beq, rr_nl_n, rr_nl_s, rr_bnl_n, rr_bnl_s, rr_cond_t, rr_cond_f, rr_bcond_t, rr_bcond_f, rr_bon, rr_bcv, rr_cv, rr_g, rr_gr, rr_si, rr_sz, rr_sr, rr_al, rr_ld, rr_st, rr_rl, rr_rs, rr_ni, rr_nr, rr_z, rr_div, rr_rem, rr_lc, rr_mx, rr_mn, rr_ab, rr_no, gd_t, bc_t, bc_f, gd_tt, bc_tt, bc_ff, or_true, true_or, and_true, true_and, Nat.reduceAdd, mo_b_s e3, p2, p25, hl]
            · rw [if_neg z] at hv
              subst hv
              simp (disch := omega) only [X7_layStore_L10, rr_p, rr_bp, rr_bb, rr_0, rr_lt, rr_blt, rr_le, rr_ble, rr_eq, rr_beq, rr_nl_n, rr_nl_s, rr_bnl_n, rr_bnl_s, rr_cond_t, rr_cond_f, rr_bcond_t, rr_bcond_f, rr_bon, rr_bcv, rr_cv, rr_g, rr_gr, rr_si, rr_sz, rr_sr, rr_al, rr_ld, rr_st, rr_rl, rr_rs, rr_ni, rr_nr, rr_z, rr_div, rr_rem, rr_lc, rr_mx, rr_mn, rr_ab, rr_no, gd_t, bc_t, bc_f, gd_tt, bc_tt, bc_ff, or_true, true_or, and_true, true_and, Nat.reduceAdd, mo_b_s e3, p25, mo_b_s e4]
          have f4 : MF m 25 26 35 35 h3 (ah_sI h3 (m + 25) (6 * (i : Int) + (k : Int)) (if i = k then ((vn s.2.1 i).1.length : Int) + 1 else rm (dW (vn s.2.1 k).1 (vn s.2.1 i).1))) := MF.sI (by omega) (by omega)
          refine ⟨(k : Int) + 1, _, key _ rfl, ⟨k + 1, by simp, by omega, MI_fr hM3 f4 (by omega), fun a b ha hb2 => ?_, fun b hb2 => ?_⟩, by omega⟩
          · rw [hl_I_sI_n (Or.inr (by omega)), f3.2.2.2.2.1 25 (by omega)]; exact q1 a b ha hb2
          · by_cases z : b = k
            · subst z; rw [hl_I_sI_s]
            · rw [hl_I_sI_n (Or.inr (by omega)), f3.2.2.2.2.1 25 (by omega)]; exact q2 b (by omega)
        · right
          exact ⟨(), h2, by simp (disch := omega) only [X7_layStore_L10, rr_p, rr_bp, rr_bb, rr_0, rr_lt, rr_blt, rr_le, rr_ble, rr_eq, rr_beq, rr_nl_n, rr_nl_s, rr_bnl_n, rr_bnl_s, rr_cond_t, rr_cond_f, rr_bcond_t, rr_bcond_f, rr_bon, rr_bcv, rr_cv, rr_g, rr_gr, rr_si, rr_sz, rr_sr, rr_al, rr_ld, rr_st, rr_rl, rr_rs, rr_ni, rr_nr, rr_z, rr_div, rr_rem, rr_lc, rr_mx, rr_mn, rr_ab, rr_no, gd_t, bc_t, bc_f, gd_tt, bc_tt, bc_ff, or_true, true_or, and_true, true_and, Nat.reduceAdd], hM2, q1, fun b hb2 => q2 b (by omega)⟩
    · right
      exact ⟨(), h', by simp (disch := omega) only [X7_layStore_L2, rr_p, rr_bp, rr_bb, rr_0, rr_lt, rr_blt, rr_le, rr_ble, rr_eq, rr_beq, rr_nl_n, rr_nl_s, rr_bnl_n, rr_bnl_s, rr_cond_t, rr_cond_f, rr_bcond_t, rr_bcond_f, rr_bon, rr_bcv, rr_cv, rr_g, rr_gr, rr_si, rr_sz, rr_sr, rr_al, rr_ld, rr_st, rr_rl, rr_rs, rr_ni, rr_nr, rr_z, rr_div, rr_rem, rr_lc, rr_mx, rr_mn, rr_ab, rr_no, gd_t, bc_t, bc_f, gd_tt, bc_tt, bc_ff, or_true, true_or, and_true, true_and, Nat.reduceAdd], hM', fun a b ha hb2 => hq a b (by omega) hb2⟩
/-- a store is found, and the model holds it -/
def mFd (h : AH) (m : Nat) (E : SE) (s : List Int) : Prop := mE h m E ∧ ah_F h m 41 = 1 ∧ sR E.1 s ∧ acy E s ∧ ∀ j : Int, 0 ≤ j → j < E.1 → ah_I h (m + 28) j = sv s j
theorem q7_lostBy {h : AH} {m : Nat} {E : SE} {s : List Int} (hF : mFd h m E s) (ok : okE E) {p : Int} (hp : 0 ≤ p ∧ p < E.1) : X7_lostBy m p (E.1 : Int) h = some (lw E s p, h) := by
  obtain ⟨hE, f41, hs, hacy, ha⟩ := id hF
  have hn := ok.1
  have mT := hE.1.1
  obtain ⟨p6, t6, n6⟩ := ms6 hE.1
  obtain ⟨p28, t28, n28⟩ := ms28 hE.1
  have inner : ∀ i : Nat, i < E.1 → mo_lp mo_N (X7_lostBy_L18 m p) (0, (i : Int)) h = some (br (rch E s (i : Int) p) 1 0, h) := by
    intro i hi
    have hL := lp_inv (F := X7_lostBy_L18 m p) (fun t h' => h' = h ∧ ∃ k : Nat, t = (br (∃ q, q < k ∧ itc s (E.1 : Int) q (i : Int) = p) 1 0, itc s (E.1 : Int) k (i : Int)) ∧ k ≤ E.1) (fun t => (rmd E s E.1 t.2).toNat) (fun r h' => h' = h ∧ r = br (rch E s (i : Int) p) 1 0) ?_ mo_N (0, (i : Int)) h ⟨rfl, 0, by rw [bc_f (fun ⟨q, q1, _⟩ => by omega)]; rfl, by omega⟩ (by
      rw [mo_N_v]
      have := rmd_r ok hs E.1 (i : Int) (by omega) (by omega)
      dsimp only; omega)
    · obtain ⟨r, h', e1, rfl, rfl⟩ := hL; exact e1
    · rintro t h' ⟨rfl, k, rfl, kb⟩
      have hr := itc_r hs k (i : Int) (by omega) (by omega)
      by_cases cv : itc s (E.1 : Int) k (i : Int) = -1
      · right
        refine ⟨br (∃ q, q < k ∧ itc s (E.1 : Int) q (i : Int) = p) 1 0, h', by simp (disch := omega) only [X7_lostBy_L18, rr_p, rr_bp, rr_bb, rr_0, rr_lt, rr_blt, rr_le, rr_ble, rr_eq, rr_beq, rr_nl_n, rr_nl_s, rr_bnl_n, rr_bnl_s, rr_cond_t, rr_cond_f, rr_bcond_t, rr_bcond_f, rr_bon, rr_bcv, rr_cv, rr_g, rr_gr, rr_si, rr_sz, rr_sr, rr_al, rr_ld, rr_st, rr_rl, rr_rs, rr_ni, rr_nr, rr_z, rr_div, rr_rem, rr_lc, rr_mx, rr_mn, rr_ab, rr_no, gd_t, bc_t, bc_f, gd_tt, bc_tt, bc_ff, or_true, true_or, and_true, true_and, Nat.reduceAdd, cv], rfl, ?_⟩
        have out : ¬ (0 ≤ itc s (E.1 : Int) k (i : Int) ∧ itc s (E.1 : Int) k (i : Int) < E.1) := by rw [cv]; omega
        have e : (∃ q, q < k ∧ itc s (E.1 : Int) q (i : Int) = p) ↔ rch E s (i : Int) p := by
          constructor
          · rintro ⟨q, q1, q2⟩; exact ⟨q, by omega, q2⟩
          · rintro ⟨q, q1, q2⟩
            refine ⟨q, ?_, q2⟩
            by_cases z : q < k
            · exact z
            · rw [itc_stay out (by omega)] at q2; omega
        rw [propext e]
      · left
        have hin : 0 ≤ itc s (E.1 : Int) k (i : Int) ∧ itc s (E.1 : Int) k (i : Int) < E.1 := by omega
        have hk2 : k < E.1 := by
          by_cases z : k < E.1
          · exact z
          · have : k = E.1 := by omega
            rw [this] at cv
            exact absurd (hacy (i : Int) (by omega) (by omega)) cv
        have e1 := ha _ hin.1 hin.2
        have e2 : itc s (E.1 : Int) (k + 1) (i : Int) = sv s (itc s (E.1 : Int) k (i : Int)) := by rw [itc_add, itc_i hin]; rfl
        have e3 := rmd_1 (E := E) (s := s) hn.1 hacy hin.1 hin.2
        have hsv := hs.2 _ hin.1 hin.2
        have pr := ok.2.2.1 _ _ hin.1 hin.2 hsv.1 hsv.2.1
        have r2 := rmd_r ok hs E.1 (sv s (itc s (E.1 : Int) k (i : Int))) hsv.1 hsv.2.1
        refine ⟨(br (∃ q, q < k + 1 ∧ itc s (E.1 : Int) q (i : Int) = p) 1 0, itc s (E.1 : Int) (k + 1) (i : Int)), h', ?_, ⟨rfl, k + 1, rfl, by omega⟩, by dsimp only; rw [e2]; omega⟩
        rw [e2]
        by_cases c1 : ∃ q, q < k ∧ itc s (E.1 : Int) q (i : Int) = p
        · rw [bc_t c1, bc_t (by obtain ⟨q, q1, q2⟩ := c1; exact ⟨q, by omega, q2⟩)]
          simp (disch := omega) only [X7_lostBy_L18, rr_p, rr_bp, rr_bb, rr_0, rr_lt, rr_blt, rr_le, rr_ble, rr_eq, rr_beq, rr_nl_n, rr_nl_s, rr_bnl_n, rr_bnl_s, rr_cond_t, rr_cond_f, rr_bcond_t, rr_bcond_f, rr_bon, rr_bcv, rr_cv, rr_g, rr_gr, rr_si, rr_sz, rr_sr, rr_al, rr_ld, rr_st, rr_rl, rr_rs, rr_ni, rr_nr, rr_z, rr_div, rr_rem, rr_lc, rr_mx, rr_mn, rr_ab, rr_no, gd_t, bc_t, bc_f, gd_tt, bc_tt, bc_ff, or_true, true_or, and_true, true_and, Nat.reduceAdd, p28, e1]
        · rw [bc_f c1]
          by_cases c2 : itc s (E.1 : Int) k (i : Int) = p
          · rw [bc_t ⟨k, by omega, c2⟩]
            simp (disch := omega) only [X7_lostBy_L18, rr_p, rr_bp, rr_bb, rr_0, rr_lt, rr_blt, rr_le, rr_ble, rr_eq, rr_beq, rr_nl_n, rr_nl_s, rr_bnl_n, rr_bnl_s, rr_cond_t, rr_cond_f, rr_bcond_t, rr_bcond_f, rr_bon, rr_bcv, rr_cv, rr_g, rr_gr, rr_si, rr_sz, rr_sr, rr_al, rr_ld, rr_st, rr_rl, rr_rs, rr_ni, rr_nr, rr_z, rr_div, rr_rem, rr_lc, rr_mx, rr_mn, rr_ab, rr_no, gd_t, bc_t, bc_f, gd_tt, bc_tt, bc_ff, or_true, true_or, and_true, true_and, Nat.reduceAdd, p28, e1]
          · rw [bc_f (fun ⟨q, q1, q2⟩ => by
              by_cases z : q = k
              · subst z; exact c2 q2
              · exact c1 ⟨q, by omega, q2⟩)]
            simp (disch := omega) only [X7_lostBy_L18, rr_p, rr_bp, rr_bb, rr_0, rr_lt, rr_blt, rr_le, rr_ble, rr_eq, rr_beq, rr_nl_n, rr_nl_s, rr_bnl_n, rr_bnl_s, rr_cond_t, rr_cond_f, rr_bcond_t, rr_bcond_f, rr_bon, rr_bcv, rr_cv, rr_g, rr_gr, rr_si, rr_sz, rr_sr, rr_al, rr_ld, rr_st, rr_rl, rr_rs, rr_ni, rr_nr, rr_z, rr_div, rr_rem, rr_lc, rr_mx, rr_mn, rr_ab, rr_no, gd_t, bc_t, bc_f, gd_tt, bc_tt, bc_ff, or_true, true_or, and_true, true_and, Nat.reduceAdd, p28, e1]
  have hs2 := lp_seq (F := X7_lostBy_L5 m p (E.1 : Int)) (fun k : Nat => (lwN E s p k, (k : Int))) (fun _ => h) E.1 (b := lw E s p) (hE := h) ?_ ?_ mo_N (by rw [mo_N_v]; omega)
  · have hs2 : mo_lp mo_N (X7_lostBy_L5 m p (E.1 : Int)) (0, 0) h = _ := hs2
    simp (disch := omega) only [X7_lostBy, rr_p, rr_bp, rr_bb, rr_0, rr_lt, rr_blt, rr_le, rr_ble, rr_eq, rr_beq, rr_nl_n, rr_nl_s, rr_bnl_n, rr_bnl_s, rr_cond_t, rr_cond_f, rr_bcond_t, rr_bcond_f, rr_bon, rr_bcv, rr_cv, rr_g, rr_gr, rr_si, rr_sz, rr_sr, rr_al, rr_ld, rr_st, rr_rl, rr_rs, rr_ni, rr_nr, rr_z, rr_div, rr_rem, rr_lc, rr_mx, rr_mn, rr_ab, rr_no, gd_t, bc_t, bc_f, gd_tt, bc_tt, bc_ff, or_true, true_or, and_true, true_and, Nat.reduceAdd, mo_b_s hs2]
  · intro k hk1
    have e1 := inner k hk1
    have w := hE.2.2 k hk1
    show X7_lostBy_L5 m p (E.1 : Int) (lwN E s p k, (k : Int)) h = some (.inl (lwN E s p k + br (rch E s (k : Int) p) (E.2.2.1 k) 0, ((k + 1 : Nat) : Int)), h)
    by_cases c : rch E s (k : Int) p
    · rw [bc_t c] at e1 ⊢
      simp (disch := omega) only [X7_lostBy_L5, rr_p, rr_bp, rr_bb, rr_0, rr_lt, rr_blt, rr_le, rr_ble, rr_eq, rr_beq, rr_nl_n, rr_nl_s, rr_bnl_n, rr_bnl_s, rr_cond_t, rr_cond_f, rr_bcond_t, rr_bcond_f, rr_bon, rr_bcv, rr_cv, rr_g, rr_gr, rr_si, rr_sz, rr_sr, rr_al, rr_ld, rr_st, rr_rl, rr_rs, rr_ni, rr_nr, rr_z, rr_div, rr_rem, rr_lc, rr_mx, rr_mn, rr_ab, rr_no, gd_t, bc_t, bc_f, gd_tt, bc_tt, bc_ff, or_true, true_or, and_true, true_and, Nat.reduceAdd, mo_b_s e1, p6, w, Int.natCast_add, Int.natCast_one]
    · rw [bc_f c] at e1 ⊢
      simp (disch := omega) only [X7_lostBy_L5, rr_p, rr_bp, rr_bb, rr_0, rr_lt, rr_blt, rr_le, rr_ble, rr_eq, rr_beq, rr_nl_n, rr_nl_s, rr_bnl_n, rr_bnl_s, rr_cond_t, rr_cond_f, rr_bcond_t, rr_bcond_f, rr_bon, rr_bcv, rr_cv, rr_g, rr_gr, rr_si, rr_sz, rr_sr, rr_al, rr_ld, rr_st, rr_rl, rr_rs, rr_ni, rr_nr, rr_z, rr_div, rr_rem, rr_lc, rr_mx, rr_mn, rr_ab, rr_no, gd_t, bc_t, bc_f, gd_tt, bc_tt, bc_ff, or_true, true_or, and_true, true_and, Nat.reduceAdd, mo_b_s e1, Int.natCast_add, Int.natCast_one]
  · simp (disch := omega) only [X7_lostBy_L5, rr_p, rr_bp, rr_bb, rr_0, rr_lt, rr_blt, rr_le, rr_ble, rr_eq, rr_beq, rr_nl_n, rr_nl_s, rr_bnl_n, rr_bnl_s, rr_cond_t, rr_cond_f, rr_bcond_t, rr_bcond_f, rr_bon, rr_bcv, rr_cv, rr_g, rr_gr, rr_si, rr_sz, rr_sr, rr_al, rr_ld, rr_st, rr_rl, rr_rs, rr_ni, rr_nr, rr_z, rr_div, rr_rem, rr_lc, rr_mx, rr_mn, rr_ab, rr_no, gd_t, bc_t, bc_f, gd_tt, bc_tt, bc_ff, or_true, true_or, and_true, true_and, Nat.reduceAdd]; rfl
theorem q7_worstPiece {h : AH} {m : Nat} {E : SE} {s : List Int} (hF : mFd h m E s) (ok : okE E) {c : Int} (hc : -1 ≤ c ∧ c < E.1) : X7_worstPiece m (E.1 : Int) c h = some (wpN E s c E.1, h) := by
  have mT := hF.1.1.1
  have hn := ok.1
  have hs2 := lp_seq (F := X7_worstPiece_L5 m (E.1 : Int) c) (fun k : Nat => (wpN E s c k, (k : Int))) (fun _ => h) E.1 (b := wpN E s c E.1) (hE := h) ?_ ?_ mo_N (by rw [mo_N_v]; omega)
  · have hs2 : mo_lp mo_N (X7_worstPiece_L5 m (E.1 : Int) c) (-1, 0) h = _ := hs2
    simp (disch := omega) only [X7_worstPiece, rr_p, rr_bp, rr_bb, rr_0, rr_lt, rr_blt, rr_le, rr_ble, rr_eq, rr_beq, rr_nl_n, rr_nl_s, rr_bnl_n, rr_bnl_s, rr_cond_t, rr_cond_f, rr_bcond_t, rr_bcond_f, rr_bon, rr_bcv, rr_cv, rr_g, rr_gr, rr_si, rr_sz, rr_sr, rr_al, rr_ld, rr_st, rr_rl, rr_rs, rr_ni, rr_nr, rr_z, rr_div, rr_rem, rr_lc, rr_mx, rr_mn, rr_ab, rr_no, gd_t, bc_t, bc_f, gd_tt, bc_tt, bc_ff, or_true, true_or, and_true, true_and, Nat.reduceAdd, mo_b_s hs2]
  · intro k hk1
    have wr := @wpN_r E s c k
    show X7_worstPiece_L5 m (E.1 : Int) c (wpN E s c k, (k : Int)) h = some (.inl (br ((k : Int) ≠ c ∧ (wpN E s c k = -1 ∨ lw E s (wpN E s c k) < lw E s (k : Int))) (k : Int) (wpN E s c k), ((k + 1 : Nat) : Int)), h)
    by_cases c1 : (k : Int) = c
    · rw [bc_f (fun z => z.1 c1)]
      simp (disch := omega) only [X7_worstPiece_L5, rr_p, rr_bp, rr_bb, rr_0, rr_lt, rr_blt, rr_le, rr_ble, rr_eq, rr_beq, rr_nl_n, rr_nl_s, rr_bnl_n, rr_bnl_s, rr_cond_t, rr_cond_f, rr_bcond_t, rr_bcond_f, rr_bon, rr_bcv, rr_cv, rr_g, rr_gr, rr_si, rr_sz, rr_sr, rr_al, rr_ld, rr_st, rr_rl, rr_rs, rr_ni, rr_nr, rr_z, rr_div, rr_rem, rr_lc, rr_mx, rr_mn, rr_ab, rr_no, gd_t, bc_t, bc_f, gd_tt, bc_tt, bc_ff, or_true, true_or, and_true, true_and, Nat.reduceAdd, Int.natCast_add, Int.natCast_one]
    · by_cases c2 : wpN E s c k = -1
      · rw [bc_t ⟨c1, Or.inl c2⟩]
        simp (disch := omega) only [X7_worstPiece_L5, rr_p, rr_bp, rr_bb, rr_0, rr_lt, rr_blt, rr_le, rr_ble, rr_eq, rr_beq, rr_nl_n, rr_nl_s, rr_bnl_n, rr_bnl_s, rr_cond_t, rr_cond_f, rr_bcond_t, rr_bcond_f, rr_bon, rr_bcv, rr_cv, rr_g, rr_gr, rr_si, rr_sz, rr_sr, rr_al, rr_ld, rr_st, rr_rl, rr_rs, rr_ni, rr_nr, rr_z, rr_div, rr_rem, rr_lc, rr_mx, rr_mn, rr_ab, rr_no, gd_t, bc_t, bc_f, gd_tt, bc_tt, bc_ff, or_true, true_or, and_true, true_and, Nat.reduceAdd, Int.natCast_add, Int.natCast_one]
      · have e1 := q7_lostBy hF ok (p := (k : Int)) (by omega)
        have e2 := q7_lostBy hF ok (p := wpN E s c k) (by omega)
        have r1 := lwN_r ok (s := s) (p := (k : Int)) E.1 (Nat.le_refl _)
        have r2 := lwN_r ok (s := s) (p := wpN E s c k) E.1 (Nat.le_refl _)
        have r1 : 0 ≤ lw E s (k : Int) ∧ lw E s (k : Int) ≤ 9 * E.1 := r1
        have r2 : 0 ≤ lw E s (wpN E s c k) ∧ lw E s (wpN E s c k) ≤ 9 * E.1 := r2
        by_cases c3 : lw E s (wpN E s c k) < lw E s (k : Int)
        · rw [bc_t ⟨c1, Or.inr c3⟩]
          simp (disch := omega) only [X7_worstPiece_L5, rr_p, rr_bp, rr_bb, rr_0, rr_lt, rr_blt, rr_le, rr_ble, rr_eq, rr_beq, rr_nl_n, rr_nl_s, rr_bnl_n, rr_bnl_s, rr_cond_t, rr_cond_f, rr_bcond_t, rr_bcond_f, rr_bon, rr_bcv, rr_cv, rr_g, rr_gr, rr_si, rr_sz, rr_sr, rr_al, rr_ld, rr_st, rr_rl, rr_rs, rr_ni, rr_nr, rr_z, rr_div, rr_rem, rr_lc, rr_mx, rr_mn, rr_ab, rr_no, gd_t, bc_t, bc_f, gd_tt, bc_tt, bc_ff, or_true, true_or, and_true, true_and, Nat.reduceAdd, mo_b_s e1, mo_b_s e2, Int.natCast_add, Int.natCast_one]
        · rw [bc_f (fun z => by
            rcases z.2 with z | z
            · exact c2 z
            · exact c3 z)]
          simp (disch := omega) only [X7_worstPiece_L5, rr_p, rr_bp, rr_bb, rr_0, rr_lt, rr_blt, rr_le, rr_ble, rr_eq, rr_beq, rr_nl_n, rr_nl_s, rr_bnl_n, rr_bnl_s, rr_cond_t, rr_cond_f, rr_bcond_t, rr_bcond_f, rr_bon, rr_bcv, rr_cv, rr_g, rr_gr, rr_si, rr_sz, rr_sr, rr_al, rr_ld, rr_st, rr_rl, rr_rs, rr_ni, rr_nr, rr_z, rr_div, rr_rem, rr_lc, rr_mx, rr_mn, rr_ab, rr_no, gd_t, bc_t, bc_f, gd_tt, bc_tt, bc_ff, or_true, true_or, and_true, true_and, Nat.reduceAdd, mo_b_s e1, mo_b_s e2, Int.natCast_add, Int.natCast_one]
  · simp (disch := omega) only [X7_worstPiece_L5, rr_p, rr_bp, rr_bb, rr_0, rr_lt, rr_blt, rr_le, rr_ble, rr_eq, rr_beq, rr_nl_n, rr_nl_s, rr_bnl_n, rr_bnl_s, rr_cond_t, rr_cond_f, rr_bcond_t, rr_bcond_f, rr_bon, rr_bcv, rr_cv, rr_g, rr_gr, rr_si, rr_sz, rr_sr, rr_al, rr_ld, rr_st, rr_rl, rr_rs, rr_ni, rr_nr, rr_z, rr_div, rr_rem, rr_lc, rr_mx, rr_mn, rr_ab, rr_no, gd_t, bc_t, bc_f, gd_tt, bc_tt, bc_ff, or_true, true_or, and_true, true_and, Nat.reduceAdd]
theorem q7_worstThen {h : AH} {m : Nat} {E : SE} {s : List Int} (hF : mFd h m E s) (ok : okE E) {c : Int} (hc : -1 ≤ c ∧ c < E.1) : X7_worstThen m (E.1 : Int) c h = some (wl E s c, h) := by
  have mT := hF.1.1.1
  have hn := ok.1
  have e1 := q7_worstPiece hF ok hc
  have wr := @wpN_r E s c E.1
  unfold wl
  by_cases c2 : wpN E s c E.1 = -1
  · rw [bc_t c2]
    simp (disch := omega) only [X7_worstThen, rr_p, rr_bp, rr_bb, rr_0, rr_lt, rr_blt, rr_le, rr_ble, rr_eq, rr_beq, rr_nl_n, rr_nl_s, rr_bnl_n, rr_bnl_s, rr_cond_t, rr_cond_f, rr_bcond_t, rr_bcond_f, rr_bon, rr_bcv, rr_cv, rr_g, rr_gr, rr_si, rr_sz, rr_sr, rr_al, rr_ld, rr_st, rr_rl, rr_rs, rr_ni, rr_nr, rr_z, rr_div, rr_rem, rr_lc, rr_mx, rr_mn, rr_ab, rr_no, gd_t, bc_t, bc_f, gd_tt, bc_tt, bc_ff, or_true, true_or, and_true, true_and, Nat.reduceAdd, mo_b_s e1]
  · rw [bc_f c2]
    have e2 := q7_lostBy hF ok (p := wpN E s c E.1) (by omega)
    simp (disch := omega) only [X7_worstThen, rr_p, rr_bp, rr_bb, rr_0, rr_lt, rr_blt, rr_le, rr_ble, rr_eq, rr_beq, rr_nl_n, rr_nl_s, rr_bnl_n, rr_bnl_s, rr_cond_t, rr_cond_f, rr_bcond_t, rr_bcond_f, rr_bon, rr_bcv, rr_cv, rr_g, rr_gr, rr_si, rr_sz, rr_sr, rr_al, rr_ld, rr_st, rr_rl, rr_rs, rr_ni, rr_nr, rr_z, rr_div, rr_rem, rr_lc, rr_mx, rr_mn, rr_ab, rr_no, gd_t, bc_t, bc_f, gd_tt, bc_tt, bc_ff, or_true, true_or, and_true, true_and, Nat.reduceAdd, mo_b_s e1, mo_b_s e2]
theorem q7_pieceRoom {h : AH} {m : Nat} {E : SE} {s : List Int} (hF : mFd h m E s) (ok : okE E) {i : Int} (hi : 0 ≤ i ∧ i < E.1) : X7_pieceRoom m i h = some (E.2.1 i (sv s i), h) := by
  obtain ⟨hE, f41, hs, hacy, ha⟩ := id hF
  have hn := ok.1
  have mT := hE.1.1
  obtain ⟨p25, t25, n25⟩ := ms25 hE.1
  obtain ⟨p28, t28, n28⟩ := ms28 hE.1
  have hsv := hs.2 i hi.1 hi.2
  have e1 := ha i hi.1 hi.2
  by_cases c : sv s i = -1
  · have w := mE_w hE hi.1 hi.2
    rw [c] at e1 ⊢
    simp (disch := omega) only [X7_pieceRoom, rr_p, rr_bp, rr_bb, rr_0, rr_lt, rr_blt, rr_le, rr_ble, rr_eq, rr_beq, rr_nl_n, rr_nl_s, rr_bnl_n, rr_bnl_s, rr_cond_t, rr_cond_f, rr_bcond_t, rr_bcond_f, rr_bon, rr_bcv, rr_cv, rr_g, rr_gr, rr_si, rr_sz, rr_sr, rr_al, rr_ld, rr_st, rr_rl, rr_rs, rr_ni, rr_nr, rr_z, rr_div, rr_rem, rr_lc, rr_mx, rr_mn, rr_ab, rr_no, gd_t, bc_t, bc_f, gd_tt, bc_tt, bc_ff, or_true, true_or, and_true, true_and, Nat.reduceAdd, p25, p28, e1, w]
  · have w := mE_p hE hi.1 hi.2 (k := sv s i) (by omega) hsv.2.1 hsv.2.2
    simp (disch := omega) only [X7_pieceRoom, rr_p, rr_bp, rr_bb, rr_0, rr_lt, rr_blt, rr_le, rr_ble, rr_eq, rr_beq, rr_nl_n, rr_nl_s, rr_bnl_n, rr_bnl_s, rr_cond_t, rr_cond_f, rr_bcond_t, rr_bcond_f, rr_bon, rr_bcv, rr_cv, rr_g, rr_gr, rr_si, rr_sz, rr_sr, rr_al, rr_ld, rr_st, rr_rl, rr_rs, rr_ni, rr_nr, rr_z, rr_div, rr_rem, rr_lc, rr_mx, rr_mn, rr_ab, rr_no, gd_t, bc_t, bc_f, gd_tt, bc_tt, bc_ff, or_true, true_or, and_true, true_and, Nat.reduceAdd, p25, p28, e1, w]
theorem q7_savedLoop {h : AH} {m : Nat} {E : SE} {s : List Int} (hF : mFd h m E s) (ok : okE E) {r : Int} (hr : 0 ≤ r ∧ r ≤ 99) : mo_lp mo_N (X7_saved_L66 m (E.1 : Int) r) (-1, 0) h = some (bcN E s r E.1, h) := by
  obtain ⟨hE, f41, hs, hacy, ha⟩ := id hF
  have mT := hF.1.1.1
  have hn := ok.1
  have hs2 := lp_seq (F := X7_saved_L66 m (E.1 : Int) r) (fun k : Nat => (bcN E s r k, (k : Int))) (fun _ => h) E.1 (b := bcN E s r E.1) (hE := h) ?_ ?_ mo_N (by rw [mo_N_v]; omega)
  · exact hs2
  · intro k hk1
    have wr := @bcN_r E s r k
    have e0 := q7_pieceRoom hF ok (i := (k : Int)) (by omega)
    have hk2 := hs.2 (k : Int) (by omega) (by omega)
    have pr := ok.2.2.1 (k : Int) (sv s (k : Int)) (by omega) (by omega) hk2.1 hk2.2.1
    show X7_saved_L66 m (E.1 : Int) r (bcN E s r k, (k : Int)) h = some (.inl (br (E.2.1 (k : Int) (sv s (k : Int)) ≤ r ∧ (bcN E s r k = -1 ∨ bet E s (k : Int) (bcN E s r k))) (k : Int) (bcN E s r k), ((k + 1 : Nat) : Int)), h)
    by_cases c1 : E.2.1 (k : Int) (sv s (k : Int)) ≤ r
    · by_cases c2 : bcN E s r k = -1
      · rw [bc_t ⟨c1, Or.inl c2⟩]
        simp (disch := omega) only [X7_saved_L66, rr_p, rr_bp, rr_bb, rr_0, rr_lt, rr_blt, rr_le, rr_ble, rr_eq, rr_beq, rr_nl_n, rr_nl_s, rr_bnl_n, rr_bnl_s, rr_cond_t, rr_cond_f, rr_bcond_t, rr_bcond_f, rr_bon, rr_bcv, rr_cv, rr_g, rr_gr, rr_si, rr_sz, rr_sr, rr_al, rr_ld, rr_st, rr_rl, rr_rs, rr_ni, rr_nr, rr_z, rr_div, rr_rem, rr_lc, rr_mx, rr_mn, rr_ab, rr_no, gd_t, bc_t, bc_f, gd_tt, bc_tt, bc_ff, or_true, true_or, and_true, true_and, Nat.reduceAdd, f41, mo_b_s e0, Int.natCast_add, Int.natCast_one]
      · have hw2 := hs.2 (bcN E s r k) (by omega) (by omega)
        have pw := ok.2.2.1 (bcN E s r k) (sv s (bcN E s r k)) (by omega) (by omega) hw2.1 hw2.2.1
        have e1 := q7_worstThen hF ok (c := (k : Int)) (by omega)
        have e2 := q7_worstThen hF ok (c := bcN E s r k) (by omega)
        have e3 := q7_pieceRoom hF ok (i := bcN E s r k) (by omega)
        have r1 := wl_r ok (s := s) (c := (k : Int))
        have r2 := wl_r ok (s := s) (c := bcN E s r k)
        by_cases d1 : wl E s (k : Int) < wl E s (bcN E s r k)
        · rw [bc_t ⟨c1, Or.inr (show bet E s (k : Int) (bcN E s r k) from Or.inl d1)⟩]
          simp (disch := omega) only [X7_saved_L66, rr_p, rr_bp, rr_bb, rr_0, rr_lt, rr_blt, rr_le, rr_ble, rr_eq, rr_beq, rr_nl_n, rr_nl_s, rr_bnl_n, rr_bnl_s, rr_cond_t, rr_cond_f, rr_bcond_t, rr_bcond_f, rr_bon, rr_bcv, rr_cv, rr_g, rr_gr, rr_si, rr_sz, rr_sr, rr_al, rr_ld, rr_st, rr_rl, rr_rs, rr_ni, rr_nr, rr_z, rr_div, rr_rem, rr_lc, rr_mx, rr_mn, rr_ab, rr_no, gd_t, bc_t, bc_f, gd_tt, bc_tt, bc_ff, or_true, true_or, and_true, true_and, Nat.reduceAdd, f41, mo_b_s e0, mo_b_s e1, mo_b_s e2, Int.natCast_add, Int.natCast_one]
        · by_cases d2 : wl E s (k : Int) = wl E s (bcN E s r k)
          · by_cases d3 : E.2.1 (k : Int) (sv s (k : Int)) < E.2.1 (bcN E s r k) (sv s (bcN E s r k))
            · rw [bc_t ⟨c1, Or.inr (show bet E s (k : Int) (bcN E s r k) from Or.inr ⟨d2, d3⟩)⟩]
              simp (disch := omega) only [X7_saved_L66, rr_p, rr_bp, rr_bb, rr_0, rr_lt, rr_blt, rr_le, rr_ble, rr_eq, rr_beq, rr_nl_n, rr_nl_s, rr_bnl_n, rr_bnl_s, rr_cond_t, rr_cond_f, rr_bcond_t, rr_bcond_f, rr_bon, rr_bcv, rr_cv, rr_g, rr_gr, rr_si, rr_sz, rr_sr, rr_al, rr_ld, rr_st, rr_rl, rr_rs, rr_ni, rr_nr, rr_z, rr_div, rr_rem, rr_lc, rr_mx, rr_mn, rr_ab, rr_no, gd_t, bc_t, bc_f, gd_tt, bc_tt, bc_ff, or_true, true_or, and_true, true_and, Nat.reduceAdd, f41, mo_b_s e0, mo_b_s e1, mo_b_s e2, mo_b_s e3, Int.natCast_add, Int.natCast_one]
            · rw [bc_f (fun z => by
                rcases z.2 with z | z
                · exact c2 z
                · rcases z with z | z
                  · exact d1 z
                  · exact d3 z.2)]
              simp (disch := omega) only [X7_saved_L66, rr_p, rr_bp, rr_bb, rr_0, rr_lt, rr_blt, rr_le, rr_ble, rr_eq, rr_beq, rr_nl_n, rr_nl_s, rr_bnl_n, rr_bnl_s, rr_cond_t, rr_cond_f, rr_bcond_t, rr_bcond_f, rr_bon, rr_bcv, rr_cv, rr_g, rr_gr, rr_si, rr_sz, rr_sr, rr_al, rr_ld, rr_st, rr_rl, rr_rs, rr_ni, rr_nr, rr_z, rr_div, rr_rem, rr_lc, rr_mx, rr_mn, rr_ab, rr_no, gd_t, bc_t, bc_f, gd_tt, bc_tt, bc_ff, or_true, true_or, and_true, true_and, Nat.reduceAdd, f41, mo_b_s e0, mo_b_s e1, mo_b_s e2, mo_b_s e3, Int.natCast_add, Int.natCast_one]
          · rw [bc_f (fun z => by
              rcases z.2 with z | z
              · exact c2 z
              · rcases z with z | z
                · exact d1 z
                · exact d2 z.1)]
            simp (disch := omega) only [X7_saved_L66, rr_p, rr_bp, rr_bb, rr_0, rr_lt, rr_blt, rr_le, rr_ble, rr_eq, rr_beq, rr_nl_n, rr_nl_s, rr_bnl_n, rr_bnl_s, rr_cond_t, rr_cond_f, rr_bcond_t, rr_bcond_f, rr_bon, rr_bcv, rr_cv, rr_g, rr_gr, rr_si, rr_sz, rr_sr, rr_al, rr_ld, rr_st, rr_rl, rr_rs, rr_ni, rr_nr, rr_z, rr_div, rr_rem, rr_lc, rr_mx, rr_mn, rr_ab, rr_no, gd_t, bc_t, bc_f, gd_tt, bc_tt, bc_ff, or_true, true_or, and_true, true_and, Nat.reduceAdd, f41, mo_b_s e0, mo_b_s e1, mo_b_s e2, Int.natCast_add, Int.natCast_one]
    · rw [bc_f (fun z => c1 z.1)]
      simp (disch := omega) only [X7_saved_L66, rr_p, rr_bp, rr_bb, rr_0, rr_lt, rr_blt, rr_le, rr_ble, rr_eq, rr_beq, rr_nl_n, rr_nl_s, rr_bnl_n, rr_bnl_s, rr_cond_t, rr_cond_f, rr_bcond_t, rr_bcond_f, rr_bon, rr_bcv, rr_cv, rr_g, rr_gr, rr_si, rr_sz, rr_sr, rr_al, rr_ld, rr_st, rr_rl, rr_rs, rr_ni, rr_nr, rr_z, rr_div, rr_rem, rr_lc, rr_mx, rr_mn, rr_ab, rr_no, gd_t, bc_t, bc_f, gd_tt, bc_tt, bc_ff, or_true, true_or, and_true, true_and, Nat.reduceAdd, f41, mo_b_s e0, Int.natCast_add, Int.natCast_one]
  · simp (disch := omega) only [X7_saved_L66, rr_p, rr_bp, rr_bb, rr_0, rr_lt, rr_blt, rr_le, rr_ble, rr_eq, rr_beq, rr_nl_n, rr_nl_s, rr_bnl_n, rr_bnl_s, rr_cond_t, rr_cond_f, rr_bcond_t, rr_bcond_f, rr_bon, rr_bcv, rr_cv, rr_g, rr_gr, rr_si, rr_sz, rr_sr, rr_al, rr_ld, rr_st, rr_rl, rr_rs, rr_ni, rr_nr, rr_z, rr_div, rr_rem, rr_lc, rr_mx, rr_mn, rr_ab, rr_no, gd_t, bc_t, bc_f, gd_tt, bc_tt, bc_ff, or_true, true_or, and_true, true_and, Nat.reduceAdd]
