theorem q6_isVN {h : AH} {x d : Nat} {V : List VR} {Q : List (List HK)} {A B : Nat → Nat} (hK : KB h x V Q d A B) (hV : V.length ≤ 10) {n : Int} (hn : am_r n) : X6_isVersionOrNone x n h = some (br (-1 ≤ n ∧ n < V.length) 1 0, h) := by
  have o1 := hK.1.1
  have e1 := q6_versionOrNull hK hV hn
  have hn2 := hn
  unfold am_r at hn2
  by_cases c0 : n = -1
  · rw [bc_t (by omega)]
    simp (disch := omega) only [X6_isVersionOrNone, rr_p, rr_bp, rr_bb, rr_0, rr_lt, rr_blt, rr_le, rr_ble, rr_eq, rr_beq, rr_nl_n, rr_nl_s, rr_bnl_n, rr_bnl_s, rr_cond_t, rr_cond_f, rr_bcond_t, rr_bcond_f, rr_bon, rr_bcv, rr_cv, rr_g, rr_gr, rr_si, rr_sz, rr_sr, rr_al, rr_ld, rr_st, rr_rl, rr_rs, rr_ni, rr_nr, rr_z, rr_div, rr_rem, rr_lc, rr_mx, rr_mn, rr_ab, rr_no, gd_t, bc_t, bc_f, gd_tt, bc_tt, bc_ff, or_true, true_or, and_true, true_and, Nat.reduceAdd]
  · by_cases c1 : 0 ≤ n ∧ n < V.length
    · rw [if_pos c1] at e1
      rw [bc_t (by omega)]
      simp (disch := omega) only [X6_isVersionOrNone, rr_p, rr_bp, rr_bb, rr_0, rr_lt, rr_blt, rr_le, rr_ble, rr_eq, rr_beq, rr_nl_n, rr_nl_s, rr_bnl_n, rr_bnl_s, rr_cond_t, rr_cond_f, rr_bcond_t, rr_bcond_f, rr_bon, rr_bcv, rr_cv, rr_g, rr_gr, rr_si, rr_sz, rr_sr, rr_al, rr_ld, rr_st, rr_rl, rr_rs, rr_ni, rr_nr, rr_z, rr_div, rr_rem, rr_lc, rr_mx, rr_mn, rr_ab, rr_no, gd_t, bc_t, bc_f, gd_tt, bc_tt, bc_ff, or_true, true_or, and_true, true_and, Nat.reduceAdd, mo_b_s e1]
    · rw [if_neg c1] at e1
      rw [bc_f (by omega)]
      simp (disch := omega) only [X6_isVersionOrNone, rr_p, rr_bp, rr_bb, rr_0, rr_lt, rr_blt, rr_le, rr_ble, rr_eq, rr_beq, rr_nl_n, rr_nl_s, rr_bnl_n, rr_bnl_s, rr_cond_t, rr_cond_f, rr_bcond_t, rr_bcond_f, rr_bon, rr_bcv, rr_cv, rr_g, rr_gr, rr_si, rr_sz, rr_sr, rr_al, rr_ld, rr_st, rr_rl, rr_rs, rr_ni, rr_nr, rr_z, rr_div, rr_rem, rr_lc, rr_mx, rr_mn, rr_ab, rr_no, gd_t, bc_t, bc_f, gd_tt, bc_tt, bc_ff, or_true, true_or, and_true, true_and, Nat.reduceAdd, mo_b_s e1]
/-- a parent's lines lead into the new version's bringers -/
theorem q6_leadTo {h : AH} {x d n : Nat} {V : List VR} {Q : List (List HK)} {A B : Nat → Nat} (hK : kN h x V Q d A B) (hSc : KSc h x) (oV : OV V) (hn : V.length = n + 1) {p : Int} (hp : -1 ≤ p ∧ p < n) : ∃ (h' : AH) (t : Option Nat), X6_versionOrNull x p h = some (t, h) ∧ X6_leadBackTo x t (some (A n)) h = some ((), h') ∧ kN h' x V Q d A B ∧ KSc h' x ∧ (kR h (x + 1) (vn V n).1 → kR h' (x + 1) (vn V n).1) ∧ ah_N h' = ah_N h ∧ ah_I h' (x + 7) = ah_I h (x + 7) ∧ (∀ v, v < n → ah_I h' (A v + 3) = ah_I h (A v + 3)) ∧ ∀ i : Nat, i < (vn V n).1.length → ah_I h' (A n + 3) (i : Int) = if ledP V n p (i : Int) = -1 then ah_I h (A n + 3) (i : Int) else ah_I h (A p.toNat + 3) (ledP V n p (i : Int)) := by
  have oV1 := oV.1
  have e0 := q6_ver0 hK oV1 (n := p) (by unfold am_r; omega)
  obtain ⟨⟨o1, ⟨p0, p1, p2, p4, p6, p7, p8, p9, p10, p11, p12⟩, o3, o4, o5, o6, o7, o8, o9⟩, ⟨f3, f5, f13⟩, hA, hQ, hX⟩ := id hK
  by_cases c : p = -1
  · rw [if_neg (by omega)] at e0
    refine ⟨h, none, e0, by simp (disch := omega) only [X6_leadBackTo, rr_p, rr_bp, rr_bb, rr_0, rr_lt, rr_blt, rr_le, rr_ble, rr_eq, rr_beq, rr_nl_n, rr_nl_s, rr_bnl_n, rr_bnl_s, rr_cond_t, rr_cond_f, rr_bcond_t, rr_bcond_f, rr_bon, rr_bcv, rr_cv, rr_g, rr_gr, rr_si, rr_sz, rr_sr, rr_al, rr_ld, rr_st, rr_rl, rr_rs, rr_ni, rr_nr, rr_z, rr_div, rr_rem, rr_lc, rr_mx, rr_mn, rr_ab, rr_no, gd_t, bc_t, bc_f, gd_tt, bc_tt, bc_ff, or_true, true_or, and_true, true_and, Nat.reduceAdd], hK, hSc, fun z => z, rfl, rfl, fun _ _ => rfl, fun i _ => ?_⟩
    unfold ledP
    rw [bc_t c, if_pos rfl]
  · rw [if_pos (by omega)] at e0
    obtain ⟨a1, a2, a3, a4⟩ := hA p.toNat (by omega)
    obtain ⟨b1, b2, b3, b4⟩ := hA n (by omega)
    obtain ⟨l1, l2, -⟩ := oV.2 p.toNat (by omega)
    obtain ⟨k1, k2, -⟩ := oV.2 n (by omega)
    have hd := hX.1 n p.toNat (by omega) (by omega) (by omega)
    obtain ⟨h1, h', e1, g1, g2, q1⟩ := q6_leadBackTo o1 p7 hSc.2.2.1 a2 b2 b3 a3 hd l1 k1 l2 k2
    have hK1 := kN_fr (kN_fr hK g1 (Or.inl (by omega))) g2 (Or.inr ⟨n, by omega, rfl, rfl⟩)
    have hSc1 := KSc_di hSc g1
    have hSc2 := KSc_sm hSc1 (SM.fr g2 (by omega)) (SM.fr g2 (by omega))
    refine ⟨h', some (A p.toNat), e0, e1, hK1, hSc2, fun z => kR_fr (kR_fr z g1 (by omega)) g2 (by omega), by rw [g2.2.1, g1.2.1], by rw [g2.2.2.2.2.2.2 (x + 7) (by omega), g1.2.2.2.2.2.2 (x + 7) (by omega)], fun v hv => ?_, fun i hi => ?_⟩
    · have hd2 := hX.1 v n (by omega) (by omega) (by omega)
      obtain ⟨-, -, v3, -⟩ := hA v (by omega)
      rw [g2.2.2.2.2.2.2 (A v + 3) (by omega), g1.2.2.2.2.2.2 (A v + 3) (by omega)]
    · have := q1 i hi
      unfold ledP
      rw [bc_f c]; exact this
theorem c_keep (p q : Int) (hp : am_r p) (hq : am_r q) (s : SG) (ho : OKS s) : CJ (fun x => X6_keep x p q) (fun m => X7_keep m p q) s := by
  obtain ⟨D, V, Q, d⟩ := s
  obtain ⟨⟨hD1, hD2⟩, oV, oQ, od⟩ := id ho
  dsimp only at hD1 hD2 oV oQ od
  have oV1 := oV.1
  have hp2 := hp
  have hq2 := hq
  unfold am_r at hp hq
  have KV : ∀ x h, KI h x (D, V, Q, d) → ah_T h x = 16 ∧ ah_F h x 3 = (V.length : Int) ∧ X6_isVersionOrNone x p h = some (br (-1 ≤ p ∧ p < V.length) 1 0, h) ∧ X6_isVersionOrNone x q h = some (br (-1 ≤ q ∧ q < V.length) 1 0, h) := by
    intro x h hK
    obtain ⟨-, -, -, A, B, hB⟩ := id hK
    exact ⟨hB.1.1, hB.2.1.1, q6_isVN hB oV1 hp2, q6_isVN hB oV1 hq2⟩
  have MV : ∀ m h, MI h m (D, V, Q, d) → ah_T h m = 17 ∧ ah_F h m 2 = (V.length : Int) ∧ X7_isVersion m p h = some (br (0 ≤ p ∧ p < V.length) 1 0, h) ∧ X7_isVersion m q h = some (br (0 ≤ q ∧ q < V.length) 1 0, h) := by
    intro m h hM
    exact ⟨hM.1.1, hM.2.2.1.1, q7_isVersion hM oV1 hp2, q7_isVersion hM oV1 hq2⟩
  by_cases cp : -1 ≤ p ∧ p < V.length
  · by_cases cq : -1 ≤ q ∧ q < V.length
    · have MC : ∀ m h, MI h m (D, V, Q, d) → ∀ (Kk : Bool → MO Int), Kk false h = Kk false h → mo_b (
          mo_eq p (-1) (
          mo_eq q (-1) (
          mo_p false) (
          mo_b (mo_cv 7 (some m) (fun b1 => X7_isVersion b1 q)) fun t1 =>
          mo_eq t1 0 (
          mo_p true) (
          mo_p false))) (
          mo_b (mo_cv 7 (some m) (fun b5 => X7_isVersion b5 p)) fun t3 =>
          mo_eq t3 0 (
          mo_p true) (
          mo_eq q (-1) (
          mo_p false) (
          mo_b (mo_cv 7 (some m) (fun b4 => X7_isVersion b4 q)) fun t4 =>
          mo_eq t4 0 (
          mo_p true) (
          mo_p false))))) Kk h = Kk false h := by
        intro m h hM Kk _
        obtain ⟨mT, f2, e1, e2⟩ := MV m h hM
        by_cases p1 : p = -1
        · by_cases q1 : q = -1
          · simp (disch := omega) only [rr_p, rr_bp, rr_bb, rr_0, rr_lt, rr_blt, rr_le, rr_ble, rr_eq, rr_beq, rr_nl_n, rr_nl_s, rr_bnl_n, rr_bnl_s, rr_cond_t, rr_cond_f, rr_bcond_t, rr_bcond_f, rr_bon, rr_bcv, rr_cv, rr_g, rr_gr, rr_si, rr_sz, rr_sr, rr_al, rr_ld, rr_st, rr_rl, rr_rs, rr_ni, rr_nr, rr_z, rr_div, rr_rem, rr_lc, rr_mx, rr_mn, rr_ab, rr_no, gd_t, bc_t, bc_f, gd_tt, bc_tt, bc_ff, or_true, true_or, and_true, true_and, Nat.reduceAdd]
          · rw [bc_t (by omega)] at e2
            simp (disch := omega) only [rr_p, rr_bp, rr_bb, rr_0, rr_lt, rr_blt, rr_le, rr_ble, rr_eq, rr_beq, rr_nl_n, rr_nl_s, rr_bnl_n, rr_bnl_s, rr_cond_t, rr_cond_f, rr_bcond_t, rr_bcond_f, rr_bon, rr_bcv, rr_cv, rr_g, rr_gr, rr_si, rr_sz, rr_sr, rr_al, rr_ld, rr_st, rr_rl, rr_rs, rr_ni, rr_nr, rr_z, rr_div, rr_rem, rr_lc, rr_mx, rr_mn, rr_ab, rr_no, gd_t, bc_t, bc_f, gd_tt, bc_tt, bc_ff, or_true, true_or, and_true, true_and, Nat.reduceAdd, mo_b_s e2]
        · rw [bc_t (by omega)] at e1
          by_cases q1 : q = -1
          · simp (disch := omega) only [rr_p, rr_bp, rr_bb, rr_0, rr_lt, rr_blt, rr_le, rr_ble, rr_eq, rr_beq, rr_nl_n, rr_nl_s, rr_bnl_n, rr_bnl_s, rr_cond_t, rr_cond_f, rr_bcond_t, rr_bcond_f, rr_bon, rr_bcv, rr_cv, rr_g, rr_gr, rr_si, rr_sz, rr_sr, rr_al, rr_ld, rr_st, rr_rl, rr_rs, rr_ni, rr_nr, rr_z, rr_div, rr_rem, rr_lc, rr_mx, rr_mn, rr_ab, rr_no, gd_t, bc_t, bc_f, gd_tt, bc_tt, bc_ff, or_true, true_or, and_true, true_and, Nat.reduceAdd, mo_b_s e1]
          · rw [bc_t (by omega)] at e2
            simp (disch := omega) only [rr_p, rr_bp, rr_bb, rr_0, rr_lt, rr_blt, rr_le, rr_ble, rr_eq, rr_beq, rr_nl_n, rr_nl_s, rr_bnl_n, rr_bnl_s, rr_cond_t, rr_cond_f, rr_bcond_t, rr_bcond_f, rr_bon, rr_bcv, rr_cv, rr_g, rr_gr, rr_si, rr_sz, rr_sr, rr_al, rr_ld, rr_st, rr_rl, rr_rs, rr_ni, rr_nr, rr_z, rr_div, rr_rem, rr_lc, rr_mx, rr_mn, rr_ab, rr_no, gd_t, bc_t, bc_f, gd_tt, bc_tt, bc_ff, or_true, true_or, and_true, true_and, Nat.reduceAdd, mo_b_s e1, mo_b_s e2]
      by_cases c2 : q ≠ -1 ∧ (p = q ∨ p = -1)
      · refine CJ.same (-102) ho ?_ ?_
        · intro x h hK
          obtain ⟨tx, f3, e1, e2⟩ := KV x h hK
          rw [bc_t cp] at e1
          rw [bc_t cq] at e2
          by_cases c3 : p = q
          · simp (disch := omega) only [X6_keep, rr_p, rr_bp, rr_bb, rr_0, rr_lt, rr_blt, rr_le, rr_ble, rr_eq, rr_beq, rr_nl_n, rr_nl_s, rr_bnl_n, rr_bnl_s, rr_cond_t, rr_cond_f, rr_bcond_t, rr_bcond_f, rr_bon, rr_bcv, rr_cv, rr_g, rr_gr, rr_si, rr_sz, rr_sr, rr_al, rr_ld, rr_st, rr_rl, rr_rs, rr_ni, rr_nr, rr_z, rr_div, rr_rem, rr_lc, rr_mx, rr_mn, rr_ab, rr_no, gd_t, bc_t, bc_f, gd_tt, bc_tt, bc_ff, or_true, true_or, and_true, true_and, Nat.reduceAdd, mo_b_s e1, mo_b_s e2]
          · simp (disch := omega) only [X6_keep, rr_p, rr_bp, rr_bb, rr_0, rr_lt, rr_blt, rr_le, rr_ble, rr_eq, rr_beq, rr_nl_n, rr_nl_s, rr_bnl_n, rr_bnl_s, rr_cond_t, rr_cond_f, rr_bcond_t, rr_bcond_f, rr_bon, rr_bcv, rr_cv, rr_g, rr_gr, rr_si, rr_sz, rr_sr, rr_al, rr_ld, rr_st, rr_rl, rr_rs, rr_ni, rr_nr, rr_z, rr_div, rr_rem, rr_lc, rr_mx, rr_mn, rr_ab, rr_no, gd_t, bc_t, bc_f, gd_tt, bc_tt, bc_ff, or_true, true_or, and_true, true_and, Nat.reduceAdd, mo_b_s e1, mo_b_s e2]
        · intro m h hM
          obtain ⟨mT, f2, -, -⟩ := MV m h hM
          unfold X7_keep
          rw [MC m h hM _ rfl]
          by_cases c3 : p = q
          · simp (disch := omega) only [rr_p, rr_bp, rr_bb, rr_0, rr_lt, rr_blt, rr_le, rr_ble, rr_eq, rr_beq, rr_nl_n, rr_nl_s, rr_bnl_n, rr_bnl_s, rr_cond_t, rr_cond_f, rr_bcond_t, rr_bcond_f, rr_bon, rr_bcv, rr_cv, rr_g, rr_gr, rr_si, rr_sz, rr_sr, rr_al, rr_ld, rr_st, rr_rl, rr_rs, rr_ni, rr_nr, rr_z, rr_div, rr_rem, rr_lc, rr_mx, rr_mn, rr_ab, rr_no, gd_t, bc_t, bc_f, gd_tt, bc_tt, bc_ff, or_true, true_or, and_true, true_and, Nat.reduceAdd]
          · simp (disch := omega) only [rr_p, rr_bp, rr_bb, rr_0, rr_lt, rr_blt, rr_le, rr_ble, rr_eq, rr_beq, rr_nl_n, rr_nl_s, rr_bnl_n, rr_bnl_s, rr_cond_t, rr_cond_f, rr_bcond_t, rr_bcond_f, rr_bon, rr_bcv, rr_cv, rr_g, rr_gr, rr_si, rr_sz, rr_sr, rr_al, rr_ld, rr_st, rr_rl, rr_rs, rr_ni, rr_nr, rr_z, rr_div, rr_rem, rr_lc, rr_mx, rr_mn, rr_ab, rr_no, gd_t, bc_t, bc_f, gd_tt, bc_tt, bc_ff, or_true, true_or, and_true, true_and, Nat.reduceAdd]
      · have KC2 : ∀ (h : AH) (Kk : Bool → MO Int), mo_b (
            mo_eq q (-1) (
            mo_p false) (
            mo_eq p q (
            mo_p true) (
            mo_eq p (-1) (
            mo_p true) (
            mo_p false)))) Kk h = Kk false h := by
          intro h Kk
          by_cases q1 : q = -1
          · simp (disch := omega) only [rr_p, rr_bp, rr_bb, rr_0, rr_lt, rr_blt, rr_le, rr_ble, rr_eq, rr_beq, rr_nl_n, rr_nl_s, rr_bnl_n, rr_bnl_s, rr_cond_t, rr_cond_f, rr_bcond_t, rr_bcond_f, rr_bon, rr_bcv, rr_cv, rr_g, rr_gr, rr_si, rr_sz, rr_sr, rr_al, rr_ld, rr_st, rr_rl, rr_rs, rr_ni, rr_nr, rr_z, rr_div, rr_rem, rr_lc, rr_mx, rr_mn, rr_ab, rr_no, gd_t, bc_t, bc_f, gd_tt, bc_tt, bc_ff, or_true, true_or, and_true, true_and, Nat.reduceAdd]
          · have n1 : p ≠ q := fun z => c2 ⟨q1, Or.inl z⟩
            have n2 : p ≠ -1 := fun z => c2 ⟨q1, Or.inr z⟩
            simp (disch := omega) only [rr_p, rr_bp, rr_bb, rr_0, rr_lt, rr_blt, rr_le, rr_ble, rr_eq, rr_beq, rr_nl_n, rr_nl_s, rr_bnl_n, rr_bnl_s, rr_cond_t, rr_cond_f, rr_bcond_t, rr_bcond_f, rr_bon, rr_bcv, rr_cv, rr_g, rr_gr, rr_si, rr_sz, rr_sr, rr_al, rr_ld, rr_st, rr_rl, rr_rs, rr_ni, rr_nr, rr_z, rr_div, rr_rem, rr_lc, rr_mx, rr_mn, rr_ab, rr_no, gd_t, bc_t, bc_f, gd_tt, bc_tt, bc_ff, or_true, true_or, and_true, true_and, Nat.reduceAdd]
        by_cases cl : V.length < 10
        · have oV' := OV_add oV cl hD1 hD2 cp cq
          have hVl : (V ++ [(D, p, q, (1 : Int))]).length = V.length + 1 := by simp
          refine ⟨(V.length : Int), (D, V ++ [(D, p, q, 1)], Q, d), ⟨⟨hD1, hD2⟩, oV', oQ, od⟩, ?_, ?_⟩
          · intro x h hK
            obtain ⟨tx, f3, e1, e2⟩ := KV x h hK
            rw [bc_t cp] at e1
            rw [bc_t cq] at e2
            obtain ⟨hR, nD, hSc, A, B, hB⟩ := id hK
            dsimp only at hR hB
            obtain ⟨⟨o1, ⟨p0, p1, p2, p4, p6, p7, p8, p9, p10, p11, p12⟩, o3, o4, o5, o6, o7, o8, o9⟩, ⟨-, f5, f13⟩, hA, hQ, hM, hX⟩ := id hB
            -- the new object
            obtain ⟨h2, e3, kv2, s2, v2⟩ := q5_init (h := ah_nO h 5) (a := ah_S h) (p := p) (q := q) (hn_T_nO_s rfl) hn_S_nO
            have s20 : SM h h2 0 (ah_S h) := (SM.nO (Nat.le_refl _)).tr s2
            obtain ⟨ta, pa, -, -, -, -, -, -, ra, na⟩ := id kv2
            have hR2 := kR_sm hR (s20.mono (by omega) (by omega))
            obtain ⟨h3, e4, r4, g4⟩ := q4_become ra hR2 (by omega) (by rw [show ah_S h + 1 + 1 = ah_S h + 2 by omega, na]; omega)
            have s30 : SM h h3 0 (ah_S h) := s20.tr (SM.fr g4 (by omega))
            have kv3 : kV h3 (ah_S h) (D, p, q, 1) := by
              obtain ⟨w1, w2, w3, w4, w5, w6, w7, w8, w9, w10⟩ := kv2
              refine ⟨by rw [g4.1]; exact w1, by rw [g4.2.2.1]; exact w2, by rw [g4.2.2.1]; exact w3, by rw [g4.1]; exact w4, by rw [g4.2.1]; exact w5, ?_, ?_, ?_, r4, by rw [g4.2.1]; exact w10⟩
              · rw [g4.2.2.2.2.2.1 (ah_S h) (by omega)]; exact w6
              · rw [g4.2.2.2.2.2.1 (ah_S h) (by omega)]; exact w7
              · rw [g4.2.2.2.2.2.1 (ah_S h) (by omega)]; exact w8
            have hB3 := KB_sm hB (s30.mono (by omega) (by omega)) (s30.mono (by omega) (by omega)) (s30.mono (by omega) (by omega)) (by rw [g4.2.2.2.2.1]; omega)
            have hR3 := kR_sm hR (s30.mono (by omega) (by omega))
            have hSc3 := KSc_sm hSc (s30.mono (by omega) (by omega)) (s30.mono (by omega) (by omega))
            have nD3 : ah_N h3 (x + 2) = 14 := by rw [(s30 (x + 2) (by omega) (by omega)).2.1]; exact nD
            have S3 : ah_S h3 = ah_S h + 4 := by rw [g4.2.2.2.2.1]; exact v2
            obtain ⟨⟨y1, y2, y3, y4, y5, y6, y7, y8, y9⟩, ⟨z3, z5, z13⟩, hA3, hQ3, hM3, hX3⟩ := id hB3
            obtain ⟨yp0, -, yp2, -⟩ := id y2
            -- it is put into the table
            have sR : ∀ lo hi, (hi ≤ x ∨ x + 6 ≤ lo ∨ (x + 1 ≤ lo ∧ hi ≤ x + 5)) → SM h3 (ah_sF (ah_sR h3 (x + 5) (V.length : Int) (some (ah_S h))) x 3 ((V.length : Int) + 1)) lo hi := fun lo hi hd => (SM.sR (by omega)).tr (SM.sF (by omega))
            have kN4 : kN (ah_sF (ah_sR h3 (x + 5) (V.length : Int) (some (ah_S h))) x 3 ((V.length : Int) + 1)) x (V ++ [(D, p, q, 1)]) Q d (fun v => if v = V.length then ah_S h else A v) B := by
              refine ⟨⟨y1, y2, y3, y4, y5, y6, y7, y8, y9⟩, ⟨?_, ?_, ?_⟩, fun v hv => ?_, fun r hr => ?_, ?_⟩
              · simp (disch := omega) only [hl_T_sF, hl_N_sF, hl_P_sF, hl_I_sF, hl_R_sF, hl_S_sF, hl_T_sP, hl_N_sP, hl_F_sP, hl_I_sP, hl_R_sP, hl_S_sP, hl_T_sI, hl_N_sI, hl_F_sI, hl_P_sI, hl_R_sI, hl_S_sI, hl_T_sR, hl_N_sR, hl_F_sR, hl_P_sR, hl_I_sR, hl_S_sR, hl_T_wI, hl_N_wI, hl_F_wI, hl_P_wI, hl_R_wI, hl_S_wI, hl_F_sF_s, hl_F_sF_n, hl_P_sP_s, hl_P_sP_n, hl_I_sI_s, hl_I_sI_n, hl_R_sR_s, hl_R_sR_n, hl_I_wI_s, hl_I_wI_n, hVl, Int.natCast_add, Int.natCast_one]
              · simp (disch := omega) only [hl_T_sF, hl_N_sF, hl_P_sF, hl_I_sF, hl_R_sF, hl_S_sF, hl_T_sP, hl_N_sP, hl_F_sP, hl_I_sP, hl_R_sP, hl_S_sP, hl_T_sI, hl_N_sI, hl_F_sI, hl_P_sI, hl_R_sI, hl_S_sI, hl_T_sR, hl_N_sR, hl_F_sR, hl_P_sR, hl_I_sR, hl_S_sR, hl_T_wI, hl_N_wI, hl_F_wI, hl_P_wI, hl_R_wI, hl_S_wI, hl_F_sF_s, hl_F_sF_n, hl_P_sP_s, hl_P_sP_n, hl_I_sI_s, hl_I_sI_n, hl_R_sR_s, hl_R_sR_n, hl_I_wI_s, hl_I_wI_n]; exact z5
              · simp (disch := omega) only [hl_T_sF, hl_N_sF, hl_P_sF, hl_I_sF, hl_R_sF, hl_S_sF, hl_T_sP, hl_N_sP, hl_F_sP, hl_I_sP, hl_R_sP, hl_S_sP, hl_T_sI, hl_N_sI, hl_F_sI, hl_P_sI, hl_R_sI, hl_S_sI, hl_T_sR, hl_N_sR, hl_F_sR, hl_P_sR, hl_I_sR, hl_S_sR, hl_T_wI, hl_N_wI, hl_F_wI, hl_P_wI, hl_R_wI, hl_S_wI, hl_F_sF_s, hl_F_sF_n, hl_P_sP_s, hl_P_sP_n, hl_I_sI_s, hl_I_sI_n, hl_R_sR_s, hl_R_sR_n, hl_I_wI_s, hl_I_wI_n]; exact z13
              · rw [hVl] at hv
                by_cases c : v = V.length
                · subst c
                  dsimp only
                  rw [if_pos rfl, vn_last]
                  refine ⟨?_, kV_sm kv3 (sR _ _ (by omega)), by omega, by simp only [hl_T_sF, hl_N_sF, hl_P_sF, hl_I_sF, hl_R_sF, hl_S_sF, hl_T_sP, hl_N_sP, hl_F_sP, hl_I_sP, hl_R_sP, hl_S_sP, hl_T_sI, hl_N_sI, hl_F_sI, hl_P_sI, hl_R_sI, hl_S_sI, hl_T_sR, hl_N_sR, hl_F_sR, hl_P_sR, hl_I_sR, hl_S_sR, hl_T_wI, hl_N_wI, hl_F_wI, hl_P_wI, hl_R_wI, hl_S_wI, hl_F_sF_s, hl_F_sF_n, hl_P_sP_s, hl_P_sP_n, hl_I_sI_s, hl_I_sI_n, hl_R_sR_s, hl_R_sR_n, hl_I_wI_s, hl_I_wI_n]; omega⟩
                  simp (disch := omega) only [hl_T_sF, hl_N_sF, hl_P_sF, hl_I_sF, hl_R_sF, hl_S_sF, hl_T_sP, hl_N_sP, hl_F_sP, hl_I_sP, hl_R_sP, hl_S_sP, hl_T_sI, hl_N_sI, hl_F_sI, hl_P_sI, hl_R_sI, hl_S_sI, hl_T_sR, hl_N_sR, hl_F_sR, hl_P_sR, hl_I_sR, hl_S_sR, hl_T_wI, hl_N_wI, hl_F_wI, hl_P_wI, hl_R_wI, hl_S_wI, hl_F_sF_s, hl_F_sF_n, hl_P_sP_s, hl_P_sP_n, hl_I_sI_s, hl_I_sI_n, hl_R_sR_s, hl_R_sR_n, hl_I_wI_s, hl_I_wI_n]
                · dsimp only
                  rw [if_neg c, vn_app_l (by omega)]
                  obtain ⟨a1, a2, a3, a4, a5⟩ := hA3 v (by omega)
                  refine ⟨?_, kV_sm a2 (sR _ _ (by omega)), a3, by simp only [hl_T_sF, hl_N_sF, hl_P_sF, hl_I_sF, hl_R_sF, hl_S_sF, hl_T_sP, hl_N_sP, hl_F_sP, hl_I_sP, hl_R_sP, hl_S_sP, hl_T_sI, hl_N_sI, hl_F_sI, hl_P_sI, hl_R_sI, hl_S_sI, hl_T_sR, hl_N_sR, hl_F_sR, hl_P_sR, hl_I_sR, hl_S_sR, hl_T_wI, hl_N_wI, hl_F_wI, hl_P_wI, hl_R_wI, hl_S_wI, hl_F_sF_s, hl_F_sF_n, hl_P_sP_s, hl_P_sP_n, hl_I_sI_s, hl_I_sI_n, hl_R_sR_s, hl_R_sR_n, hl_I_wI_s, hl_I_wI_n]; omega⟩
                  simp (disch := omega) only [hl_T_sF, hl_N_sF, hl_P_sF, hl_I_sF, hl_R_sF, hl_S_sF, hl_T_sP, hl_N_sP, hl_F_sP, hl_I_sP, hl_R_sP, hl_S_sP, hl_T_sI, hl_N_sI, hl_F_sI, hl_P_sI, hl_R_sI, hl_S_sI, hl_T_sR, hl_N_sR, hl_F_sR, hl_P_sR, hl_I_sR, hl_S_sR, hl_T_wI, hl_N_wI, hl_F_wI, hl_P_wI, hl_R_wI, hl_S_wI, hl_F_sF_s, hl_F_sF_n, hl_P_sP_s, hl_P_sP_n, hl_I_sI_s, hl_I_sI_n, hl_R_sR_s, hl_R_sR_n, hl_I_wI_s, hl_I_wI_n]; exact a1
              · obtain ⟨q1, q2, q3, q4⟩ := hQ3 r hr
                refine ⟨?_, kP_sm q2 (sR _ _ (by omega)), q3, by simp only [hl_T_sF, hl_N_sF, hl_P_sF, hl_I_sF, hl_R_sF, hl_S_sF, hl_T_sP, hl_N_sP, hl_F_sP, hl_I_sP, hl_R_sP, hl_S_sP, hl_T_sI, hl_N_sI, hl_F_sI, hl_P_sI, hl_R_sI, hl_S_sI, hl_T_sR, hl_N_sR, hl_F_sR, hl_P_sR, hl_I_sR, hl_S_sR, hl_T_wI, hl_N_wI, hl_F_wI, hl_P_wI, hl_R_wI, hl_S_wI, hl_F_sF_s, hl_F_sF_n, hl_P_sP_s, hl_P_sP_n, hl_I_sI_s, hl_I_sI_n, hl_R_sR_s, hl_R_sR_n, hl_I_wI_s, hl_I_wI_n]; omega⟩
                simp (disch := omega) only [hl_T_sF, hl_N_sF, hl_P_sF, hl_I_sF, hl_R_sF, hl_S_sF, hl_T_sP, hl_N_sP, hl_F_sP, hl_I_sP, hl_R_sP, hl_S_sP, hl_T_sI, hl_N_sI, hl_F_sI, hl_P_sI, hl_R_sI, hl_S_sI, hl_T_sR, hl_N_sR, hl_F_sR, hl_P_sR, hl_I_sR, hl_S_sR, hl_T_wI, hl_N_wI, hl_F_wI, hl_P_wI, hl_R_wI, hl_S_wI, hl_F_sF_s, hl_F_sF_n, hl_P_sP_s, hl_P_sP_n, hl_I_sI_s, hl_I_sI_n, hl_R_sR_s, hl_R_sR_n, hl_I_wI_s, hl_I_wI_n]; exact q1
              · rw [hVl]
                refine ⟨fun u v hu hv huv => ?_, hX.2.1, fun v r hv hr => ?_⟩
                · dsimp only
                  by_cases c1 : u = V.length
                  · rw [if_pos c1, if_neg (by omega)]
                    have := (hA v (by omega)).2.2.2.1; omega
                  · rw [if_neg c1]
                    by_cases c2 : v = V.length
                    · rw [if_pos c2]
                      have := (hA u (by omega)).2.2.2.1; omega
                    · rw [if_neg c2]; exact hX.1 u v (by omega) (by omega) huv
                · dsimp only
                  by_cases c1 : v = V.length
                  · rw [if_pos c1]
                    have := (hQ r hr).2.2.2; omega
                  · rw [if_neg c1]; exact hX.2.2 v r (by omega) hr
            have hSc4 := KSc_sm hSc3 (sR _ _ (by omega)) (sR _ _ (by omega))
            have hR4 := kR_sm hR3 (sR _ _ (by omega))
            have t4 := kN4.1.1
            -- rooms
            obtain ⟨h5, e5, kN5, hSc5, g5, m5, n5⟩ := q6_reckonRooms kN4 hSc4 oV' hVl
            have hR5 := kR_fr hR4 g5 (by omega)
            have t5 := kN5.1.1
            -- bringers
            obtain ⟨b1, b2, b3, b4⟩ := kN5.2.2.1 V.length (by omega)
            dsimp only at b1 b2 b3 b4
            rw [if_pos rfl] at b1 b2 b3 b4
            rw [vn_last] at b2
            obtain ⟨h6, e6, g6, n6⟩ := q5_allBroughtBy b2 (w := (V.length : Int)) hD1
            have kN6 := kN_fr kN5 g6 (Or.inr ⟨V.length, by omega, by rw [if_pos rfl], by rw [if_pos rfl]⟩)
            have hSc6 := KSc_sm hSc5 (SM.fr g6 (by omega)) (SM.fr g6 (by omega))
            have hR6 := kR_fr hR5 g6 (by omega)
            have vD : vn (V ++ [(D, p, q, (1 : Int))]) V.length = (D, p, q, 1) := vn_last
            obtain ⟨h7, tq, e7, e8, kN7, hSc7, hR7, nn7, i7, o7', q7'⟩ := q6_leadTo kN6 hSc6 oV' hVl (p := q) (by omega)
            rw [vD] at hR7 q7'
            obtain ⟨h8, tp, e9, e10, kN8, hSc8, hR8, nn8, i8, o8', q8'⟩ := q6_leadTo kN7 hSc7 oV' hVl (p := p) (by omega)
            rw [vD] at hR8 q8'
            dsimp only at e8 e10 o7' o8' q7' q8'
            rw [if_pos rfl] at e8 e10
            have kv6 := (kN6.2.2.1 V.length (by omega)).2.1
            dsimp only at kv6
            rw [if_pos rfl, vn_last] at kv6
            have kv7 := (kN7.2.2.1 V.length (by omega)).2.1
            dsimp only at kv7
            rw [if_pos rfl, vn_last] at kv7
            have ta5 := b2.1
            have ta6 := kv6.1
            have fa6 := kv6.2.2.2.2.2.2.1
            have ta7 := kv7.1
            have fa7 := kv7.2.2.2.2.2.1
            dsimp only at fa6 fa7
            have tx6 := kN6.1.1
            have tx7 := kN7.1.1
            have eL : X6_leadBack x (V.length : Int) (some (ah_S h)) h5 = some ((), h8) := by
              simp (disch := omega) only [X6_leadBack, rr_p, rr_bp, rr_bb, rr_0, rr_lt, rr_blt, rr_le, rr_ble, rr_eq, rr_beq, rr_nl_n, rr_nl_s, rr_bnl_n, rr_bnl_s, rr_cond_t, rr_cond_f, rr_bcond_t, rr_bcond_f, rr_bon, rr_bcv, rr_cv, rr_g, rr_gr, rr_si, rr_sz, rr_sr, rr_al, rr_ld, rr_st, rr_rl, rr_rs, rr_ni, rr_nr, rr_z, rr_div, rr_rem, rr_lc, rr_mx, rr_mn, rr_ab, rr_no, gd_t, bc_t, bc_f, gd_tt, bc_tt, bc_ff, or_true, true_or, and_true, true_and, Nat.reduceAdd, mo_b_s e6, fa6, mo_b_s e7, mo_b_s e8, fa7, mo_b_s e9, mo_b_s e10]
            have ta3 := kv3.1
            have pa3 : ah_P h2 (ah_S h) 0 = some (ah_S h + 1) := pa
            have tr2 := ra.1
            have tx2 : ah_T h2 x = 16 := by rw [(s20 x (by omega) (by omega)).1]; exact tx
            have px2 : ah_P h2 x 0 = some (x + 1) := by rw [(s20 x (by omega) (by omega)).2.2.2.1]; exact p0
            refine ⟨h8, ?_, ?_⟩
            · by_cases q1 : q = -1
              · simp (disch := omega) only [X6_keep, rr_p, rr_bp, rr_bb, rr_0, rr_lt, rr_blt, rr_le, rr_ble, rr_eq, rr_beq, rr_nl_n, rr_nl_s, rr_bnl_n, rr_bnl_s, rr_cond_t, rr_cond_f, rr_bcond_t, rr_bcond_f, rr_bon, rr_bcv, rr_cv, rr_g, rr_gr, rr_si, rr_sz, rr_sr, rr_al, rr_ld, rr_st, rr_rl, rr_rs, rr_ni, rr_nr, rr_z, rr_div, rr_rem, rr_lc, rr_mx, rr_mn, rr_ab, rr_no, gd_t, bc_t, bc_f, gd_tt, bc_tt, bc_ff, or_true, true_or, and_true, true_and, Nat.reduceAdd, hl_T_sF, hl_N_sF, hl_P_sF, hl_I_sF, hl_R_sF, hl_S_sF, hl_T_sP, hl_N_sP, hl_F_sP, hl_I_sP, hl_R_sP, hl_S_sP, hl_T_sI, hl_N_sI, hl_F_sI, hl_P_sI, hl_R_sI, hl_S_sI, hl_T_sR, hl_N_sR, hl_F_sR, hl_P_sR, hl_I_sR, hl_S_sR, hl_T_wI, hl_N_wI, hl_F_wI, hl_P_wI, hl_R_wI, hl_S_wI, hl_F_sF_s, hl_F_sF_n, hl_P_sP_s, hl_P_sP_n, hl_I_sI_s, hl_I_sI_n, hl_R_sR_s, hl_R_sR_n, hl_I_wI_s, hl_I_wI_n, mo_b_s e1, mo_b_s e2, f3, mo_b_s e3, pa3, px2, mo_b_s e4, z3, yp2, mo_b_s e5, mo_b_s eL]
              · have n1 : p ≠ q := fun z => c2 ⟨q1, Or.inl z⟩
                have n2 : p ≠ -1 := fun z => c2 ⟨q1, Or.inr z⟩
                simp (disch := omega) only [X6_keep, rr_p, rr_bp, rr_bb, rr_0, rr_lt, rr_blt, rr_le, rr_ble, rr_eq, rr_beq, rr_nl_n, rr_nl_s, rr_bnl_n, rr_bnl_s, rr_cond_t, rr_cond_f, rr_bcond_t, rr_bcond_f, rr_bon, rr_bcv, rr_cv, rr_g, rr_gr, rr_si, rr_sz, rr_sr, rr_al, rr_ld, rr_st, rr_rl, rr_rs, rr_ni, rr_nr, rr_z, rr_div, rr_rem, rr_lc, rr_mx, rr_mn, rr_ab, rr_no, gd_t, bc_t, bc_f, gd_tt, bc_tt, bc_ff, or_true, true_or, and_true, true_and, Nat.reduceAdd, hl_T_sF, hl_N_sF, hl_P_sF, hl_I_sF, hl_R_sF, hl_S_sF, hl_T_sP, hl_N_sP, hl_F_sP, hl_I_sP, hl_R_sP, hl_S_sP, hl_T_sI, hl_N_sI, hl_F_sI, hl_P_sI, hl_R_sI, hl_S_sI, hl_T_sR, hl_N_sR, hl_F_sR, hl_P_sR, hl_I_sR, hl_S_sR, hl_T_wI, hl_N_wI, hl_F_wI, hl_P_wI, hl_R_wI, hl_S_wI, hl_F_sF_s, hl_F_sF_n, hl_P_sP_s, hl_P_sP_n, hl_I_sI_s, hl_I_sI_n, hl_R_sR_s, hl_R_sR_n, hl_I_wI_s, hl_I_wI_n, mo_b_s e1, mo_b_s e2, f3, mo_b_s e3, pa3, px2, mo_b_s e4, z3, yp2, mo_b_s e5, mo_b_s eL]
            · -- the state after
              have I7 : ∀ u v : Nat, ah_I h8 (x + 7) ((u : Int) * 10 + (v : Int)) = ah_I h5 (x + 7) ((u : Int) * 10 + (v : Int)) := fun u v => by
                rw [i8, i7, g6.2.2.2.2.2.2 (x + 7) (by omega)]
              have I3 : ∀ v, v < V.length → ah_I h8 (A v + 3) = ah_I h (A v + 3) := fun v hv => by
                have a1 := o8' v hv
                have a2 := o7' v hv
                rw [if_neg (by omega)] at a1 a2
                obtain ⟨a3, a4, a5, a6, -⟩ := hA v hv
                rw [a1, a2, g6.2.2.2.2.2.2 (A v + 3) (by omega), g5.2.2.2.2.2.2 (A v + 3) (by omega), (sR (A v + 3) (A v + 4) (by omega) (A v + 3) (by omega) (by omega)).2.2.2.2.1, (s30 (A v + 3) (by omega) (by omega)).2.2.2.2.1]
              have hpar := OV_par oV
              have hpar' := OV_par oV'
              refine ⟨?_, ?_, hSc8, (fun v => if v = V.length then ah_S h else A v), B, kN8.1, kN8.2.1, fun v hv => ?_, kN8.2.2.2.1, fun u v hu hv => ?_, kN8.2.2.2.2⟩
              · exact hR8 (hR7 hR6)
              · have hSF : ah_N h5 (x + 2) = ah_N h3 (x + 2) := by rw [g5.2.1]; rfl
                rw [nn8, nn7, g6.2.1, hSF]; exact nD3
              · dsimp only at hv
                obtain ⟨c1, c2, c3, c4⟩ := kN8.2.2.1 v hv
                refine ⟨c1, c2, c3, c4, fun i hi => ?_⟩
                rw [hVl] at hv
                dsimp only
                by_cases cv : v = V.length
                · subst cv
                  rw [if_pos rfl]
                  dsimp only at hi
                  rw [vn_last] at hi
                  dsimp only at hi
                  have w8 := q8' i hi
                  rw [if_pos rfl] at w8
                  have w7 := q7' i hi
                  rw [if_pos rfl] at w7
                  have par : ∀ (r : Int), -1 ≤ r → r < V.length → ledP (V ++ [(D, p, q, (1 : Int))]) V.length r (i : Int) ≠ -1 → ah_I h (A r.toNat + 3) (ledP (V ++ [(D, p, q, (1 : Int))]) V.length r (i : Int)) = bro (V ++ [(D, p, q, (1 : Int))]) (r.toNat + 1) r.toNat (ledP (V ++ [(D, p, q, (1 : Int))]) V.length r (i : Int)) := by
                    intro r r1 r2 r3
                    have r4 := ledP_n r3
                    have lr := @ledP_r (V ++ [(D, p, q, (1 : Int))]) V.length r (i : Int) (by omega)
                    rw [vn_app_l (by omega)] at lr
                    obtain ⟨a1, a2, a3, a4, a5⟩ := hA r.toNat (by omega)
                    have := a5 (ledP (V ++ [(D, p, q, (1 : Int))]) V.length r (i : Int)).toNat (by omega)
                    rw [Int.toNat_of_nonneg (by omega)] at this
                    rw [this, bro_app hpar _ _ _ (by omega)]
                  have pe : (vn (V ++ [(D, p, q, (1 : Int))]) V.length).2.1 = p := by rw [vn_last]
                  have qe : (vn (V ++ [(D, p, q, (1 : Int))]) V.length).2.2.1 = q := by rw [vn_last]
                  by_cases l1 : ledP (V ++ [(D, p, q, (1 : Int))]) V.length p (i : Int) = -1
                  · rw [if_pos l1] at w8
                    by_cases l2 : ledP (V ++ [(D, p, q, (1 : Int))]) V.length q (i : Int) = -1
                    · rw [if_pos l2] at w7
                      rw [bro_3 (by rw [pe]; exact l1) (by rw [qe]; exact l2), w8, w7]
                      exact n6 i hi
                    · rw [if_neg l2] at w7
                      have hb := bro_2 hpar' (v := V.length) (a := (i : Int)) (by omega) (by rw [pe]; exact l1) (by rw [qe]; exact l2)
                      rw [qe] at hb
                      have qn := ledP_n l2
                      rw [if_neg (by omega)] at w7
                      obtain ⟨a1, a2, a3, a4, -⟩ := hA q.toNat (by omega)
                      have iq : ah_I h6 (A q.toNat + 3) = ah_I h (A q.toNat + 3) := by
                        rw [g6.2.2.2.2.2.2 (A q.toNat + 3) (by omega), g5.2.2.2.2.2.2 (A q.toNat + 3) (by omega), (sR (A q.toNat + 3) (A q.toNat + 4) (by omega) (A q.toNat + 3) (by omega) (by omega)).2.2.2.2.1, (s30 (A q.toNat + 3) (by omega) (by omega)).2.2.2.2.1]
                      rw [hb, w8, w7, iq]
                      exact par q cq.1 cq.2 l2
                  · rw [if_neg l1] at w8
                    have hb := bro_1 hpar' (v := V.length) (a := (i : Int)) (by omega) (by rw [pe]; exact l1)
                    rw [pe] at hb
                    have pn := ledP_n l1
                    rw [if_neg (by omega)] at w8
                    obtain ⟨a1, a2, a3, a4, -⟩ := hA p.toNat (by omega)
                    have ip : ah_I h7 (A p.toNat + 3) = ah_I h (A p.toNat + 3) := by
                      have a7 := o7' p.toNat (by omega)
                      rw [if_neg (by omega)] at a7
                      rw [a7, g6.2.2.2.2.2.2 (A p.toNat + 3) (by omega), g5.2.2.2.2.2.2 (A p.toNat + 3) (by omega), (sR (A p.toNat + 3) (A p.toNat + 4) (by omega) (A p.toNat + 3) (by omega) (by omega)).2.2.2.2.1, (s30 (A p.toNat + 3) (by omega) (by omega)).2.2.2.2.1]
                    rw [hb, w8, ip]
                    exact par p cp.1 cp.2 l1
                · rw [if_neg cv]
                  dsimp only at hi
                  rw [vn_app_l (by omega)] at hi
                  rw [I3 v (by omega), bro_app hpar _ _ _ (by omega)]
                  exact (hA v (by omega)).2.2.2.2 i hi
              · dsimp only at hu hv ⊢
                rw [hVl] at hu hv
                rw [I7]
                by_cases cu : u = V.length
                · subst cu
                  have := (n5 v (by omega)).2
                  exact this
                · by_cases cv : v = V.length
                  · subst cv
                    exact (n5 u (by omega)).1
                  · have i4 : ah_I (ah_sF (ah_sR h3 (x + 5) (V.length : Int) (some (ah_S h))) x 3 ((V.length : Int) + 1)) (x + 7) = ah_I h3 (x + 7) := rfl
                    rw [m5 u v (by omega) (by omega), i4, vn_app_l (by omega), vn_app_l (by omega)]
                    exact hM3 u v (by omega) (by omega)
          · intro m h hM
            obtain ⟨mT, f2, -, -⟩ := MV m h hM
            have hS := hM.1
            obtain ⟨p1, t1, n1⟩ := ms1 hS
            obtain ⟨p2, t2, n2⟩ := ms2 hS
            obtain ⟨p3, t3, n3⟩ := ms3 hS
            obtain ⟨p4, t4, n4⟩ := ms4 hS
            obtain ⟨p5, t5, n5⟩ := ms5 hS
            obtain ⟨p6, t6, n6⟩ := ms6 hS
            have f0 := hM.2.1.1
            dsimp only at f0
            have hL := lp_cp (F := X7_keep_L61 m) (h := h) (a := m + 3) (n := D.length) (14 * (V.length : Int)) (fun k => ah_I h (m + 1) k) (by omega) (fun k g hk => by simp (disch := omega) only [X7_keep_L61, rr_p, rr_bp, rr_bb, rr_0, rr_lt, rr_blt, rr_le, rr_ble, rr_eq, rr_beq, rr_nl_n, rr_nl_s, rr_bnl_n, rr_bnl_s, rr_cond_t, rr_cond_f, rr_bcond_t, rr_bcond_f, rr_bon, rr_bcv, rr_cv, rr_g, rr_gr, rr_si, rr_sz, rr_sr, rr_al, rr_ld, rr_st, rr_rl, rr_rs, rr_ni, rr_nr, rr_z, rr_div, rr_rem, rr_lc, rr_mx, rr_mn, rr_ab, rr_no, gd_t, bc_t, bc_f, gd_tt, bc_tt, bc_ff, or_true, true_or, and_true, true_and, Nat.reduceAdd, hl_T_sF, hl_N_sF, hl_P_sF, hl_I_sF, hl_R_sF, hl_S_sF, hl_T_sP, hl_N_sP, hl_F_sP, hl_I_sP, hl_R_sP, hl_S_sP, hl_T_sI, hl_N_sI, hl_F_sI, hl_P_sI, hl_R_sI, hl_S_sI, hl_T_sR, hl_N_sR, hl_F_sR, hl_P_sR, hl_I_sR, hl_S_sR, hl_T_wI, hl_N_wI, hl_F_wI, hl_P_wI, hl_R_wI, hl_S_wI, hl_F_sF_s, hl_F_sF_n, hl_P_sP_s, hl_P_sP_n, hl_I_sI_s, hl_I_sI_n, hl_R_sR_s, hl_R_sR_n, hl_I_wI_s, hl_I_wI_n, f0, f2, p1, p3, hl_sI_wI]) (fun g => by simp (disch := omega) only [X7_keep_L61, rr_p, rr_bp, rr_bb, rr_0, rr_lt, rr_blt, rr_le, rr_ble, rr_eq, rr_beq, rr_nl_n, rr_nl_s, rr_bnl_n, rr_bnl_s, rr_cond_t, rr_cond_f, rr_bcond_t, rr_bcond_f, rr_bon, rr_bcv, rr_cv, rr_g, rr_gr, rr_si, rr_sz, rr_sr, rr_al, rr_ld, rr_st, rr_rl, rr_rs, rr_ni, rr_nr, rr_z, rr_div, rr_rem, rr_lc, rr_mx, rr_mn, rr_ab, rr_no, gd_t, bc_t, bc_f, gd_tt, bc_tt, bc_ff, or_true, true_or, and_true, true_and, Nat.reduceAdd, hl_T_sF, hl_N_sF, hl_P_sF, hl_I_sF, hl_R_sF, hl_S_sF, hl_T_sP, hl_N_sP, hl_F_sP, hl_I_sP, hl_R_sP, hl_S_sP, hl_T_sI, hl_N_sI, hl_F_sI, hl_P_sI, hl_R_sI, hl_S_sI, hl_T_sR, hl_N_sR, hl_F_sR, hl_P_sR, hl_I_sR, hl_S_sR, hl_T_wI, hl_N_wI, hl_F_wI, hl_P_wI, hl_R_wI, hl_S_wI, hl_F_sF_s, hl_F_sF_n, hl_P_sP_s, hl_P_sP_n, hl_I_sI_s, hl_I_sI_n, hl_R_sR_s, hl_R_sR_n, hl_I_wI_s, hl_I_wI_n, f0, f2, p1, p3])
            generalize hg : (fun y => if 14 * (V.length : Int) ≤ y ∧ y < 14 * (V.length : Int) + (D.length : Int) then ah_I h (m + 1) (y - 14 * (V.length : Int)) else ah_I h (m + 3) y) = g at hL
            have e11 : (V.length : Int) + 1 - 1 = (V.length : Int) := by omega
            have FF : MF m 2 7 2 3 h (ah_sF (ah_sI (ah_sI (ah_sI (ah_sI (ah_wI h (m + 3) g) (m + 2) (V.length : Int) (D.length : Int)) (m + 4) (V.length : Int) p) (m + 5) (V.length : Int) q) (m + 6) (V.length : Int) 1) m 2 ((V.length : Int) + 1)) :=
              (((((MF.wI (al := 2) (ah_ := 7) (fl := 2) (fh := 3) (by omega) (by omega)).tr (MF.sI (al := 2) (ah_ := 7) (fl := 2) (fh := 3) (by omega) (by omega)) (a3 := 2) (b3 := 7) (c3 := 2) (d3 := 3) (by omega)).tr (MF.sI (al := 2) (ah_ := 7) (fl := 2) (fh := 3) (by omega) (by omega)) (a3 := 2) (b3 := 7) (c3 := 2) (d3 := 3) (by omega)).tr (MF.sI (al := 2) (ah_ := 7) (fl := 2) (fh := 3) (by omega) (by omega)) (a3 := 2) (b3 := 7) (c3 := 2) (d3 := 3) (by omega)).tr (MF.sI (al := 2) (ah_ := 7) (fl := 2) (fh := 3) (by omega) (by omega)) (a3 := 2) (b3 := 7) (c3 := 2) (d3 := 3) (by omega)).tr (MF.sF (al := 2) (ah_ := 7) (fl := 2) (fh := 3) (by omega) (by omega)) (by omega)
            refine ⟨_, ?_, ⟨mS_fr hS FF, mDesk_fr hM.2.1 FF (by omega), ⟨?_, fun v hv => ?_⟩, mPat_fr hM.2.2.2.1 FF (by omega), by rw [FF.2.2.2.2.2 15 (by omega)]; exact hM.2.2.2.2⟩⟩
            · show X7_keep m p q h = _
              unfold X7_keep
              rw [MC m h hM _ rfl]
              simp only [rr_cond_f]
              rw [KC2]
              simp (disch := omega) only [rr_p, rr_bp, rr_bb, rr_0, rr_lt, rr_blt, rr_le, rr_ble, rr_eq, rr_beq, rr_nl_n, rr_nl_s, rr_bnl_n, rr_bnl_s, rr_cond_t, rr_cond_f, rr_bcond_t, rr_bcond_f, rr_bon, rr_bcv, rr_cv, rr_g, rr_gr, rr_si, rr_sz, rr_sr, rr_al, rr_ld, rr_st, rr_rl, rr_rs, rr_ni, rr_nr, rr_z, rr_div, rr_rem, rr_lc, rr_mx, rr_mn, rr_ab, rr_no, gd_t, bc_t, bc_f, gd_tt, bc_tt, bc_ff, or_true, true_or, and_true, true_and, Nat.reduceAdd, hl_T_sF, hl_N_sF, hl_P_sF, hl_I_sF, hl_R_sF, hl_S_sF, hl_T_sP, hl_N_sP, hl_F_sP, hl_I_sP, hl_R_sP, hl_S_sP, hl_T_sI, hl_N_sI, hl_F_sI, hl_P_sI, hl_R_sI, hl_S_sI, hl_T_sR, hl_N_sR, hl_F_sR, hl_P_sR, hl_I_sR, hl_S_sR, hl_T_wI, hl_N_wI, hl_F_wI, hl_P_wI, hl_R_wI, hl_S_wI, hl_F_sF_s, hl_F_sF_n, hl_P_sP_s, hl_P_sP_n, hl_I_sI_s, hl_I_sI_n, hl_R_sR_s, hl_R_sR_n, hl_I_wI_s, hl_I_wI_n, f2, f0, mo_b_s hL, p2, p4, p5, p6, e11]
            · simp (disch := omega) only [hl_T_sF, hl_N_sF, hl_P_sF, hl_I_sF, hl_R_sF, hl_S_sF, hl_T_sP, hl_N_sP, hl_F_sP, hl_I_sP, hl_R_sP, hl_S_sP, hl_T_sI, hl_N_sI, hl_F_sI, hl_P_sI, hl_R_sI, hl_S_sI, hl_T_sR, hl_N_sR, hl_F_sR, hl_P_sR, hl_I_sR, hl_S_sR, hl_T_wI, hl_N_wI, hl_F_wI, hl_P_wI, hl_R_wI, hl_S_wI, hl_F_sF_s, hl_F_sF_n, hl_P_sP_s, hl_P_sP_n, hl_I_sI_s, hl_I_sI_n, hl_R_sR_s, hl_R_sR_n, hl_I_wI_s, hl_I_wI_n, hVl, Int.natCast_add, Int.natCast_one]
            · dsimp only at hv ⊢
              rw [hVl] at hv
              by_cases cv : v = V.length
              · subst cv
                rw [vn_last]
                refine ⟨?_, fun k hk1 => ?_, ?_, ?_, ?_⟩
                · simp (disch := omega) only [hl_T_sF, hl_N_sF, hl_P_sF, hl_I_sF, hl_R_sF, hl_S_sF, hl_T_sP, hl_N_sP, hl_F_sP, hl_I_sP, hl_R_sP, hl_S_sP, hl_T_sI, hl_N_sI, hl_F_sI, hl_P_sI, hl_R_sI, hl_S_sI, hl_T_sR, hl_N_sR, hl_F_sR, hl_P_sR, hl_I_sR, hl_S_sR, hl_T_wI, hl_N_wI, hl_F_wI, hl_P_wI, hl_R_wI, hl_S_wI, hl_F_sF_s, hl_F_sF_n, hl_P_sP_s, hl_P_sP_n, hl_I_sI_s, hl_I_sI_n, hl_R_sR_s, hl_R_sR_n, hl_I_wI_s, hl_I_wI_n]
                · simp (disch := omega) only [hl_T_sF, hl_N_sF, hl_P_sF, hl_I_sF, hl_R_sF, hl_S_sF, hl_T_sP, hl_N_sP, hl_F_sP, hl_I_sP, hl_R_sP, hl_S_sP, hl_T_sI, hl_N_sI, hl_F_sI, hl_P_sI, hl_R_sI, hl_S_sI, hl_T_sR, hl_N_sR, hl_F_sR, hl_P_sR, hl_I_sR, hl_S_sR, hl_T_wI, hl_N_wI, hl_F_wI, hl_P_wI, hl_R_wI, hl_S_wI, hl_F_sF_s, hl_F_sF_n, hl_P_sP_s, hl_P_sP_n, hl_I_sI_s, hl_I_sI_n, hl_R_sR_s, hl_R_sR_n, hl_I_wI_s, hl_I_wI_n]
                  dsimp only at hk1
                  rw [← hg]
                  dsimp only
                  rw [if_pos (by omega), show 14 * (V.length : Int) + (k : Int) - 14 * (V.length : Int) = (k : Int) by omega]
                  exact hM.2.1.2 k hk1
                · simp (disch := omega) only [hl_T_sF, hl_N_sF, hl_P_sF, hl_I_sF, hl_R_sF, hl_S_sF, hl_T_sP, hl_N_sP, hl_F_sP, hl_I_sP, hl_R_sP, hl_S_sP, hl_T_sI, hl_N_sI, hl_F_sI, hl_P_sI, hl_R_sI, hl_S_sI, hl_T_sR, hl_N_sR, hl_F_sR, hl_P_sR, hl_I_sR, hl_S_sR, hl_T_wI, hl_N_wI, hl_F_wI, hl_P_wI, hl_R_wI, hl_S_wI, hl_F_sF_s, hl_F_sF_n, hl_P_sP_s, hl_P_sP_n, hl_I_sI_s, hl_I_sI_n, hl_R_sR_s, hl_R_sR_n, hl_I_wI_s, hl_I_wI_n]
                · simp (disch := omega) only [hl_T_sF, hl_N_sF, hl_P_sF, hl_I_sF, hl_R_sF, hl_S_sF, hl_T_sP, hl_N_sP, hl_F_sP, hl_I_sP, hl_R_sP, hl_S_sP, hl_T_sI, hl_N_sI, hl_F_sI, hl_P_sI, hl_R_sI, hl_S_sI, hl_T_sR, hl_N_sR, hl_F_sR, hl_P_sR, hl_I_sR, hl_S_sR, hl_T_wI, hl_N_wI, hl_F_wI, hl_P_wI, hl_R_wI, hl_S_wI, hl_F_sF_s, hl_F_sF_n, hl_P_sP_s, hl_P_sP_n, hl_I_sI_s, hl_I_sI_n, hl_R_sR_s, hl_R_sR_n, hl_I_wI_s, hl_I_wI_n]
                · simp (disch := omega) only [hl_T_sF, hl_N_sF, hl_P_sF, hl_I_sF, hl_R_sF, hl_S_sF, hl_T_sP, hl_N_sP, hl_F_sP, hl_I_sP, hl_R_sP, hl_S_sP, hl_T_sI, hl_N_sI, hl_F_sI, hl_P_sI, hl_R_sI, hl_S_sI, hl_T_sR, hl_N_sR, hl_F_sR, hl_P_sR, hl_I_sR, hl_S_sR, hl_T_wI, hl_N_wI, hl_F_wI, hl_P_wI, hl_R_wI, hl_S_wI, hl_F_sF_s, hl_F_sF_n, hl_P_sP_s, hl_P_sP_n, hl_I_sI_s, hl_I_sI_n, hl_R_sR_s, hl_R_sR_n, hl_I_wI_s, hl_I_wI_n]
              · rw [vn_app_l (by omega)]
                obtain ⟨a1, a2, a3, a4, a5⟩ := hM.2.2.1.2 v (by dsimp only; omega)
                dsimp only at a1 a2 a3 a4 a5
                have lv := (oV.2 v (by omega)).1
                refine ⟨?_, fun k hk1 => ?_, ?_, ?_, ?_⟩
                · simp (disch := omega) only [hl_T_sF, hl_N_sF, hl_P_sF, hl_I_sF, hl_R_sF, hl_S_sF, hl_T_sP, hl_N_sP, hl_F_sP, hl_I_sP, hl_R_sP, hl_S_sP, hl_T_sI, hl_N_sI, hl_F_sI, hl_P_sI, hl_R_sI, hl_S_sI, hl_T_sR, hl_N_sR, hl_F_sR, hl_P_sR, hl_I_sR, hl_S_sR, hl_T_wI, hl_N_wI, hl_F_wI, hl_P_wI, hl_R_wI, hl_S_wI, hl_F_sF_s, hl_F_sF_n, hl_P_sP_s, hl_P_sP_n, hl_I_sI_s, hl_I_sI_n, hl_R_sR_s, hl_R_sR_n, hl_I_wI_s, hl_I_wI_n]; exact a1
                · simp (disch := omega) only [hl_T_sF, hl_N_sF, hl_P_sF, hl_I_sF, hl_R_sF, hl_S_sF, hl_T_sP, hl_N_sP, hl_F_sP, hl_I_sP, hl_R_sP, hl_S_sP, hl_T_sI, hl_N_sI, hl_F_sI, hl_P_sI, hl_R_sI, hl_S_sI, hl_T_sR, hl_N_sR, hl_F_sR, hl_P_sR, hl_I_sR, hl_S_sR, hl_T_wI, hl_N_wI, hl_F_wI, hl_P_wI, hl_R_wI, hl_S_wI, hl_F_sF_s, hl_F_sF_n, hl_P_sP_s, hl_P_sP_n, hl_I_sI_s, hl_I_sI_n, hl_R_sR_s, hl_R_sR_n, hl_I_wI_s, hl_I_wI_n]
                  rw [← hg]
                  dsimp only
                  rw [if_neg (by omega)]
                  exact a2 k hk1
                · simp (disch := omega) only [hl_T_sF, hl_N_sF, hl_P_sF, hl_I_sF, hl_R_sF, hl_S_sF, hl_T_sP, hl_N_sP, hl_F_sP, hl_I_sP, hl_R_sP, hl_S_sP, hl_T_sI, hl_N_sI, hl_F_sI, hl_P_sI, hl_R_sI, hl_S_sI, hl_T_sR, hl_N_sR, hl_F_sR, hl_P_sR, hl_I_sR, hl_S_sR, hl_T_wI, hl_N_wI, hl_F_wI, hl_P_wI, hl_R_wI, hl_S_wI, hl_F_sF_s, hl_F_sF_n, hl_P_sP_s, hl_P_sP_n, hl_I_sI_s, hl_I_sI_n, hl_R_sR_s, hl_R_sR_n, hl_I_wI_s, hl_I_wI_n]; exact a3
                · simp (disch := omega) only [hl_T_sF, hl_N_sF, hl_P_sF, hl_I_sF, hl_R_sF, hl_S_sF, hl_T_sP, hl_N_sP, hl_F_sP, hl_I_sP, hl_R_sP, hl_S_sP, hl_T_sI, hl_N_sI, hl_F_sI, hl_P_sI, hl_R_sI, hl_S_sI, hl_T_sR, hl_N_sR, hl_F_sR, hl_P_sR, hl_I_sR, hl_S_sR, hl_T_wI, hl_N_wI, hl_F_wI, hl_P_wI, hl_R_wI, hl_S_wI, hl_F_sF_s, hl_F_sF_n, hl_P_sP_s, hl_P_sP_n, hl_I_sI_s, hl_I_sI_n, hl_R_sR_s, hl_R_sR_n, hl_I_wI_s, hl_I_wI_n]; exact a4
                · simp (disch := omega) only [hl_T_sF, hl_N_sF, hl_P_sF, hl_I_sF, hl_R_sF, hl_S_sF, hl_T_sP, hl_N_sP, hl_F_sP, hl_I_sP, hl_R_sP, hl_S_sP, hl_T_sI, hl_N_sI, hl_F_sI, hl_P_sI, hl_R_sI, hl_S_sI, hl_T_sR, hl_N_sR, hl_F_sR, hl_P_sR, hl_I_sR, hl_S_sR, hl_T_wI, hl_N_wI, hl_F_wI, hl_P_wI, hl_R_wI, hl_S_wI, hl_F_sF_s, hl_F_sF_n, hl_P_sP_s, hl_P_sP_n, hl_I_sI_s, hl_I_sI_n, hl_R_sR_s, hl_R_sR_n, hl_I_wI_s, hl_I_wI_n]; exact a5
        · refine CJ.same (-104) ho ?_ ?_
          · intro x h hK
            obtain ⟨tx, f3, e1, e2⟩ := KV x h hK
            rw [bc_t cp] at e1
            rw [bc_t cq] at e2
            by_cases q1 : q = -1
            · simp (disch := omega) only [X6_keep, rr_p, rr_bp, rr_bb, rr_0, rr_lt, rr_blt, rr_le, rr_ble, rr_eq, rr_beq, rr_nl_n, rr_nl_s, rr_bnl_n, rr_bnl_s, rr_cond_t, rr_cond_f, rr_bcond_t, rr_bcond_f, rr_bon, rr_bcv, rr_cv, rr_g, rr_gr, rr_si, rr_sz, rr_sr, rr_al, rr_ld, rr_st, rr_rl, rr_rs, rr_ni, rr_nr, rr_z, rr_div, rr_rem, rr_lc, rr_mx, rr_mn, rr_ab, rr_no, gd_t, bc_t, bc_f, gd_tt, bc_tt, bc_ff, or_true, true_or, and_true, true_and, Nat.reduceAdd, mo_b_s e1, mo_b_s e2, f3]
            · have n1 : p ≠ q := fun z => c2 ⟨q1, Or.inl z⟩
              have n2 : p ≠ -1 := fun z => c2 ⟨q1, Or.inr z⟩
              simp (disch := omega) only [X6_keep, rr_p, rr_bp, rr_bb, rr_0, rr_lt, rr_blt, rr_le, rr_ble, rr_eq, rr_beq, rr_nl_n, rr_nl_s, rr_bnl_n, rr_bnl_s, rr_cond_t, rr_cond_f, rr_bcond_t, rr_bcond_f, rr_bon, rr_bcv, rr_cv, rr_g, rr_gr, rr_si, rr_sz, rr_sr, rr_al, rr_ld, rr_st, rr_rl, rr_rs, rr_ni, rr_nr, rr_z, rr_div, rr_rem, rr_lc, rr_mx, rr_mn, rr_ab, rr_no, gd_t, bc_t, bc_f, gd_tt, bc_tt, bc_ff, or_true, true_or, and_true, true_and, Nat.reduceAdd, mo_b_s e1, mo_b_s e2, f3]
          · intro m h hM
            obtain ⟨mT, f2, -, -⟩ := MV m h hM
            unfold X7_keep
            rw [MC m h hM _ rfl]
            simp only [rr_cond_f]
            rw [KC2]
            simp (disch := omega) only [rr_p, rr_bp, rr_bb, rr_0, rr_lt, rr_blt, rr_le, rr_ble, rr_eq, rr_beq, rr_nl_n, rr_nl_s, rr_bnl_n, rr_bnl_s, rr_cond_t, rr_cond_f, rr_bcond_t, rr_bcond_f, rr_bon, rr_bcv, rr_cv, rr_g, rr_gr, rr_si, rr_sz, rr_sr, rr_al, rr_ld, rr_st, rr_rl, rr_rs, rr_ni, rr_nr, rr_z, rr_div, rr_rem, rr_lc, rr_mx, rr_mn, rr_ab, rr_no, gd_t, bc_t, bc_f, gd_tt, bc_tt, bc_ff, or_true, true_or, and_true, true_and, Nat.reduceAdd, f2]
    · refine CJ.same (-101) ho ?_ ?_
      · intro x h hK
        obtain ⟨tx, f3, e1, e2⟩ := KV x h hK
        rw [bc_t cp] at e1
        rw [bc_f cq] at e2
        simp (disch := omega) only [X6_keep, rr_p, rr_bp, rr_bb, rr_0, rr_lt, rr_blt, rr_le, rr_ble, rr_eq, rr_beq, rr_nl_n, rr_nl_s, rr_bnl_n, rr_bnl_s, rr_cond_t, rr_cond_f, rr_bcond_t, rr_bcond_f, rr_bon, rr_bcv, rr_cv, rr_g, rr_gr, rr_si, rr_sz, rr_sr, rr_al, rr_ld, rr_st, rr_rl, rr_rs, rr_ni, rr_nr, rr_z, rr_div, rr_rem, rr_lc, rr_mx, rr_mn, rr_ab, rr_no, gd_t, bc_t, bc_f, gd_tt, bc_tt, bc_ff, or_true, true_or, and_true, true_and, Nat.reduceAdd, mo_b_s e1, mo_b_s e2]
      · intro m h hM
        obtain ⟨mT, f2, e1, e2⟩ := MV m h hM
        rw [bc_f (by omega)] at e2
        by_cases p1 : p = -1
        · simp (disch := omega) only [X7_keep, rr_p, rr_bp, rr_bb, rr_0, rr_lt, rr_blt, rr_le, rr_ble, rr_eq, rr_beq, rr_nl_n, rr_nl_s, rr_bnl_n, rr_bnl_s, rr_cond_t, rr_cond_f, rr_bcond_t, rr_bcond_f, rr_bon, rr_bcv, rr_cv, rr_g, rr_gr, rr_si, rr_sz, rr_sr, rr_al, rr_ld, rr_st, rr_rl, rr_rs, rr_ni, rr_nr, rr_z, rr_div, rr_rem, rr_lc, rr_mx, rr_mn, rr_ab, rr_no, gd_t, bc_t, bc_f, gd_tt, bc_tt, bc_ff, or_true, true_or, and_true, true_and, Nat.reduceAdd, mo_b_s e2]
        · rw [bc_t (by omega)] at e1
          simp (disch := omega) only [X7_keep, rr_p, rr_bp, rr_bb, rr_0, rr_lt, rr_blt, rr_le, rr_ble, rr_eq, rr_beq, rr_nl_n, rr_nl_s, rr_bnl_n, rr_bnl_s, rr_cond_t, rr_cond_f, rr_bcond_t, rr_bcond_f, rr_bon, rr_bcv, rr_cv, rr_g, rr_gr, rr_si, rr_sz, rr_sr, rr_al, rr_ld, rr_st, rr_rl, rr_rs, rr_ni, rr_nr, rr_z, rr_div, rr_rem, rr_lc, rr_mx, rr_mn, rr_ab, rr_no, gd_t, bc_t, bc_f, gd_tt, bc_tt, bc_ff, or_true, true_or, and_true, true_and, Nat.reduceAdd, mo_b_s e1, mo_b_s e2]
  · refine CJ.same (-101) ho ?_ ?_
    · intro x h hK
      obtain ⟨tx, f3, e1, e2⟩ := KV x h hK
      rw [bc_f cp] at e1
      simp (disch := omega) only [X6_keep, rr_p, rr_bp, rr_bb, rr_0, rr_lt, rr_blt, rr_le, rr_ble, rr_eq, rr_beq, rr_nl_n, rr_nl_s, rr_bnl_n, rr_bnl_s, rr_cond_t, rr_cond_f, rr_bcond_t, rr_bcond_f, rr_bon, rr_bcv, rr_cv, rr_g, rr_gr, rr_si, rr_sz, rr_sr, rr_al, rr_ld, rr_st, rr_rl, rr_rs, rr_ni, rr_nr, rr_z, rr_div, rr_rem, rr_lc, rr_mx, rr_mn, rr_ab, rr_no, gd_t, bc_t, bc_f, gd_tt, bc_tt, bc_ff, or_true, true_or, and_true, true_and, Nat.reduceAdd, mo_b_s e1]
    · intro m h hM
      obtain ⟨mT, f2, e1, e2⟩ := MV m h hM
      rw [bc_f (by omega)] at e1
      simp (disch := omega) only [X7_keep, rr_p, rr_bp, rr_bb, rr_0, rr_lt, rr_blt, rr_le, rr_ble, rr_eq, rr_beq, rr_nl_n, rr_nl_s, rr_bnl_n, rr_bnl_s, rr_cond_t, rr_cond_f, rr_bcond_t, rr_bcond_f, rr_bon, rr_bcv, rr_cv, rr_g, rr_gr, rr_si, rr_sz, rr_sr, rr_al, rr_ld, rr_st, rr_rl, rr_rs, rr_ni, rr_nr, rr_z, rr_div, rr_rem, rr_lc, rr_mx, rr_mn, rr_ab, rr_no, gd_t, bc_t, bc_f, gd_tt, bc_tt, bc_ff, or_true, true_or, and_true, true_and, Nat.reduceAdd, mo_b_s e1]
