def isA (V : List VR) (n bd : Int) : Prop := (1 ≤ n ∧ n ≤ 6 ∧ n ≤ V.length) ∧ 1 ≤ bd ∧ bd ≤ 999
theorem q6_isStore {h : AH} {x : Nat} {V : List VR} (tx : ah_T h x = 16) (f3 : ah_F h x 3 = (V.length : Int)) (oV1 : V.length ≤ 10) {n bd : Int} (hn : am_r n) (hb : am_r bd) : X6_isStore x n bd h = some (br (isA V n bd) 1 0, h) := by
  unfold am_r at hn hb
  by_cases c1 : n < 1
  · rw [bc_f (fun z => by have := z.1.1; omega)]; simp (disch := omega) only [X6_isStore, rr_p, rr_bp, rr_bb, rr_0, rr_lt, rr_blt, rr_le, rr_ble, rr_eq, rr_beq, rr_nl_n, rr_nl_s, rr_bnl_n, rr_bnl_s, rr_cond_t, rr_cond_f, rr_bcond_t, rr_bcond_f, rr_bon, rr_bcv, rr_cv, rr_g, rr_gr, rr_si, rr_sz, rr_sr, rr_al, rr_ld, rr_st, rr_rl, rr_rs, rr_ni, rr_nr, rr_z, rr_div, rr_rem, rr_lc, rr_mx, rr_mn, rr_ab, rr_no, gd_t, bc_t, bc_f, gd_tt, bc_tt, bc_ff, or_true, true_or, and_true, true_and, Nat.reduceAdd]
  · by_cases c2 : n ≤ 6
    · by_cases c3 : n ≤ V.length
      · by_cases c4 : bd < 1
        · rw [bc_f (fun z => by have := z.2.1; omega)]; simp (disch := omega) only [X6_isStore, rr_p, rr_bp, rr_bb, rr_0, rr_lt, rr_blt, rr_le, rr_ble, rr_eq, rr_beq, rr_nl_n, rr_nl_s, rr_bnl_n, rr_bnl_s, rr_cond_t, rr_cond_f, rr_bcond_t, rr_bcond_f, rr_bon, rr_bcv, rr_cv, rr_g, rr_gr, rr_si, rr_sz, rr_sr, rr_al, rr_ld, rr_st, rr_rl, rr_rs, rr_ni, rr_nr, rr_z, rr_div, rr_rem, rr_lc, rr_mx, rr_mn, rr_ab, rr_no, gd_t, bc_t, bc_f, gd_tt, bc_tt, bc_ff, or_true, true_or, and_true, true_and, Nat.reduceAdd, f3]
        · by_cases c5 : bd ≤ 999
          · rw [bc_t ⟨⟨by omega, c2, c3⟩, by omega, c5⟩]; simp (disch := omega) only [X6_isStore, rr_p, rr_bp, rr_bb, rr_0, rr_lt, rr_blt, rr_le, rr_ble, rr_eq, rr_beq, rr_nl_n, rr_nl_s, rr_bnl_n, rr_bnl_s, rr_cond_t, rr_cond_f, rr_bcond_t, rr_bcond_f, rr_bon, rr_bcv, rr_cv, rr_g, rr_gr, rr_si, rr_sz, rr_sr, rr_al, rr_ld, rr_st, rr_rl, rr_rs, rr_ni, rr_nr, rr_z, rr_div, rr_rem, rr_lc, rr_mx, rr_mn, rr_ab, rr_no, gd_t, bc_t, bc_f, gd_tt, bc_tt, bc_ff, or_true, true_or, and_true, true_and, Nat.reduceAdd, f3]
          · rw [bc_f (fun z => c5 z.2.2)]; simp (disch := omega) only [X6_isStore, rr_p, rr_bp, rr_bb, rr_0, rr_lt, rr_blt, rr_le, rr_ble, rr_eq, rr_beq, rr_nl_n, rr_nl_s, rr_bnl_n, rr_bnl_s, rr_cond_t, rr_cond_f, rr_bcond_t, rr_bcond_f, rr_bon, rr_bcv, rr_cv, rr_g, rr_gr, rr_si, rr_sz, rr_sr, rr_al, rr_ld, rr_st, rr_rl, rr_rs, rr_ni, rr_nr, rr_z, rr_div, rr_rem, rr_lc, rr_mx, rr_mn, rr_ab, rr_no, gd_t, bc_t, bc_f, gd_tt, bc_tt, bc_ff, or_true, true_or, and_true, true_and, Nat.reduceAdd, f3]
      · rw [bc_f (fun z => c3 z.1.2.2)]; simp (disch := omega) only [X6_isStore, rr_p, rr_bp, rr_bb, rr_0, rr_lt, rr_blt, rr_le, rr_ble, rr_eq, rr_beq, rr_nl_n, rr_nl_s, rr_bnl_n, rr_bnl_s, rr_cond_t, rr_cond_f, rr_bcond_t, rr_bcond_f, rr_bon, rr_bcv, rr_cv, rr_g, rr_gr, rr_si, rr_sz, rr_sr, rr_al, rr_ld, rr_st, rr_rl, rr_rs, rr_ni, rr_nr, rr_z, rr_div, rr_rem, rr_lc, rr_mx, rr_mn, rr_ab, rr_no, gd_t, bc_t, bc_f, gd_tt, bc_tt, bc_ff, or_true, true_or, and_true, true_and, Nat.reduceAdd, f3]
    · rw [bc_f (fun z => c2 z.1.2.1)]; simp (disch := omega) only [X6_isStore, rr_p, rr_bp, rr_bb, rr_0, rr_lt, rr_blt, rr_le, rr_ble, rr_eq, rr_beq, rr_nl_n, rr_nl_s, rr_bnl_n, rr_bnl_s, rr_cond_t, rr_cond_f, rr_bcond_t, rr_bcond_f, rr_bon, rr_bcv, rr_cv, rr_g, rr_gr, rr_si, rr_sz, rr_sr, rr_al, rr_ld, rr_st, rr_rl, rr_rs, rr_ni, rr_nr, rr_z, rr_div, rr_rem, rr_lc, rr_mx, rr_mn, rr_ab, rr_no, gd_t, bc_t, bc_f, gd_tt, bc_tt, bc_ff, or_true, true_or, and_true, true_and, Nat.reduceAdd]
theorem q7_isAsk {h : AH} {m : Nat} {V : List VR} (mT : ah_T h m = 17) (f2 : ah_F h m 2 = (V.length : Int)) (oV1 : V.length ≤ 10) {n bd : Int} (hn : am_r n) (hb : am_r bd) : X7_isAsk m n bd h = some (br (isA V n bd) 1 0, h) := by
  have e2 := q7_within (h := h) (v := bd) (lo := 1) (hi := 999) hb (by unfold am_r; omega) (by unfold am_r; omega)
  have key : ∀ t : Int, t = (if (V.length : Int) < 6 then (V.length : Int) else 6) → X7_within n 1 t h = some (br (1 ≤ n ∧ n ≤ 6 ∧ n ≤ V.length) 1 0, h) := by
    intro t ht
    have hr : am_r t := by
      by_cases z : (V.length : Int) < 6
      · rw [if_pos z] at ht; unfold am_r; omega
      · rw [if_neg z] at ht; unfold am_r; omega
    have e := q7_within (h := h) (v := n) (lo := 1) (hi := t) hn (by unfold am_r; omega) hr
    have eq : (1 ≤ n ∧ n ≤ t) ↔ (1 ≤ n ∧ n ≤ 6 ∧ n ≤ V.length) := by
      by_cases z : (V.length : Int) < 6
      · rw [if_pos z] at ht; omega
      · rw [if_neg z] at ht; omega
    rw [propext eq] at e; exact e
  by_cases c6 : (V.length : Int) < 6
  · have e1 := key (V.length : Int) (by rw [if_pos c6])
    by_cases d1 : 1 ≤ n ∧ n ≤ 6 ∧ n ≤ V.length
    · rw [bc_t d1] at e1
      by_cases d2 : 1 ≤ bd ∧ bd ≤ 999
      · rw [bc_t d2] at e2
        rw [bc_t ⟨d1, d2⟩]
        simp (disch := omega) only [X7_isAsk, rr_p, rr_bp, rr_bb, rr_0, rr_lt, rr_blt, rr_le, rr_ble, rr_eq, rr_beq, rr_nl_n, rr_nl_s, rr_bnl_n, rr_bnl_s, rr_cond_t, rr_cond_f, rr_bcond_t, rr_bcond_f, rr_bon, rr_bcv, rr_cv, rr_g, rr_gr, rr_si, rr_sz, rr_sr, rr_al, rr_ld, rr_st, rr_rl, rr_rs, rr_ni, rr_nr, rr_z, rr_div, rr_rem, rr_lc, rr_mx, rr_mn, rr_ab, rr_no, gd_t, bc_t, bc_f, gd_tt, bc_tt, bc_ff, or_true, true_or, and_true, true_and, Nat.reduceAdd, f2, mo_b_s e1, mo_b_s e2]
      · rw [bc_f d2] at e2
        rw [bc_f (fun z => d2 z.2)]
        simp (disch := omega) only [X7_isAsk, rr_p, rr_bp, rr_bb, rr_0, rr_lt, rr_blt, rr_le, rr_ble, rr_eq, rr_beq, rr_nl_n, rr_nl_s, rr_bnl_n, rr_bnl_s, rr_cond_t, rr_cond_f, rr_bcond_t, rr_bcond_f, rr_bon, rr_bcv, rr_cv, rr_g, rr_gr, rr_si, rr_sz, rr_sr, rr_al, rr_ld, rr_st, rr_rl, rr_rs, rr_ni, rr_nr, rr_z, rr_div, rr_rem, rr_lc, rr_mx, rr_mn, rr_ab, rr_no, gd_t, bc_t, bc_f, gd_tt, bc_tt, bc_ff, or_true, true_or, and_true, true_and, Nat.reduceAdd, f2, mo_b_s e1, mo_b_s e2]
    · rw [bc_f d1] at e1
      rw [bc_f (fun z => d1 z.1)]
      simp (disch := omega) only [X7_isAsk, rr_p, rr_bp, rr_bb, rr_0, rr_lt, rr_blt, rr_le, rr_ble, rr_eq, rr_beq, rr_nl_n, rr_nl_s, rr_bnl_n, rr_bnl_s, rr_cond_t, rr_cond_f, rr_bcond_t, rr_bcond_f, rr_bon, rr_bcv, rr_cv, rr_g, rr_gr, rr_si, rr_sz, rr_sr, rr_al, rr_ld, rr_st, rr_rl, rr_rs, rr_ni, rr_nr, rr_z, rr_div, rr_rem, rr_lc, rr_mx, rr_mn, rr_ab, rr_no, gd_t, bc_t, bc_f, gd_tt, bc_tt, bc_ff, or_true, true_or, and_true, true_and, Nat.reduceAdd, f2, mo_b_s e1]
  · have e1 := key 6 (by rw [if_neg c6])
    by_cases d1 : 1 ≤ n ∧ n ≤ 6 ∧ n ≤ V.length
    · rw [bc_t d1] at e1
      by_cases d2 : 1 ≤ bd ∧ bd ≤ 999
      · rw [bc_t d2] at e2
        rw [bc_t ⟨d1, d2⟩]
        simp (disch := omega) only [X7_isAsk, rr_p, rr_bp, rr_bb, rr_0, rr_lt, rr_blt, rr_le, rr_ble, rr_eq, rr_beq, rr_nl_n, rr_nl_s, rr_bnl_n, rr_bnl_s, rr_cond_t, rr_cond_f, rr_bcond_t, rr_bcond_f, rr_bon, rr_bcv, rr_cv, rr_g, rr_gr, rr_si, rr_sz, rr_sr, rr_al, rr_ld, rr_st, rr_rl, rr_rs, rr_ni, rr_nr, rr_z, rr_div, rr_rem, rr_lc, rr_mx, rr_mn, rr_ab, rr_no, gd_t, bc_t, bc_f, gd_tt, bc_tt, bc_ff, or_true, true_or, and_true, true_and, Nat.reduceAdd, f2, mo_b_s e1, mo_b_s e2]
      · rw [bc_f d2] at e2
        rw [bc_f (fun z => d2 z.2)]
        simp (disch := omega) only [X7_isAsk, rr_p, rr_bp, rr_bb, rr_0, rr_lt, rr_blt, rr_le, rr_ble, rr_eq, rr_beq, rr_nl_n, rr_nl_s, rr_bnl_n, rr_bnl_s, rr_cond_t, rr_cond_f, rr_bcond_t, rr_bcond_f, rr_bon, rr_bcv, rr_cv, rr_g, rr_gr, rr_si, rr_sz, rr_sr, rr_al, rr_ld, rr_st, rr_rl, rr_rs, rr_ni, rr_nr, rr_z, rr_div, rr_rem, rr_lc, rr_mx, rr_mn, rr_ab, rr_no, gd_t, bc_t, bc_f, gd_tt, bc_tt, bc_ff, or_true, true_or, and_true, true_and, Nat.reduceAdd, f2, mo_b_s e1, mo_b_s e2]
    · rw [bc_f d1] at e1
      rw [bc_f (fun z => d1 z.1)]
      simp (disch := omega) only [X7_isAsk, rr_p, rr_bp, rr_bb, rr_0, rr_lt, rr_blt, rr_le, rr_ble, rr_eq, rr_beq, rr_nl_n, rr_nl_s, rr_bnl_n, rr_bnl_s, rr_cond_t, rr_cond_f, rr_bcond_t, rr_bcond_f, rr_bon, rr_bcv, rr_cv, rr_g, rr_gr, rr_si, rr_sz, rr_sr, rr_al, rr_ld, rr_st, rr_rl, rr_rs, rr_ni, rr_nr, rr_z, rr_div, rr_rem, rr_lc, rr_mx, rr_mn, rr_ab, rr_no, gd_t, bc_t, bc_f, gd_tt, bc_tt, bc_ff, or_true, true_or, and_true, true_and, Nat.reduceAdd, f2, mo_b_s e1]
theorem ev_ok0 {E : SE} : okB E (ev E E.1 [] none) := ev_ok E.1 [] none ⟨by simp, fun j j0 j1 => by simp at j1; omega⟩ (by simp) (fun r m s e => by cases e)
theorem kFd_of {h : AH} {l : Nat} {E : SE} {r m : Int} {s : List Int} (hE : kE h l E) (hb : kBst h l E (some (r, m, s))) (hs : sR E.1 s) : kFd h l E s := ⟨hE, hb.1, hs, hb.2.2.2.2⟩
theorem mFd_of {h : AH} {m : Nat} {E : SE} {r z : Int} {s : List Int} (hE : mE h m E) (hb : mBst h m E (some (r, z, s))) (hs : sR E.1 s) (ha : acy E s) : mFd h m E s := ⟨hE, hb.1, hs, ha, fun j j0 j1 => (hb.2.2.2.2 j j0 j1).1⟩
/-- what a store tells -/
def stA (E : SE) (b : BS) (w : Int) : Int := match b with
  | none => if w < 2 then -1 else -2
  | some (r, m, s) => if w = 0 then r else if w = 1 then m else if w < 20 then (if w - 10 < E.1 then sv s (w - 10) else -2) else (if w - 20 < E.1 then rmd E s E.1 (w - 20) else -2)
theorem c_store (n bd w : Int) (hn : am_r n) (hb : am_r bd) (hw : am_r w) (s : SG) (ho : OKS s) : CJ (fun x => X6_store x n bd w) (fun m => X7_store m n bd w) s := by
  obtain ⟨D, V, Q, d⟩ := s
  obtain ⟨⟨hD1, hD2⟩, oV, oQ, od⟩ := id ho
  dsimp only at hD1 hD2 oV oQ od
  have oV1 := oV.1
  have hw2 := hw
  unfold am_r at hw
  have K0 : ∀ x h, KI h x (D, V, Q, d) → ah_T h x = 16 ∧ ah_F h x 13 = (d : Int) ∧ X6_isStore x n bd h = some (br (isA V n bd) 1 0, h) := by
    intro x h hK
    obtain ⟨-, -, -, A, B, hB⟩ := id hK
    exact ⟨hB.1.1, hB.2.1.2.2, q6_isStore hB.1.1 hB.2.1.1 oV1 hn hb⟩
  have M0 : ∀ m h, MI h m (D, V, Q, d) → ah_T h m = 17 ∧ ah_F h m 15 = (d : Int) ∧ X7_isAsk m n bd h = some (br (isA V n bd) 1 0, h) := fun m h hM => ⟨hM.1.1, hM.2.2.2.2, q7_isAsk hM.1.1 hM.2.2.1.1 oV1 hn hb⟩
  have W1 : ∀ h : AH, X7_within w 0 1 h = some (br (0 ≤ w ∧ w ≤ 1) 1 0, h) := fun h => q7_within hw2 (by unfold am_r; omega) (by unfold am_r; omega)
  have W2 : ∀ h : AH, X7_within w 10 15 h = some (br (10 ≤ w ∧ w ≤ 15) 1 0, h) := fun h => q7_within hw2 (by unfold am_r; omega) (by unfold am_r; omega)
  have W3 : ∀ h : AH, X7_within w 20 25 h = some (br (20 ≤ w ∧ w ≤ 25) 1 0, h) := fun h => q7_within hw2 (by unfold am_r; omega) (by unfold am_r; omega)
  by_cases cA : isA V n bd
  · by_cases cw : (0 ≤ w ∧ w ≤ 1) ∨ (10 ≤ w ∧ w ≤ 15) ∨ (20 ≤ w ∧ w ≤ 25)
    · by_cases cd : d < 30
      · obtain ⟨k, rfl⟩ := Int.eq_ofNat_of_zero_le (show 0 ≤ n by have := cA.1; omega)
        have hk1 : 1 ≤ k ∧ k ≤ 6 ∧ k ≤ V.length := by have := cA.1; omega
        have ok := stE_ok (bd := bd) oV hk1 cA.2
        have hoB := ev_ok0 (E := stE V k bd)
        have K1 : ∀ x h, KI h x (D, V, Q, d) → ∃ h1, X6_findStore x (k : Int) bd h = some ((), h1) ∧ KI h1 x (D, V, Q, d + 1) ∧ kE h1 (x + 30) (stE V k bd) ∧ kBst h1 (x + 30) (stE V k bd) (ev (stE V k bd) (stE V k bd).1 [] none) ∧ ah_T h1 x = 16 ∧ ah_P h1 x 12 = some (x + 30) := by
          intro x h hK
          obtain ⟨h1, e1, q1, q2, q3⟩ := q6_findStore hK oV hk1 cA.2 od
          obtain ⟨-, -, -, A, B, hB⟩ := id q1
          exact ⟨h1, e1, q1, q2, q3, hB.1.1, hB.1.2.1.2.2.2.2.2.2.2.2.2.2⟩
        have M1 : ∀ m h, MI h m (D, V, Q, d) → ∃ h1, X7_layStore m (k : Int) bd (ah_sF h m 15 ((d : Int) + 1)) = some ((), h1) ∧ MI h1 m (D, V, Q, d + 1) ∧ mE h1 m (stE V k bd) ∧ mBst h1 m (stE V k bd) (ev (stE V k bd) (stE V k bd).1 [] none) ∧ ah_T (ah_sF h m 15 ((d : Int) + 1)) m = 17 := by
          intro m h hM
          have hM1 := MI_done hM
          obtain ⟨h1, e1, q1, q2, q3⟩ := q7_layStore hM1 (⟨⟨hD1, hD2⟩, oV, oQ, by dsimp only; omega⟩ : OKS (D, V, Q, d + 1)) hk1 cA.2
          exact ⟨h1, e1, q1, q2, q3, hM1.1.1⟩
        have hE1 : (stE V k bd).1 = k := rfl
        generalize hbe : ev (stE V k bd) (stE V k bd).1 [] none = b at *
        refine ⟨stA (stE V k bd) b w, (D, V, Q, d + 1), ⟨⟨hD1, hD2⟩, oV, oQ, by dsimp only; omega⟩, ?_, ?_⟩
        · intro x h hK
          obtain ⟨tx, f13, e0⟩ := K0 x h hK
          rw [bc_t cA] at e0
          obtain ⟨h1, e1, q1, q2, q3, tx1, p12⟩ := K1 x h hK
          have tl := q2.1.1
          have f0 := q2.2.1.1
          rw [hE1] at f0
          refine ⟨h1, ?_, q1⟩
          match b, q3, hoB with
          | none, q3, _ =>
            have q3 : ah_F h1 (x + 30) 9 = 0 := q3
            show X6_store x (k : Int) bd w h = some (if w < 2 then -1 else -2, h1)
            have r0 : X2_roomOrNone (x + 30) h1 = some (-1, h1) := by simp (disch := omega) only [X2_roomOrNone, rr_p, rr_bp, rr_bb, rr_0, rr_lt, rr_blt, rr_le, rr_ble, rr_eq, rr_beq, rr_nl_n, rr_nl_s, rr_bnl_n, rr_bnl_s, rr_cond_t, rr_cond_f, rr_bcond_t, rr_bcond_f, rr_bon, rr_bcv, rr_cv, rr_g, rr_gr, rr_si, rr_sz, rr_sr, rr_al, rr_ld, rr_st, rr_rl, rr_rs, rr_ni, rr_nr, rr_z, rr_div, rr_rem, rr_lc, rr_mx, rr_mn, rr_ab, rr_no, gd_t, bc_t, bc_f, gd_tt, bc_tt, bc_ff, or_true, true_or, and_true, true_and, Nat.reduceAdd, q3]
            have r1 : X2_sumOrNone (x + 30) h1 = some (-1, h1) := by simp (disch := omega) only [X2_sumOrNone, rr_p, rr_bp, rr_bb, rr_0, rr_lt, rr_blt, rr_le, rr_ble, rr_eq, rr_beq, rr_nl_n, rr_nl_s, rr_bnl_n, rr_bnl_s, rr_cond_t, rr_cond_f, rr_bcond_t, rr_bcond_f, rr_bon, rr_bcv, rr_cv, rr_g, rr_gr, rr_si, rr_sz, rr_sr, rr_al, rr_ld, rr_st, rr_rl, rr_rs, rr_ni, rr_nr, rr_z, rr_div, rr_rem, rr_lc, rr_mx, rr_mn, rr_ab, rr_no, gd_t, bc_t, bc_f, gd_tt, bc_tt, bc_ff, or_true, true_or, and_true, true_and, Nat.reduceAdd, q3]
            have r2 : ∀ i : Int, X2_sourceOf (x + 30) i h1 = some (-2, h1) := fun i => by simp (disch := omega) only [X2_sourceOf, rr_p, rr_bp, rr_bb, rr_0, rr_lt, rr_blt, rr_le, rr_ble, rr_eq, rr_beq, rr_nl_n, rr_nl_s, rr_bnl_n, rr_bnl_s, rr_cond_t, rr_cond_f, rr_bcond_t, rr_bcond_f, rr_bon, rr_bcv, rr_cv, rr_g, rr_gr, rr_si, rr_sz, rr_sr, rr_al, rr_ld, rr_st, rr_rl, rr_rs, rr_ni, rr_nr, rr_z, rr_div, rr_rem, rr_lc, rr_mx, rr_mn, rr_ab, rr_no, gd_t, bc_t, bc_f, gd_tt, bc_tt, bc_ff, or_true, true_or, and_true, true_and, Nat.reduceAdd, q3]
            have r3 : ∀ i : Int, X2_remadeFor (x + 30) i h1 = some (-2, h1) := fun i => by simp (disch := omega) only [X2_remadeFor, rr_p, rr_bp, rr_bb, rr_0, rr_lt, rr_blt, rr_le, rr_ble, rr_eq, rr_beq, rr_nl_n, rr_nl_s, rr_bnl_n, rr_bnl_s, rr_cond_t, rr_cond_f, rr_bcond_t, rr_bcond_f, rr_bon, rr_bcv, rr_cv, rr_g, rr_gr, rr_si, rr_sz, rr_sr, rr_al, rr_ld, rr_st, rr_rl, rr_rs, rr_ni, rr_nr, rr_z, rr_div, rr_rem, rr_lc, rr_mx, rr_mn, rr_ab, rr_no, gd_t, bc_t, bc_f, gd_tt, bc_tt, bc_ff, or_true, true_or, and_true, true_and, Nat.reduceAdd, q3]
            by_cases c0 : w = 0
            · rw [if_pos (by omega)]
              simp (disch := omega) only [X6_store, rr_p, rr_bp, rr_bb, rr_0, rr_lt, rr_blt, rr_le, rr_ble, rr_eq, rr_beq, rr_nl_n, rr_nl_s, rr_bnl_n, rr_bnl_s, rr_cond_t, rr_cond_f, rr_bcond_t, rr_bcond_f, rr_bon, rr_bcv, rr_cv, rr_g, rr_gr, rr_si, rr_sz, rr_sr, rr_al, rr_ld, rr_st, rr_rl, rr_rs, rr_ni, rr_nr, rr_z, rr_div, rr_rem, rr_lc, rr_mx, rr_mn, rr_ab, rr_no, gd_t, bc_t, bc_f, gd_tt, bc_tt, bc_ff, or_true, true_or, and_true, true_and, Nat.reduceAdd, mo_b_s e0, f13, mo_b_s e1, p12, mo_b_s r0]
            · by_cases c1 : w = 1
              · rw [if_pos (by omega)]
                simp (disch := omega) only [X6_store, rr_p, rr_bp, rr_bb, rr_0, rr_lt, rr_blt, rr_le, rr_ble, rr_eq, rr_beq, rr_nl_n, rr_nl_s, rr_bnl_n, rr_bnl_s, rr_cond_t, rr_cond_f, rr_bcond_t, rr_bcond_f, rr_bon, rr_bcv, rr_cv, rr_g, rr_gr, rr_si, rr_sz, rr_sr, rr_al, rr_ld, rr_st, rr_rl, rr_rs, rr_ni, rr_nr, rr_z, rr_div, rr_rem, rr_lc, rr_mx, rr_mn, rr_ab, rr_no, gd_t, bc_t, bc_f, gd_tt, bc_tt, bc_ff, or_true, true_or, and_true, true_and, Nat.reduceAdd, mo_b_s e0, f13, mo_b_s e1, p12, mo_b_s r1]
              · rw [if_neg (by omega)]
                by_cases c2 : w ≤ 15
                · simp (disch := omega) only [X6_store, rr_p, rr_bp, rr_bb, rr_0, rr_lt, rr_blt, rr_le, rr_ble, rr_eq, rr_beq, rr_nl_n, rr_nl_s, rr_bnl_n, rr_bnl_s, rr_cond_t, rr_cond_f, rr_bcond_t, rr_bcond_f, rr_bon, rr_bcv, rr_cv, rr_g, rr_gr, rr_si, rr_sz, rr_sr, rr_al, rr_ld, rr_st, rr_rl, rr_rs, rr_ni, rr_nr, rr_z, rr_div, rr_rem, rr_lc, rr_mx, rr_mn, rr_ab, rr_no, gd_t, bc_t, bc_f, gd_tt, bc_tt, bc_ff, or_true, true_or, and_true, true_and, Nat.reduceAdd, mo_b_s e0, f13, mo_b_s e1, p12, mo_b_s (r2 (w - 10))]
                · simp (disch := omega) only [X6_store, rr_p, rr_bp, rr_bb, rr_0, rr_lt, rr_blt, rr_le, rr_ble, rr_eq, rr_beq, rr_nl_n, rr_nl_s, rr_bnl_n, rr_bnl_s, rr_cond_t, rr_cond_f, rr_bcond_t, rr_bcond_f, rr_bon, rr_bcv, rr_cv, rr_g, rr_gr, rr_si, rr_sz, rr_sr, rr_al, rr_ld, rr_st, rr_rl, rr_rs, rr_ni, rr_nr, rr_z, rr_div, rr_rem, rr_lc, rr_mx, rr_mn, rr_ab, rr_no, gd_t, bc_t, bc_f, gd_tt, bc_tt, bc_ff, or_true, true_or, and_true, true_and, Nat.reduceAdd, mo_b_s e0, f13, mo_b_s e1, p12, mo_b_s (r3 (w - 20))]
          | some (r, z, s), q3, hoB =>
            obtain ⟨hfs, hsR, -, -⟩ := hoB r z s rfl
            have hF := kFd_of q2 q3 hsR
            obtain ⟨b1, b2, b3, b4, b5⟩ := q3
            obtain ⟨⟨-, ⟨-, -, -, -, -, -, p9⟩, ⟨-, -, -, -, -, -, t8⟩, ⟨-, -, -, -, -, -, n8⟩⟩, -⟩ := id q2
            show X6_store x (k : Int) bd w h = some (if w = 0 then r else if w = 1 then z else if w < 20 then (if w - 10 < (k : Int) then sv s (w - 10) else -2) else (if w - 20 < (k : Int) then rmd (stE V k bd) s (stE V k bd).1 (w - 20) else -2), h1)
            have r0 : X2_roomOrNone (x + 30) h1 = some (r, h1) := by simp (disch := omega) only [X2_roomOrNone, rr_p, rr_bp, rr_bb, rr_0, rr_lt, rr_blt, rr_le, rr_ble, rr_eq, rr_beq, rr_nl_n, rr_nl_s, rr_bnl_n, rr_bnl_s, rr_cond_t, rr_cond_f, rr_bcond_t, rr_bcond_f, rr_bon, rr_bcv, rr_cv, rr_g, rr_gr, rr_si, rr_sz, rr_sr, rr_al, rr_ld, rr_st, rr_rl, rr_rs, rr_ni, rr_nr, rr_z, rr_div, rr_rem, rr_lc, rr_mx, rr_mn, rr_ab, rr_no, gd_t, bc_t, bc_f, gd_tt, bc_tt, bc_ff, or_true, true_or, and_true, true_and, Nat.reduceAdd, b1, b2]
            have r1 : X2_sumOrNone (x + 30) h1 = some (z, h1) := by simp (disch := omega) only [X2_sumOrNone, rr_p, rr_bp, rr_bb, rr_0, rr_lt, rr_blt, rr_le, rr_ble, rr_eq, rr_beq, rr_nl_n, rr_nl_s, rr_bnl_n, rr_bnl_s, rr_cond_t, rr_cond_f, rr_bcond_t, rr_bcond_f, rr_bon, rr_bcv, rr_cv, rr_g, rr_gr, rr_si, rr_sz, rr_sr, rr_al, rr_ld, rr_st, rr_rl, rr_rs, rr_ni, rr_nr, rr_z, rr_div, rr_rem, rr_lc, rr_mx, rr_mn, rr_ab, rr_no, gd_t, bc_t, bc_f, gd_tt, bc_tt, bc_ff, or_true, true_or, and_true, true_and, Nat.reduceAdd, b1, b3]
            by_cases c0 : w = 0
            · rw [if_pos c0]
              simp (disch := omega) only [X6_store, rr_p, rr_bp, rr_bb, rr_0, rr_lt, rr_blt, rr_le, rr_ble, rr_eq, rr_beq, rr_nl_n, rr_nl_s, rr_bnl_n, rr_bnl_s, rr_cond_t, rr_cond_f, rr_bcond_t, rr_bcond_f, rr_bon, rr_bcv, rr_cv, rr_g, rr_gr, rr_si, rr_sz, rr_sr, rr_al, rr_ld, rr_st, rr_rl, rr_rs, rr_ni, rr_nr, rr_z, rr_div, rr_rem, rr_lc, rr_mx, rr_mn, rr_ab, rr_no, gd_t, bc_t, bc_f, gd_tt, bc_tt, bc_ff, or_true, true_or, and_true, true_and, Nat.reduceAdd, mo_b_s e0, f13, mo_b_s e1, p12, mo_b_s r0]
            · rw [if_neg c0]
              by_cases c1 : w = 1
              · rw [if_pos c1]
                simp (disch := omega) only [X6_store, rr_p, rr_bp, rr_bb, rr_0, rr_lt, rr_blt, rr_le, rr_ble, rr_eq, rr_beq, rr_nl_n, rr_nl_s, rr_bnl_n, rr_bnl_s, rr_cond_t, rr_cond_f, rr_bcond_t, rr_bcond_f, rr_bon, rr_bcv, rr_cv, rr_g, rr_gr, rr_si, rr_sz, rr_sr, rr_al, rr_ld, rr_st, rr_rl, rr_rs, rr_ni, rr_nr, rr_z, rr_div, rr_rem, rr_lc, rr_mx, rr_mn, rr_ab, rr_no, gd_t, bc_t, bc_f, gd_tt, bc_tt, bc_ff, or_true, true_or, and_true, true_and, Nat.reduceAdd, mo_b_s e0, f13, mo_b_s e1, p12, mo_b_s r1]
              · rw [if_neg c1]
                by_cases c2 : w ≤ 15
                · rw [if_pos (by omega)]
                  by_cases c3 : w - 10 < (k : Int)
                  · rw [if_pos c3]
                    have b6 := b5 (w - 10) (by omega) c3
                    have r2 : X2_sourceOf (x + 30) (w - 10) h1 = some (sv s (w - 10), h1) := by simp (disch := omega) only [X2_sourceOf, rr_p, rr_bp, rr_bb, rr_0, rr_lt, rr_blt, rr_le, rr_ble, rr_eq, rr_beq, rr_nl_n, rr_nl_s, rr_bnl_n, rr_bnl_s, rr_cond_t, rr_cond_f, rr_bcond_t, rr_bcond_f, rr_bon, rr_bcv, rr_cv, rr_g, rr_gr, rr_si, rr_sz, rr_sr, rr_al, rr_ld, rr_st, rr_rl, rr_rs, rr_ni, rr_nr, rr_z, rr_div, rr_rem, rr_lc, rr_mx, rr_mn, rr_ab, rr_no, gd_t, bc_t, bc_f, gd_tt, bc_tt, bc_ff, or_true, true_or, and_true, true_and, Nat.reduceAdd, b1, f0, p9, b6]
                    simp (disch := omega) only [X6_store, rr_p, rr_bp, rr_bb, rr_0, rr_lt, rr_blt, rr_le, rr_ble, rr_eq, rr_beq, rr_nl_n, rr_nl_s, rr_bnl_n, rr_bnl_s, rr_cond_t, rr_cond_f, rr_bcond_t, rr_bcond_f, rr_bon, rr_bcv, rr_cv, rr_g, rr_gr, rr_si, rr_sz, rr_sr, rr_al, rr_ld, rr_st, rr_rl, rr_rs, rr_ni, rr_nr, rr_z, rr_div, rr_rem, rr_lc, rr_mx, rr_mn, rr_ab, rr_no, gd_t, bc_t, bc_f, gd_tt, bc_tt, bc_ff, or_true, true_or, and_true, true_and, Nat.reduceAdd, mo_b_s e0, f13, mo_b_s e1, p12, mo_b_s r2]
                  · rw [if_neg c3]
                    have r2 : X2_sourceOf (x + 30) (w - 10) h1 = some (-2, h1) := by simp (disch := omega) only [X2_sourceOf, rr_p, rr_bp, rr_bb, rr_0, rr_lt, rr_blt, rr_le, rr_ble, rr_eq, rr_beq, rr_nl_n, rr_nl_s, rr_bnl_n, rr_bnl_s, rr_cond_t, rr_cond_f, rr_bcond_t, rr_bcond_f, rr_bon, rr_bcv, rr_cv, rr_g, rr_gr, rr_si, rr_sz, rr_sr, rr_al, rr_ld, rr_st, rr_rl, rr_rs, rr_ni, rr_nr, rr_z, rr_div, rr_rem, rr_lc, rr_mx, rr_mn, rr_ab, rr_no, gd_t, bc_t, bc_f, gd_tt, bc_tt, bc_ff, or_true, true_or, and_true, true_and, Nat.reduceAdd, b1, f0]
                    simp (disch := omega) only [X6_store, rr_p, rr_bp, rr_bb, rr_0, rr_lt, rr_blt, rr_le, rr_ble, rr_eq, rr_beq, rr_nl_n, rr_nl_s, rr_bnl_n, rr_bnl_s, rr_cond_t, rr_cond_f, rr_bcond_t, rr_bcond_f, rr_bon, rr_bcv, rr_cv, rr_g, rr_gr, rr_si, rr_sz, rr_sr, rr_al, rr_ld, rr_st, rr_rl, rr_rs, rr_ni, rr_nr, rr_z, rr_div, rr_rem, rr_lc, rr_mx, rr_mn, rr_ab, rr_no, gd_t, bc_t, bc_f, gd_tt, bc_tt, bc_ff, or_true, true_or, and_true, true_and, Nat.reduceAdd, mo_b_s e0, f13, mo_b_s e1, p12, mo_b_s r2]
                · rw [if_neg (by omega)]
                  by_cases c3 : w - 20 < (k : Int)
                  · rw [if_pos c3]
                    have e9 := q2_remadeBy q2 ok hsR t8 n8 b5 (i := w - 20) (by omega) c3
                    have r2 : X2_remadeFor (x + 30) (w - 20) h1 = some (rmd (stE V k bd) s (stE V k bd).1 (w - 20), h1) := by simp (disch := omega) only [X2_remadeFor, rr_p, rr_bp, rr_bb, rr_0, rr_lt, rr_blt, rr_le, rr_ble, rr_eq, rr_beq, rr_nl_n, rr_nl_s, rr_bnl_n, rr_bnl_s, rr_cond_t, rr_cond_f, rr_bcond_t, rr_bcond_f, rr_bon, rr_bcv, rr_cv, rr_g, rr_gr, rr_si, rr_sz, rr_sr, rr_al, rr_ld, rr_st, rr_rl, rr_rs, rr_ni, rr_nr, rr_z, rr_div, rr_rem, rr_lc, rr_mx, rr_mn, rr_ab, rr_no, gd_t, bc_t, bc_f, gd_tt, bc_tt, bc_ff, or_true, true_or, and_true, true_and, Nat.reduceAdd, b1, f0, p9, mo_b_s e9]
                    simp (disch := omega) only [X6_store, rr_p, rr_bp, rr_bb, rr_0, rr_lt, rr_blt, rr_le, rr_ble, rr_eq, rr_beq, rr_nl_n, rr_nl_s, rr_bnl_n, rr_bnl_s, rr_cond_t, rr_cond_f, rr_bcond_t, rr_bcond_f, rr_bon, rr_bcv, rr_cv, rr_g, rr_gr, rr_si, rr_sz, rr_sr, rr_al, rr_ld, rr_st, rr_rl, rr_rs, rr_ni, rr_nr, rr_z, rr_div, rr_rem, rr_lc, rr_mx, rr_mn, rr_ab, rr_no, gd_t, bc_t, bc_f, gd_tt, bc_tt, bc_ff, or_true, true_or, and_true, true_and, Nat.reduceAdd, mo_b_s e0, f13, mo_b_s e1, p12, mo_b_s r2]
                  · rw [if_neg c3]
                    have r2 : X2_remadeFor (x + 30) (w - 20) h1 = some (-2, h1) := by simp (disch := omega) only [X2_remadeFor, rr_p, rr_bp, rr_bb, rr_0, rr_lt, rr_blt, rr_le, rr_ble, rr_eq, rr_beq, rr_nl_n, rr_nl_s, rr_bnl_n, rr_bnl_s, rr_cond_t, rr_cond_f, rr_bcond_t, rr_bcond_f, rr_bon, rr_bcv, rr_cv, rr_g, rr_gr, rr_si, rr_sz, rr_sr, rr_al, rr_ld, rr_st, rr_rl, rr_rs, rr_ni, rr_nr, rr_z, rr_div, rr_rem, rr_lc, rr_mx, rr_mn, rr_ab, rr_no, gd_t, bc_t, bc_f, gd_tt, bc_tt, bc_ff, or_true, true_or, and_true, true_and, Nat.reduceAdd, b1, f0]
                    simp (disch := omega) only [X6_store, rr_p, rr_bp, rr_bb, rr_0, rr_lt, rr_blt, rr_le, rr_ble, rr_eq, rr_beq, rr_nl_n, rr_nl_s, rr_bnl_n, rr_bnl_s, rr_cond_t, rr_cond_f, rr_bcond_t, rr_bcond_f, rr_bon, rr_bcv, rr_cv, rr_g, rr_gr, rr_si, rr_sz, rr_sr, rr_al, rr_ld, rr_st, rr_rl, rr_rs, rr_ni, rr_nr, rr_z, rr_div, rr_rem, rr_lc, rr_mx, rr_mn, rr_ab, rr_no, gd_t, bc_t, bc_f, gd_tt, bc_tt, bc_ff, or_true, true_or, and_true, true_and, Nat.reduceAdd, mo_b_s e0, f13, mo_b_s e1, p12, mo_b_s r2]
        · intro m h hM
          obtain ⟨mT, f15, e0⟩ := M0 m h hM
          rw [bc_t cA] at e0
          obtain ⟨h1, e1, q1, q2, q3, mTs⟩ := M1 m h hM
          have mT1 := q1.1.1
          obtain ⟨p28, t28, n28⟩ := ms28 q1.1
          obtain ⟨p29, t29, n29⟩ := ms29 q1.1
          have w1 := W1 h
          have w2 := W2 h
          have w3 := W3 h
          refine ⟨h1, ?_, q1⟩
          match b, q3, hoB with
          | none, q3, _ =>
            have q3 : ah_F h1 m 41 = 0 := q3
            show X7_store m (k : Int) bd w h = some (if w < 2 then -1 else -2, h1)
            by_cases c0 : w < 2
            · rw [bc_t (by omega)] at w1
              rw [if_pos c0]
              simp (disch := omega) only [X7_store, rr_p, rr_bp, rr_bb, rr_0, rr_lt, rr_blt, rr_le, rr_ble, rr_eq, rr_beq, rr_nl_n, rr_nl_s, rr_bnl_n, rr_bnl_s, rr_cond_t, rr_cond_f, rr_bcond_t, rr_bcond_f, rr_bon, rr_bcv, rr_cv, rr_g, rr_gr, rr_si, rr_sz, rr_sr, rr_al, rr_ld, rr_st, rr_rl, rr_rs, rr_ni, rr_nr, rr_z, rr_div, rr_rem, rr_lc, rr_mx, rr_mn, rr_ab, rr_no, gd_t, bc_t, bc_f, gd_tt, bc_tt, bc_ff, or_true, true_or, and_true, true_and, Nat.reduceAdd, mo_b_s e0, mo_b_s w1, f15, mo_b_s e1, q3]
            · rw [bc_f (by omega)] at w1
              rw [if_neg c0]
              by_cases c2 : w ≤ 15
              · rw [bc_t (by omega)] at w2
                simp (disch := omega) only [X7_store, rr_p, rr_bp, rr_bb, rr_0, rr_lt, rr_blt, rr_le, rr_ble, rr_eq, rr_beq, rr_nl_n, rr_nl_s, rr_bnl_n, rr_bnl_s, rr_cond_t, rr_cond_f, rr_bcond_t, rr_bcond_f, rr_bon, rr_bcv, rr_cv, rr_g, rr_gr, rr_si, rr_sz, rr_sr, rr_al, rr_ld, rr_st, rr_rl, rr_rs, rr_ni, rr_nr, rr_z, rr_div, rr_rem, rr_lc, rr_mx, rr_mn, rr_ab, rr_no, gd_t, bc_t, bc_f, gd_tt, bc_tt, bc_ff, or_true, true_or, and_true, true_and, Nat.reduceAdd, mo_b_s e0, mo_b_s w1, mo_b_s w2, f15, mo_b_s e1, q3]
              · rw [bc_f (by omega)] at w2
                rw [bc_t (by omega)] at w3
                simp (disch := omega) only [X7_store, rr_p, rr_bp, rr_bb, rr_0, rr_lt, rr_blt, rr_le, rr_ble, rr_eq, rr_beq, rr_nl_n, rr_nl_s, rr_bnl_n, rr_bnl_s, rr_cond_t, rr_cond_f, rr_bcond_t, rr_bcond_f, rr_bon, rr_bcv, rr_cv, rr_g, rr_gr, rr_si, rr_sz, rr_sr, rr_al, rr_ld, rr_st, rr_rl, rr_rs, rr_ni, rr_nr, rr_z, rr_div, rr_rem, rr_lc, rr_mx, rr_mn, rr_ab, rr_no, gd_t, bc_t, bc_f, gd_tt, bc_tt, bc_ff, or_true, true_or, and_true, true_and, Nat.reduceAdd, mo_b_s e0, mo_b_s w1, mo_b_s w2, mo_b_s w3, f15, mo_b_s e1, q3]
          | some (r, z, s), q3, hoB =>
            obtain ⟨b1, b2, b3, b4, b5⟩ := q3
            show X7_store m (k : Int) bd w h = some (if w = 0 then r else if w = 1 then z else if w < 20 then (if w - 10 < (k : Int) then sv s (w - 10) else -2) else (if w - 20 < (k : Int) then rmd (stE V k bd) s (stE V k bd).1 (w - 20) else -2), h1)
            by_cases c0 : w = 0
            · rw [bc_t (by omega)] at w1
              rw [if_pos c0]
              simp (disch := omega) only [X7_store, rr_p, rr_bp, rr_bb, rr_0, rr_lt, rr_blt, rr_le, rr_ble, rr_eq, rr_beq, rr_nl_n, rr_nl_s, rr_bnl_n, rr_bnl_s, rr_cond_t, rr_cond_f, rr_bcond_t, rr_bcond_f, rr_bon, rr_bcv, rr_cv, rr_g, rr_gr, rr_si, rr_sz, rr_sr, rr_al, rr_ld, rr_st, rr_rl, rr_rs, rr_ni, rr_nr, rr_z, rr_div, rr_rem, rr_lc, rr_mx, rr_mn, rr_ab, rr_no, gd_t, bc_t, bc_f, gd_tt, bc_tt, bc_ff, or_true, true_or, and_true, true_and, Nat.reduceAdd, mo_b_s e0, mo_b_s w1, f15, mo_b_s e1, b1, b2]
            · rw [if_neg c0]
              by_cases c1 : w = 1
              · rw [bc_t (by omega)] at w1
                rw [if_pos c1]
                simp (disch := omega) only [X7_store, rr_p, rr_bp, rr_bb, rr_0, rr_lt, rr_blt, rr_le, rr_ble, rr_eq, rr_beq, rr_nl_n, rr_nl_s, rr_bnl_n, rr_bnl_s, rr_cond_t, rr_cond_f, rr_bcond_t, rr_bcond_f, rr_bon, rr_bcv, rr_cv, rr_g, rr_gr, rr_si, rr_sz, rr_sr, rr_al, rr_ld, rr_st, rr_rl, rr_rs, rr_ni, rr_nr, rr_z, rr_div, rr_rem, rr_lc, rr_mx, rr_mn, rr_ab, rr_no, gd_t, bc_t, bc_f, gd_tt, bc_tt, bc_ff, or_true, true_or, and_true, true_and, Nat.reduceAdd, mo_b_s e0, mo_b_s w1, f15, mo_b_s e1, b1, b3]
              · rw [bc_f (by omega)] at w1
                rw [if_neg c1]
                by_cases c2 : w ≤ 15
                · rw [bc_t (by omega)] at w2
                  rw [if_pos (by omega)]
                  have em : w % 10 = w - 10 := by omega
                  by_cases c3 : w - 10 < (k : Int)
                  · have b6 := (b5 (w - 10) (by omega) c3).1
                    rw [if_pos c3]
                    simp (disch := omega) only [X7_store, rr_p, rr_bp, rr_bb, rr_0, rr_lt, rr_blt, rr_le, rr_ble, rr_eq, rr_beq, rr_nl_n, rr_nl_s, rr_bnl_n, rr_bnl_s, rr_cond_t, rr_cond_f, rr_bcond_t, rr_bcond_f, rr_bon, rr_bcv, rr_cv, rr_g, rr_gr, rr_si, rr_sz, rr_sr, rr_al, rr_ld, rr_st, rr_rl, rr_rs, rr_ni, rr_nr, rr_z, rr_div, rr_rem, rr_lc, rr_mx, rr_mn, rr_ab, rr_no, gd_t, bc_t, bc_f, gd_tt, bc_tt, bc_ff, or_true, true_or, and_true, true_and, Nat.reduceAdd, mo_b_s e0, mo_b_s w1, mo_b_s w2, f15, mo_b_s e1, b1, em, p28, b6]
                  · rw [if_neg c3]
                    simp (disch := omega) only [X7_store, rr_p, rr_bp, rr_bb, rr_0, rr_lt, rr_blt, rr_le, rr_ble, rr_eq, rr_beq, rr_nl_n, rr_nl_s, rr_bnl_n, rr_bnl_s, rr_cond_t, rr_cond_f, rr_bcond_t, rr_bcond_f, rr_bon, rr_bcv, rr_cv, rr_g, rr_gr, rr_si, rr_sz, rr_sr, rr_al, rr_ld, rr_st, rr_rl, rr_rs, rr_ni, rr_nr, rr_z, rr_div, rr_rem, rr_lc, rr_mx, rr_mn, rr_ab, rr_no, gd_t, bc_t, bc_f, gd_tt, bc_tt, bc_ff, or_true, true_or, and_true, true_and, Nat.reduceAdd, mo_b_s e0, mo_b_s w1, mo_b_s w2, f15, mo_b_s e1, b1, em]
                · rw [bc_f (by omega)] at w2
                  rw [bc_t (by omega)] at w3
                  rw [if_neg (by omega)]
                  have em : w % 10 = w - 20 := by omega
                  by_cases c3 : w - 20 < (k : Int)
                  · have b6 := (b5 (w - 20) (by omega) c3).2
                    rw [if_pos c3]
                    simp (disch := omega) only [X7_store, rr_p, rr_bp, rr_bb, rr_0, rr_lt, rr_blt, rr_le, rr_ble, rr_eq, rr_beq, rr_nl_n, rr_nl_s, rr_bnl_n, rr_bnl_s, rr_cond_t, rr_cond_f, rr_bcond_t, rr_bcond_f, rr_bon, rr_bcv, rr_cv, rr_g, rr_gr, rr_si, rr_sz, rr_sr, rr_al, rr_ld, rr_st, rr_rl, rr_rs, rr_ni, rr_nr, rr_z, rr_div, rr_rem, rr_lc, rr_mx, rr_mn, rr_ab, rr_no, gd_t, bc_t, bc_f, gd_tt, bc_tt, bc_ff, or_true, true_or, and_true, true_and, Nat.reduceAdd, mo_b_s e0, mo_b_s w1, mo_b_s w2, mo_b_s w3, f15, mo_b_s e1, b1, em, p29, b6]
                  · rw [if_neg c3]
                    simp (disch := omega) only [X7_store, rr_p, rr_bp, rr_bb, rr_0, rr_lt, rr_blt, rr_le, rr_ble, rr_eq, rr_beq, rr_nl_n, rr_nl_s, rr_bnl_n, rr_bnl_s, rr_cond_t, rr_cond_f, rr_bcond_t, rr_bcond_f, rr_bon, rr_bcv, rr_cv, rr_g, rr_gr, rr_si, rr_sz, rr_sr, rr_al, rr_ld, rr_st, rr_rl, rr_rs, rr_ni, rr_nr, rr_z, rr_div, rr_rem, rr_lc, rr_mx, rr_mn, rr_ab, rr_no, gd_t, bc_t, bc_f, gd_tt, bc_tt, bc_ff, or_true, true_or, and_true, true_and, Nat.reduceAdd, mo_b_s e0, mo_b_s w1, mo_b_s w2, mo_b_s w3, f15, mo_b_s e1, b1, em]
      · refine CJ.same (-103) ho ?_ ?_
        · intro x h hK
          obtain ⟨tx, f13, e0⟩ := K0 x h hK
          rw [bc_t cA] at e0
          by_cases c0 : w = 0
          · simp (disch := omega) only [X6_store, rr_p, rr_bp, rr_bb, rr_0, rr_lt, rr_blt, rr_le, rr_ble, rr_eq, rr_beq, rr_nl_n, rr_nl_s, rr_bnl_n, rr_bnl_s, rr_cond_t, rr_cond_f, rr_bcond_t, rr_bcond_f, rr_bon, rr_bcv, rr_cv, rr_g, rr_gr, rr_si, rr_sz, rr_sr, rr_al, rr_ld, rr_st, rr_rl, rr_rs, rr_ni, rr_nr, rr_z, rr_div, rr_rem, rr_lc, rr_mx, rr_mn, rr_ab, rr_no, gd_t, bc_t, bc_f, gd_tt, bc_tt, bc_ff, or_true, true_or, and_true, true_and, Nat.reduceAdd, mo_b_s e0, f13]
          · by_cases c1 : w = 1
            · simp (disch := omega) only [X6_store, rr_p, rr_bp, rr_bb, rr_0, rr_lt, rr_blt, rr_le, rr_ble, rr_eq, rr_beq, rr_nl_n, rr_nl_s, rr_bnl_n, rr_bnl_s, rr_cond_t, rr_cond_f, rr_bcond_t, rr_bcond_f, rr_bon, rr_bcv, rr_cv, rr_g, rr_gr, rr_si, rr_sz, rr_sr, rr_al, rr_ld, rr_st, rr_rl, rr_rs, rr_ni, rr_nr, rr_z, rr_div, rr_rem, rr_lc, rr_mx, rr_mn, rr_ab, rr_no, gd_t, bc_t, bc_f, gd_tt, bc_tt, bc_ff, or_true, true_or, and_true, true_and, Nat.reduceAdd, mo_b_s e0, f13]
            · by_cases c2 : w ≤ 15
              · simp (disch := omega) only [X6_store, rr_p, rr_bp, rr_bb, rr_0, rr_lt, rr_blt, rr_le, rr_ble, rr_eq, rr_beq, rr_nl_n, rr_nl_s, rr_bnl_n, rr_bnl_s, rr_cond_t, rr_cond_f, rr_bcond_t, rr_bcond_f, rr_bon, rr_bcv, rr_cv, rr_g, rr_gr, rr_si, rr_sz, rr_sr, rr_al, rr_ld, rr_st, rr_rl, rr_rs, rr_ni, rr_nr, rr_z, rr_div, rr_rem, rr_lc, rr_mx, rr_mn, rr_ab, rr_no, gd_t, bc_t, bc_f, gd_tt, bc_tt, bc_ff, or_true, true_or, and_true, true_and, Nat.reduceAdd, mo_b_s e0, f13]
              · simp (disch := omega) only [X6_store, rr_p, rr_bp, rr_bb, rr_0, rr_lt, rr_blt, rr_le, rr_ble, rr_eq, rr_beq, rr_nl_n, rr_nl_s, rr_bnl_n, rr_bnl_s, rr_cond_t, rr_cond_f, rr_bcond_t, rr_bcond_f, rr_bon, rr_bcv, rr_cv, rr_g, rr_gr, rr_si, rr_sz, rr_sr, rr_al, rr_ld, rr_st, rr_rl, rr_rs, rr_ni, rr_nr, rr_z, rr_div, rr_rem, rr_lc, rr_mx, rr_mn, rr_ab, rr_no, gd_t, bc_t, bc_f, gd_tt, bc_tt, bc_ff, or_true, true_or, and_true, true_and, Nat.reduceAdd, mo_b_s e0, f13]
        · intro m h hM
          obtain ⟨mT, f15, e0⟩ := M0 m h hM
          rw [bc_t cA] at e0
          have w1 := W1 h
          have w2 := W2 h
          have w3 := W3 h
          by_cases c0 : 0 ≤ w ∧ w ≤ 1
          · rw [bc_t c0] at w1
            simp (disch := omega) only [X7_store, rr_p, rr_bp, rr_bb, rr_0, rr_lt, rr_blt, rr_le, rr_ble, rr_eq, rr_beq, rr_nl_n, rr_nl_s, rr_bnl_n, rr_bnl_s, rr_cond_t, rr_cond_f, rr_bcond_t, rr_bcond_f, rr_bon, rr_bcv, rr_cv, rr_g, rr_gr, rr_si, rr_sz, rr_sr, rr_al, rr_ld, rr_st, rr_rl, rr_rs, rr_ni, rr_nr, rr_z, rr_div, rr_rem, rr_lc, rr_mx, rr_mn, rr_ab, rr_no, gd_t, bc_t, bc_f, gd_tt, bc_tt, bc_ff, or_true, true_or, and_true, true_and, Nat.reduceAdd, mo_b_s e0, mo_b_s w1, f15]
          · rw [bc_f c0] at w1
            by_cases c2 : w ≤ 15
            · rw [bc_t (by omega)] at w2
              simp (disch := omega) only [X7_store, rr_p, rr_bp, rr_bb, rr_0, rr_lt, rr_blt, rr_le, rr_ble, rr_eq, rr_beq, rr_nl_n, rr_nl_s, rr_bnl_n, rr_bnl_s, rr_cond_t, rr_cond_f, rr_bcond_t, rr_bcond_f, rr_bon, rr_bcv, rr_cv, rr_g, rr_gr, rr_si, rr_sz, rr_sr, rr_al, rr_ld, rr_st, rr_rl, rr_rs, rr_ni, rr_nr, rr_z, rr_div, rr_rem, rr_lc, rr_mx, rr_mn, rr_ab, rr_no, gd_t, bc_t, bc_f, gd_tt, bc_tt, bc_ff, or_true, true_or, and_true, true_and, Nat.reduceAdd, mo_b_s e0, mo_b_s w1, mo_b_s w2, f15]
            · rw [bc_f (by omega)] at w2
              rw [bc_t (by omega)] at w3
              simp (disch := omega) only [X7_store, rr_p, rr_bp, rr_bb, rr_0, rr_lt, rr_blt, rr_le, rr_ble, rr_eq, rr_beq, rr_nl_n, rr_nl_s, rr_bnl_n, rr_bnl_s, rr_cond_t, rr_cond_f, rr_bcond_t, rr_bcond_f, rr_bon, rr_bcv, rr_cv, rr_g, rr_gr, rr_si, rr_sz, rr_sr, rr_al, rr_ld, rr_st, rr_rl, rr_rs, rr_ni, rr_nr, rr_z, rr_div, rr_rem, rr_lc, rr_mx, rr_mn, rr_ab, rr_no, gd_t, bc_t, bc_f, gd_tt, bc_tt, bc_ff, or_true, true_or, and_true, true_and, Nat.reduceAdd, mo_b_s e0, mo_b_s w1, mo_b_s w2, mo_b_s w3, f15]
    · refine CJ.same (-102) ho ?_ ?_
      · intro x h hK
        obtain ⟨tx, f13, e0⟩ := K0 x h hK
        rw [bc_t cA] at e0
        by_cases c2 : w < 10
        · simp (disch := omega) only [X6_store, rr_p, rr_bp, rr_bb, rr_0, rr_lt, rr_blt, rr_le, rr_ble, rr_eq, rr_beq, rr_nl_n, rr_nl_s, rr_bnl_n, rr_bnl_s, rr_cond_t, rr_cond_f, rr_bcond_t, rr_bcond_f, rr_bon, rr_bcv, rr_cv, rr_g, rr_gr, rr_si, rr_sz, rr_sr, rr_al, rr_ld, rr_st, rr_rl, rr_rs, rr_ni, rr_nr, rr_z, rr_div, rr_rem, rr_lc, rr_mx, rr_mn, rr_ab, rr_no, gd_t, bc_t, bc_f, gd_tt, bc_tt, bc_ff, or_true, true_or, and_true, true_and, Nat.reduceAdd, mo_b_s e0]
        · by_cases c3 : w < 20
          · simp (disch := omega) only [X6_store, rr_p, rr_bp, rr_bb, rr_0, rr_lt, rr_blt, rr_le, rr_ble, rr_eq, rr_beq, rr_nl_n, rr_nl_s, rr_bnl_n, rr_bnl_s, rr_cond_t, rr_cond_f, rr_bcond_t, rr_bcond_f, rr_bon, rr_bcv, rr_cv, rr_g, rr_gr, rr_si, rr_sz, rr_sr, rr_al, rr_ld, rr_st, rr_rl, rr_rs, rr_ni, rr_nr, rr_z, rr_div, rr_rem, rr_lc, rr_mx, rr_mn, rr_ab, rr_no, gd_t, bc_t, bc_f, gd_tt, bc_tt, bc_ff, or_true, true_or, and_true, true_and, Nat.reduceAdd, mo_b_s e0]
          · simp (disch := omega) only [X6_store, rr_p, rr_bp, rr_bb, rr_0, rr_lt, rr_blt, rr_le, rr_ble, rr_eq, rr_beq, rr_nl_n, rr_nl_s, rr_bnl_n, rr_bnl_s, rr_cond_t, rr_cond_f, rr_bcond_t, rr_bcond_f, rr_bon, rr_bcv, rr_cv, rr_g, rr_gr, rr_si, rr_sz, rr_sr, rr_al, rr_ld, rr_st, rr_rl, rr_rs, rr_ni, rr_nr, rr_z, rr_div, rr_rem, rr_lc, rr_mx, rr_mn, rr_ab, rr_no, gd_t, bc_t, bc_f, gd_tt, bc_tt, bc_ff, or_true, true_or, and_true, true_and, Nat.reduceAdd, mo_b_s e0]
      · intro m h hM
        obtain ⟨mT, f15, e0⟩ := M0 m h hM
        rw [bc_t cA] at e0
        have w1 := W1 h
        have w2 := W2 h
        have w3 := W3 h
        rw [bc_f (by omega)] at w1 w2 w3
        simp (disch := omega) only [X7_store, rr_p, rr_bp, rr_bb, rr_0, rr_lt, rr_blt, rr_le, rr_ble, rr_eq, rr_beq, rr_nl_n, rr_nl_s, rr_bnl_n, rr_bnl_s, rr_cond_t, rr_cond_f, rr_bcond_t, rr_bcond_f, rr_bon, rr_bcv, rr_cv, rr_g, rr_gr, rr_si, rr_sz, rr_sr, rr_al, rr_ld, rr_st, rr_rl, rr_rs, rr_ni, rr_nr, rr_z, rr_div, rr_rem, rr_lc, rr_mx, rr_mn, rr_ab, rr_no, gd_t, bc_t, bc_f, gd_tt, bc_tt, bc_ff, or_true, true_or, and_true, true_and, Nat.reduceAdd, mo_b_s e0, mo_b_s w1, mo_b_s w2, mo_b_s w3]
  · refine CJ.same (-102) ho ?_ ?_
    · intro x h hK
      obtain ⟨tx, f13, e0⟩ := K0 x h hK
      rw [bc_f cA] at e0
      by_cases c2 : w < 10
      · simp (disch := omega) only [X6_store, rr_p, rr_bp, rr_bb, rr_0, rr_lt, rr_blt, rr_le, rr_ble, rr_eq, rr_beq, rr_nl_n, rr_nl_s, rr_bnl_n, rr_bnl_s, rr_cond_t, rr_cond_f, rr_bcond_t, rr_bcond_f, rr_bon, rr_bcv, rr_cv, rr_g, rr_gr, rr_si, rr_sz, rr_sr, rr_al, rr_ld, rr_st, rr_rl, rr_rs, rr_ni, rr_nr, rr_z, rr_div, rr_rem, rr_lc, rr_mx, rr_mn, rr_ab, rr_no, gd_t, bc_t, bc_f, gd_tt, bc_tt, bc_ff, or_true, true_or, and_true, true_and, Nat.reduceAdd, mo_b_s e0]
      · by_cases c3 : w < 16
        · simp (disch := omega) only [X6_store, rr_p, rr_bp, rr_bb, rr_0, rr_lt, rr_blt, rr_le, rr_ble, rr_eq, rr_beq, rr_nl_n, rr_nl_s, rr_bnl_n, rr_bnl_s, rr_cond_t, rr_cond_f, rr_bcond_t, rr_bcond_f, rr_bon, rr_bcv, rr_cv, rr_g, rr_gr, rr_si, rr_sz, rr_sr, rr_al, rr_ld, rr_st, rr_rl, rr_rs, rr_ni, rr_nr, rr_z, rr_div, rr_rem, rr_lc, rr_mx, rr_mn, rr_ab, rr_no, gd_t, bc_t, bc_f, gd_tt, bc_tt, bc_ff, or_true, true_or, and_true, true_and, Nat.reduceAdd, mo_b_s e0]
        · by_cases c4 : w < 20
          · simp (disch := omega) only [X6_store, rr_p, rr_bp, rr_bb, rr_0, rr_lt, rr_blt, rr_le, rr_ble, rr_eq, rr_beq, rr_nl_n, rr_nl_s, rr_bnl_n, rr_bnl_s, rr_cond_t, rr_cond_f, rr_bcond_t, rr_bcond_f, rr_bon, rr_bcv, rr_cv, rr_g, rr_gr, rr_si, rr_sz, rr_sr, rr_al, rr_ld, rr_st, rr_rl, rr_rs, rr_ni, rr_nr, rr_z, rr_div, rr_rem, rr_lc, rr_mx, rr_mn, rr_ab, rr_no, gd_t, bc_t, bc_f, gd_tt, bc_tt, bc_ff, or_true, true_or, and_true, true_and, Nat.reduceAdd, mo_b_s e0]
          · by_cases c5 : w < 26
            · simp (disch := omega) only [X6_store, rr_p, rr_bp, rr_bb, rr_0, rr_lt, rr_blt, rr_le, rr_ble, rr_eq, rr_beq, rr_nl_n, rr_nl_s, rr_bnl_n, rr_bnl_s, rr_cond_t, rr_cond_f, rr_bcond_t, rr_bcond_f, rr_bon, rr_bcv, rr_cv, rr_g, rr_gr, rr_si, rr_sz, rr_sr, rr_al, rr_ld, rr_st, rr_rl, rr_rs, rr_ni, rr_nr, rr_z, rr_div, rr_rem, rr_lc, rr_mx, rr_mn, rr_ab, rr_no, gd_t, bc_t, bc_f, gd_tt, bc_tt, bc_ff, or_true, true_or, and_true, true_and, Nat.reduceAdd, mo_b_s e0]
            · simp (disch := omega) only [X6_store, rr_p, rr_bp, rr_bb, rr_0, rr_lt, rr_blt, rr_le, rr_ble, rr_eq, rr_beq, rr_nl_n, rr_nl_s, rr_bnl_n, rr_bnl_s, rr_cond_t, rr_cond_f, rr_bcond_t, rr_bcond_f, rr_bon, rr_bcv, rr_cv, rr_g, rr_gr, rr_si, rr_sz, rr_sr, rr_al, rr_ld, rr_st, rr_rl, rr_rs, rr_ni, rr_nr, rr_z, rr_div, rr_rem, rr_lc, rr_mx, rr_mn, rr_ab, rr_no, gd_t, bc_t, bc_f, gd_tt, bc_tt, bc_ff, or_true, true_or, and_true, true_and, Nat.reduceAdd, mo_b_s e0]
    · intro m h hM
      obtain ⟨mT, f15, e0⟩ := M0 m h hM
      rw [bc_f cA] at e0
      simp (disch := omega) only [X7_store, rr_p, rr_bp, rr_bb, rr_0, rr_lt, rr_blt, rr_le, rr_ble, rr_eq, rr_beq, rr_nl_n, rr_nl_s, rr_bnl_n, rr_bnl_s, rr_cond_t, rr_cond_f, rr_bcond_t, rr_bcond_f, rr_bon, rr_bcv, rr_cv, rr_g, rr_gr, rr_si, rr_sz, rr_sr, rr_al, rr_ld, rr_st, rr_rl, rr_rs, rr_ni, rr_nr, rr_z, rr_div, rr_rem, rr_lc, rr_mx, rr_mn, rr_ab, rr_no, gd_t, bc_t, bc_f, gd_tt, bc_tt, bc_ff, or_true, true_or, and_true, true_and, Nat.reduceAdd, mo_b_s e0]
