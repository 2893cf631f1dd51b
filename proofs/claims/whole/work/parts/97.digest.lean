def catN (g : Nat → List Int) : Nat → List Int
  | 0 => []
  | n + 1 => catN g n ++ g n
theorem mixL_app (m : Int) (a b : List Int) : mixL m (a ++ b) = mixL (mixL m a) b := by unfold mixL; rw [List.foldl_append]
theorem mixL_1 (m v : Int) : mixL m [v] = 31 * m + v := rfl
theorem cat_one {l : List Int} : catN (fun k => [l.getD k 0]) l.length = l := by
  have key : ∀ n : Nat, n ≤ l.length → catN (fun k => [l.getD k 0]) n = l.take n := by
    intro n
    induction n with
    | zero => intro _; rfl
    | succ n ih => intro hn; show catN (fun k => [l.getD k 0]) n ++ [l.getD n 0] = _; rw [ih (by omega), take_s (by omega)]
  rw [key _ (Nat.le_refl _), List.take_length]
/-- the class's loops that mix -/
theorem lp_mix {F : (Int × Int) → MO ((Int × Int) ⊕ Int)} {h : AH} {n : Nat} (g : Nat → List Int) (y0 : Int) (hn : n < 1000) (step : ∀ (j : Nat) (y : Int), j < n → F (y, (j : Int)) h = some (.inl (mixL y (g j), (j : Int) + 1), h)) (ex : ∀ y : Int, F (y, (n : Int)) h = some (.inr y, h)) : mo_lp mo_N F (y0, 0) h = some (mixL y0 (catN g n), h) := by
  have hs := lp_seq (F := F) (fun j : Nat => (mixL y0 (catN g j), (j : Int))) (fun _ => h) n (b := mixL y0 (catN g n)) (hE := h) (fun j hj => by
    rw [step j _ hj, ← mixL_app, Int.natCast_add, Int.natCast_one]; rfl) (ex _) mo_N (by rw [mo_N_v]; omega)
  exact hs
theorem q6_mix {h : AH} {y v : Int} (hv : -2147483648 ≤ v ∧ v ≤ 2147483647) : X6_mix y v h = some (mixL y [v], h) := by
  rw [mixL_1]
  simp (disch := omega) only [X6_mix, rr_p, rr_bp, rr_bb, rr_0, rr_lt, rr_blt, rr_le, rr_ble, rr_eq, rr_beq, rr_nl_n, rr_nl_s, rr_bnl_n, rr_bnl_s, rr_cond_t, rr_cond_f, rr_bcond_t, rr_bcond_f, rr_bon, rr_bcv, rr_cv, rr_g, rr_gr, rr_si, rr_sz, rr_sr, rr_al, rr_ld, rr_st, rr_rl, rr_rs, rr_ni, rr_nr, rr_z, rr_div, rr_rem, rr_lc, rr_mx, rr_mn, rr_ab, rr_no, gd_t, bc_t, bc_f, gd_tt, bc_tt, bc_ff, or_true, true_or, and_true, true_and, Nat.reduceAdd]
theorem q4_mixInto {h : AH} {a : Nat} {xs : List Int} (hR : kR h a xs) (hx : pL xs) (y : Int) : X4_mixInto a y h = some (mixL y xs, h) := by
  have t0 := hR.1
  have f1 := hR.2.2.2.1
  have b1 := hR.2.2.2.2.1
  have b2 := hR.2.2.2.2.2.1
  have hs := lp_mix (F := X4_mixInto_L5 a) (h := h) (n := xs.length) (fun k => [xs.getD k 0]) y (by omega) (fun j y hj => by
    have e1 := q4_at hR (i := (j : Int)) (by omega)
    rw [if_pos (by omega), Int.toNat_natCast] at e1
    have e2 := q6_mix (h := h) (y := y) (v := xs.getD j 0) (by have := hx j; omega)
    simp (disch := omega) only [X4_mixInto_L5, rr_p, rr_bp, rr_bb, rr_0, rr_lt, rr_blt, rr_le, rr_ble, rr_eq, rr_beq, rr_nl_n, rr_nl_s, rr_bnl_n, rr_bnl_s, rr_cond_t, rr_cond_f, rr_bcond_t, rr_bcond_f, rr_bon, rr_bcv, rr_cv, rr_g, rr_gr, rr_si, rr_sz, rr_sr, rr_al, rr_ld, rr_st, rr_rl, rr_rs, rr_ni, rr_nr, rr_z, rr_div, rr_rem, rr_lc, rr_mx, rr_mn, rr_ab, rr_no, gd_t, bc_t, bc_f, gd_tt, bc_tt, bc_ff, or_true, true_or, and_true, true_and, Nat.reduceAdd, f1, mo_b_s e1, mo_b_s e2]) (fun y => by simp (disch := omega) only [X4_mixInto_L5, rr_p, rr_bp, rr_bb, rr_0, rr_lt, rr_blt, rr_le, rr_ble, rr_eq, rr_beq, rr_nl_n, rr_nl_s, rr_bnl_n, rr_bnl_s, rr_cond_t, rr_cond_f, rr_bcond_t, rr_bcond_f, rr_bon, rr_bcv, rr_cv, rr_g, rr_gr, rr_si, rr_sz, rr_sr, rr_al, rr_ld, rr_st, rr_rl, rr_rs, rr_ni, rr_nr, rr_z, rr_div, rr_rem, rr_lc, rr_mx, rr_mn, rr_ab, rr_no, gd_t, bc_t, bc_f, gd_tt, bc_tt, bc_ff, or_true, true_or, and_true, true_and, Nat.reduceAdd, f1])
  rw [cat_one] at hs
  simp (disch := omega) only [X4_mixInto, rr_p, rr_bp, rr_bb, rr_0, rr_lt, rr_blt, rr_le, rr_ble, rr_eq, rr_beq, rr_nl_n, rr_nl_s, rr_bnl_n, rr_bnl_s, rr_cond_t, rr_cond_f, rr_bcond_t, rr_bcond_f, rr_bon, rr_bcv, rr_cv, rr_g, rr_gr, rr_si, rr_sz, rr_sr, rr_al, rr_ld, rr_st, rr_rl, rr_rs, rr_ni, rr_nr, rr_z, rr_div, rr_rem, rr_lc, rr_mx, rr_mn, rr_ab, rr_no, gd_t, bc_t, bc_f, gd_tt, bc_tt, bc_ff, or_true, true_or, and_true, true_and, Nat.reduceAdd, mo_b_s hs]
def dgH (q : HK) : List Int := [q.1] ++ [(q.2.1.length : Int)] ++ [(q.2.2.length : Int)] ++ q.2.1 ++ q.2.2
def dgP (W : List HK) : List Int := catN (fun w => [tel W (w : Int)]) 4 ++ catN (fun i => dgH (hk W i)) W.length
def dgV (v : VR) : List Int := catN (fun w => [abt v (w : Int)]) 5 ++ v.1
def dgR (V : List VR) (u : Nat) : List Int := catN (fun v => if u = v then [] else [rm (dW (vn V u).1 (vn V v).1)]) V.length
def dgS (s : SG) : List Int := s.1 ++ catN (fun v => dgV (vn s.2.1 v)) s.2.1.length ++ catN (fun p => dgP (pt s.2.2.1 p)) s.2.2.1.length ++ catN (fun u => dgR s.2.1 u) s.2.1.length ++ catN (fun w => [cnt s (w : Int)]) 4
theorem tel_r {b : Int} {W : List HK} (h : OP b W) (w : Int) : 0 ≤ tel W w ∧ tel W w ≤ 1000 := by
  have h1 := h.2.1
  have h2 := h.2.2.1
  have h3 := h.2.2.2.1
  unfold tel rm
  by_cases c0 : w = 0
  · rw [if_pos c0]; omega
  · rw [if_neg c0]
    by_cases c1 : w = 1
    · rw [if_pos c1]; omega
    · rw [if_neg c1]
      by_cases c2 : w = 2
      · rw [if_pos c2]; omega
      · rw [if_neg c2]; omega
theorem abt_r {V : List VR} (oV : OV V) {v : Nat} (hv : v < V.length) (w : Int) : -1 ≤ abt (vn V v) w ∧ abt (vn V v) w ≤ 1000 := by
  have oV1 := oV.1
  obtain ⟨l1, -, l3, l4, l5⟩ := oV.2 v hv
  unfold abt
  by_cases c0 : w = 0
  · rw [if_pos c0]; omega
  · rw [if_neg c0]
    by_cases c1 : w = 1
    · rw [if_pos c1]; omega
    · rw [if_neg c1]
      by_cases c2 : w = 2
      · rw [if_pos c2]; omega
      · rw [if_neg c2]
        by_cases c3 : w = 3
        · rw [if_pos c3]; omega
        · rw [if_neg c3]; omega
theorem cnt_r {s : SG} (ho : OKS s) (w : Int) : -102 ≤ cnt s w ∧ cnt s w ≤ 1000 := by
  have h1 := ho.1.1
  have h2 := ho.2.1.1
  have h3 := ho.2.2.1.1
  have h4 := ho.2.2.2
  unfold cnt
  by_cases c0 : w = 0
  · rw [if_pos c0]; omega
  · rw [if_neg c0]
    by_cases c1 : w = 1
    · rw [if_pos c1]; omega
    · rw [if_neg c1]
      by_cases c2 : w = 2
      · rw [if_pos c2]; omega
      · rw [if_neg c2]
        by_cases c3 : w = 3
        · rw [if_pos c3]; omega
        · rw [if_neg c3]; omega
theorem q6_mixPatch {h : AH} {a mh ml : Nat} {b : Int} {W : List HK} (hP : kP h a mh ml W) (oP : OP b W) (hb : b ≤ 900) (y : Int) : X6_mixPatch y (some a) h = some (mixL y (dgP W), h) := by
  have hV := OP_pV oP (by omega)
  have t0 := hP.1.1.1
  have lW := oP.2.1
  have e0 := q3_hunks hP
  have hs1 := lp_mix (F := X6_mixPatch_L5 (some a)) (h := h) (n := 4) (fun w => [tel W (w : Int)]) y (by omega) (fun j y hj => by
    have e1 := q6_tellPatch hP (w := (j : Int)) (by unfold am_r; omega)
    have e2 := q6_mix (h := h) (y := y) (v := tel W (j : Int)) (by have := tel_r oP (j : Int); omega)
    simp (disch := omega) only [X6_mixPatch_L5, rr_p, rr_bp, rr_bb, rr_0, rr_lt, rr_blt, rr_le, rr_ble, rr_eq, rr_beq, rr_nl_n, rr_nl_s, rr_bnl_n, rr_bnl_s, rr_cond_t, rr_cond_f, rr_bcond_t, rr_bcond_f, rr_bon, rr_bcv, rr_cv, rr_g, rr_gr, rr_si, rr_sz, rr_sr, rr_al, rr_ld, rr_st, rr_rl, rr_rs, rr_ni, rr_nr, rr_z, rr_div, rr_rem, rr_lc, rr_mx, rr_mn, rr_ab, rr_no, gd_t, bc_t, bc_f, gd_tt, bc_tt, bc_ff, or_true, true_or, and_true, true_and, Nat.reduceAdd, mo_b_s e1, mo_b_s e2]) (fun y => by simp (disch := omega) only [X6_mixPatch_L5, rr_p, rr_bp, rr_bb, rr_0, rr_lt, rr_blt, rr_le, rr_ble, rr_eq, rr_beq, rr_nl_n, rr_nl_s, rr_bnl_n, rr_bnl_s, rr_cond_t, rr_cond_f, rr_bcond_t, rr_bcond_f, rr_bon, rr_bcv, rr_cv, rr_g, rr_gr, rr_si, rr_sz, rr_sr, rr_al, rr_ld, rr_st, rr_rl, rr_rs, rr_ni, rr_nr, rr_z, rr_div, rr_rem, rr_lc, rr_mx, rr_mn, rr_ab, rr_no, gd_t, bc_t, bc_f, gd_tt, bc_tt, bc_ff, or_true, true_or, and_true, true_and, Nat.reduceAdd])
  have hs2 := lp_mix (F := X6_mixPatch_L31 (some a)) (h := h) (n := W.length) (fun i => dgH (hk W i)) (mixL y (catN (fun w => [tel W (w : Int)]) 4)) (by omega) (fun j y hj => by
    have e1 := q3_begins hP (i := (j : Int)) (by omega) (by omega)
    have e2 := q3_going hP (i := (j : Int)) (by omega) (by omega)
    have e3 := q3_coming hP (i := (j : Int)) (by omega) (by omega)
    rw [Int.toNat_natCast] at e1 e2 e3
    have r1 := (hV j).1
    have g1 := @hgs_s W j hj
    have g2 := @hgs_le W (j + 1)
    have g3 := @hcs_s W j hj
    have g4 := @hcs_le W (j + 1)
    have g5 := oP.2.2.1
    have g6 := oP.2.2.2.1
    have f1 := q6_mix (h := h) (y := y) (v := (hk W j).1) (by omega)
    have f2 := q6_mix (h := h) (y := mixL y [(hk W j).1]) (v := ((hk W j).2.1.length : Int)) (by omega)
    have f3 := q6_mix (h := h) (y := mixL (mixL y [(hk W j).1]) [((hk W j).2.1.length : Int)]) (v := ((hk W j).2.2.length : Int)) (by omega)
    have i1 := lp_mix (F := X6_mixPatch_L76 (some a) (j : Int)) (h := h) (n := (hk W j).2.1.length) (fun k => [(hk W j).2.1.getD k 0]) (mixL (mixL (mixL y [(hk W j).1]) [((hk W j).2.1.length : Int)]) [((hk W j).2.2.length : Int)]) (by omega) (fun k y hk1 => by
      have q1 := q3_goingLine hP (i := (j : Int)) (k := (k : Int)) (by omega) (by omega) (by omega)
      rw [Int.toNat_natCast, Int.toNat_natCast, if_pos (by omega)] at q1
      have q2 := q6_mix (h := h) (y := y) (v := (hk W j).2.1.getD k 0) (by have := (hV j).2.1 k; omega)
      simp (disch := omega) only [X6_mixPatch_L76, rr_p, rr_bp, rr_bb, rr_0, rr_lt, rr_blt, rr_le, rr_ble, rr_eq, rr_beq, rr_nl_n, rr_nl_s, rr_bnl_n, rr_bnl_s, rr_cond_t, rr_cond_f, rr_bcond_t, rr_bcond_f, rr_bon, rr_bcv, rr_cv, rr_g, rr_gr, rr_si, rr_sz, rr_sr, rr_al, rr_ld, rr_st, rr_rl, rr_rs, rr_ni, rr_nr, rr_z, rr_div, rr_rem, rr_lc, rr_mx, rr_mn, rr_ab, rr_no, gd_t, bc_t, bc_f, gd_tt, bc_tt, bc_ff, or_true, true_or, and_true, true_and, Nat.reduceAdd, mo_b_s e2, mo_b_s q1, mo_b_s q2]) (fun y => by simp (disch := omega) only [X6_mixPatch_L76, rr_p, rr_bp, rr_bb, rr_0, rr_lt, rr_blt, rr_le, rr_ble, rr_eq, rr_beq, rr_nl_n, rr_nl_s, rr_bnl_n, rr_bnl_s, rr_cond_t, rr_cond_f, rr_bcond_t, rr_bcond_f, rr_bon, rr_bcv, rr_cv, rr_g, rr_gr, rr_si, rr_sz, rr_sr, rr_al, rr_ld, rr_st, rr_rl, rr_rs, rr_ni, rr_nr, rr_z, rr_div, rr_rem, rr_lc, rr_mx, rr_mn, rr_ab, rr_no, gd_t, bc_t, bc_f, gd_tt, bc_tt, bc_ff, or_true, true_or, and_true, true_and, Nat.reduceAdd, mo_b_s e2])
    rw [cat_one] at i1
    have i2 := lp_mix (F := X6_mixPatch_L109 (some a) (j : Int)) (h := h) (n := (hk W j).2.2.length) (fun k => [(hk W j).2.2.getD k 0]) (mixL (mixL (mixL (mixL y [(hk W j).1]) [((hk W j).2.1.length : Int)]) [((hk W j).2.2.length : Int)]) (hk W j).2.1) (by omega) (fun k y hk1 => by
      have q1 := q3_comingLine hP (i := (j : Int)) (k := (k : Int)) (by omega) (by omega) (by omega)
      rw [Int.toNat_natCast, Int.toNat_natCast, if_pos (by omega)] at q1
      have q2 := q6_mix (h := h) (y := y) (v := (hk W j).2.2.getD k 0) (by have := (hV j).2.2 k; omega)
      simp (disch := omega) only [X6_mixPatch_L109, rr_p, rr_bp, rr_bb, rr_0, rr_lt, rr_blt, rr_le, rr_ble, rr_eq, rr_beq, rr_nl_n, rr_nl_s, rr_bnl_n, rr_bnl_s, rr_cond_t, rr_cond_f, rr_bcond_t, rr_bcond_f, rr_bon, rr_bcv, rr_cv, rr_g, rr_gr, rr_si, rr_sz, rr_sr, rr_al, rr_ld, rr_st, rr_rl, rr_rs, rr_ni, rr_nr, rr_z, rr_div, rr_rem, rr_lc, rr_mx, rr_mn, rr_ab, rr_no, gd_t, bc_t, bc_f, gd_tt, bc_tt, bc_ff, or_true, true_or, and_true, true_and, Nat.reduceAdd, mo_b_s e3, mo_b_s q1, mo_b_s q2]) (fun y => by simp (disch := omega) only [X6_mixPatch_L109, rr_p, rr_bp, rr_bb, rr_0, rr_lt, rr_blt, rr_le, rr_ble, rr_eq, rr_beq, rr_nl_n, rr_nl_s, rr_bnl_n, rr_bnl_s, rr_cond_t, rr_cond_f, rr_bcond_t, rr_bcond_f, rr_bon, rr_bcv, rr_cv, rr_g, rr_gr, rr_si, rr_sz, rr_sr, rr_al, rr_ld, rr_st, rr_rl, rr_rs, rr_ni, rr_nr, rr_z, rr_div, rr_rem, rr_lc, rr_mx, rr_mn, rr_ab, rr_no, gd_t, bc_t, bc_f, gd_tt, bc_tt, bc_ff, or_true, true_or, and_true, true_and, Nat.reduceAdd, mo_b_s e3])
    rw [cat_one] at i2
    unfold dgH
    rw [mixL_app, mixL_app, mixL_app, mixL_app]
    simp (disch := omega) only [X6_mixPatch_L31, rr_p, rr_bp, rr_bb, rr_0, rr_lt, rr_blt, rr_le, rr_ble, rr_eq, rr_beq, rr_nl_n, rr_nl_s, rr_bnl_n, rr_bnl_s, rr_cond_t, rr_cond_f, rr_bcond_t, rr_bcond_f, rr_bon, rr_bcv, rr_cv, rr_g, rr_gr, rr_si, rr_sz, rr_sr, rr_al, rr_ld, rr_st, rr_rl, rr_rs, rr_ni, rr_nr, rr_z, rr_div, rr_rem, rr_lc, rr_mx, rr_mn, rr_ab, rr_no, gd_t, bc_t, bc_f, gd_tt, bc_tt, bc_ff, or_true, true_or, and_true, true_and, Nat.reduceAdd, mo_b_s e0, mo_b_s e1, mo_b_s e2, mo_b_s e3, mo_b_s f1, mo_b_s f2, mo_b_s f3, mo_b_s i1, mo_b_s i2]) (fun y => by simp (disch := omega) only [X6_mixPatch_L31, rr_p, rr_bp, rr_bb, rr_0, rr_lt, rr_blt, rr_le, rr_ble, rr_eq, rr_beq, rr_nl_n, rr_nl_s, rr_bnl_n, rr_bnl_s, rr_cond_t, rr_cond_f, rr_bcond_t, rr_bcond_f, rr_bon, rr_bcv, rr_cv, rr_g, rr_gr, rr_si, rr_sz, rr_sr, rr_al, rr_ld, rr_st, rr_rl, rr_rs, rr_ni, rr_nr, rr_z, rr_div, rr_rem, rr_lc, rr_mx, rr_mn, rr_ab, rr_no, gd_t, bc_t, bc_f, gd_tt, bc_tt, bc_ff, or_true, true_or, and_true, true_and, Nat.reduceAdd, mo_b_s e0])
  unfold dgP
  rw [mixL_app]
  simp (disch := omega) only [X6_mixPatch, rr_p, rr_bp, rr_bb, rr_0, rr_lt, rr_blt, rr_le, rr_ble, rr_eq, rr_beq, rr_nl_n, rr_nl_s, rr_bnl_n, rr_bnl_s, rr_cond_t, rr_cond_f, rr_bcond_t, rr_bcond_f, rr_bon, rr_bcv, rr_cv, rr_g, rr_gr, rr_si, rr_sz, rr_sr, rr_al, rr_ld, rr_st, rr_rl, rr_rs, rr_ni, rr_nr, rr_z, rr_div, rr_rem, rr_lc, rr_mx, rr_mn, rr_ab, rr_no, gd_t, bc_t, bc_f, gd_tt, bc_tt, bc_ff, or_true, true_or, and_true, true_and, Nat.reduceAdd, mo_b_s hs1, mo_b_s hs2]
theorem q6_digest {h : AH} {x : Nat} {s : SG} (hK : KI h x s) (ho : OKS s) : X6_digest x h = some (mixL 271 (dgS s), h) := by
  obtain ⟨hR, nD, hSc, A, B, hB⟩ := id hK
  obtain ⟨⟨o1, ⟨p0, p1, p2, p4, p6, p7, p8, p9, p10, p11, p12⟩, o3, o4, o5, o6, o7, o8, o9⟩, ⟨f3, f5, f13⟩, hA, hQ, hM, hX⟩ := id hB
  have oV := ho.2.1
  have oV1 := oV.1
  have oQ := ho.2.2.1
  have oQ1 := oQ.1
  have tR := hR.1
  have e1 := q4_mixInto hR (wL_pL ho.1.2) 271
  have hs1 := lp_mix (F := X6_digest_L13 x) (h := h) (n := s.2.1.length) (fun v => dgV (vn s.2.1 v)) (mixL 271 s.1) (by omega) (fun j y hj => by
    have hm := lp_mix (F := X6_mixVersion_L6 x (j : Int)) (h := h) (n := 5) (fun w => [abt (vn s.2.1 j) (w : Int)]) y (by omega) (fun w y hw => by
      have q1 := k_about ho hK (v := (j : Int)) (w := (w : Int)) (by unfold am_r; omega) (by omega) (by omega)
      rw [Int.toNat_natCast] at q1
      have q2 := q6_mix (h := h) (y := y) (v := abt (vn s.2.1 j) (w : Int)) (by have := abt_r oV hj (w : Int); omega)
      simp (disch := omega) only [X6_mixVersion_L6, rr_p, rr_bp, rr_bb, rr_0, rr_lt, rr_blt, rr_le, rr_ble, rr_eq, rr_beq, rr_nl_n, rr_nl_s, rr_bnl_n, rr_bnl_s, rr_cond_t, rr_cond_f, rr_bcond_t, rr_bcond_f, rr_bon, rr_bcv, rr_cv, rr_g, rr_gr, rr_si, rr_sz, rr_sr, rr_al, rr_ld, rr_st, rr_rl, rr_rs, rr_ni, rr_nr, rr_z, rr_div, rr_rem, rr_lc, rr_mx, rr_mn, rr_ab, rr_no, gd_t, bc_t, bc_f, gd_tt, bc_tt, bc_ff, or_true, true_or, and_true, true_and, Nat.reduceAdd, mo_b_s q1, mo_b_s q2]) (fun y => by simp (disch := omega) only [X6_mixVersion_L6, rr_p, rr_bp, rr_bb, rr_0, rr_lt, rr_blt, rr_le, rr_ble, rr_eq, rr_beq, rr_nl_n, rr_nl_s, rr_bnl_n, rr_bnl_s, rr_cond_t, rr_cond_f, rr_bcond_t, rr_bcond_f, rr_bon, rr_bcv, rr_cv, rr_g, rr_gr, rr_si, rr_sz, rr_sr, rr_al, rr_ld, rr_st, rr_rl, rr_rs, rr_ni, rr_nr, rr_z, rr_div, rr_rem, rr_lc, rr_mx, rr_mn, rr_ab, rr_no, gd_t, bc_t, bc_f, gd_tt, bc_tt, bc_ff, or_true, true_or, and_true, true_and, Nat.reduceAdd])
    have q3 := q6_versionOrNull hB oV1 (n := (j : Int)) (by unfold am_r; omega)
    rw [if_pos (by omega), Int.toNat_natCast] at q3
    obtain ⟨a1, a2, -⟩ := hA j hj
    obtain ⟨aT, aP, -, -, -, -, -, -, aR, -⟩ := id a2
    have aT2 := aR.1
    have q4 := q4_mixInto aR (wL_pL (oV.2 j hj).2.1) (mixL y (catN (fun w => [abt (vn s.2.1 j) (w : Int)]) 5))
    have q5 : X6_mixVersion x y (j : Int) h = some (mixL y (dgV (vn s.2.1 j)), h) := by
      unfold dgV
      rw [mixL_app]
      simp (disch := omega) only [X6_mixVersion, rr_p, rr_bp, rr_bb, rr_0, rr_lt, rr_blt, rr_le, rr_ble, rr_eq, rr_beq, rr_nl_n, rr_nl_s, rr_bnl_n, rr_bnl_s, rr_cond_t, rr_cond_f, rr_bcond_t, rr_bcond_f, rr_bon, rr_bcv, rr_cv, rr_g, rr_gr, rr_si, rr_sz, rr_sr, rr_al, rr_ld, rr_st, rr_rl, rr_rs, rr_ni, rr_nr, rr_z, rr_div, rr_rem, rr_lc, rr_mx, rr_mn, rr_ab, rr_no, gd_t, bc_t, bc_f, gd_tt, bc_tt, bc_ff, or_true, true_or, and_true, true_and, Nat.reduceAdd, mo_b_s hm, mo_b_s q3, aP, mo_b_s q4]
    simp (disch := omega) only [X6_digest_L13, rr_p, rr_bp, rr_bb, rr_0, rr_lt, rr_blt, rr_le, rr_ble, rr_eq, rr_beq, rr_nl_n, rr_nl_s, rr_bnl_n, rr_bnl_s, rr_cond_t, rr_cond_f, rr_bcond_t, rr_bcond_f, rr_bon, rr_bcv, rr_cv, rr_g, rr_gr, rr_si, rr_sz, rr_sr, rr_al, rr_ld, rr_st, rr_rl, rr_rs, rr_ni, rr_nr, rr_z, rr_div, rr_rem, rr_lc, rr_mx, rr_mn, rr_ab, rr_no, gd_t, bc_t, bc_f, gd_tt, bc_tt, bc_ff, or_true, true_or, and_true, true_and, Nat.reduceAdd, f3, mo_b_s q5]) (fun y => by simp (disch := omega) only [X6_digest_L13, rr_p, rr_bp, rr_bb, rr_0, rr_lt, rr_blt, rr_le, rr_ble, rr_eq, rr_beq, rr_nl_n, rr_nl_s, rr_bnl_n, rr_bnl_s, rr_cond_t, rr_cond_f, rr_bcond_t, rr_bcond_f, rr_bon, rr_bcv, rr_cv, rr_g, rr_gr, rr_si, rr_sz, rr_sr, rr_al, rr_ld, rr_st, rr_rl, rr_rs, rr_ni, rr_nr, rr_z, rr_div, rr_rem, rr_lc, rr_mx, rr_mn, rr_ab, rr_no, gd_t, bc_t, bc_f, gd_tt, bc_tt, bc_ff, or_true, true_or, and_true, true_and, Nat.reduceAdd, f3])
  have hs2 := lp_mix (F := X6_digest_L36 x) (h := h) (n := s.2.2.1.length) (fun p => dgP (pt s.2.2.1 p)) (mixL (mixL 271 s.1) (catN (fun v => dgV (vn s.2.1 v)) s.2.1.length)) (by omega) (fun j y hj => by
    have q3 := q6_patchOrNull hB oQ1 (n := (j : Int)) (by unfold am_r; omega)
    rw [if_pos (by omega), Int.toNat_natCast] at q3
    have q4 := q6_mixPatch (hQ j hj).2.1 (oQ.2 j hj) (by omega) y
    simp (disch := omega) only [X6_digest_L36, rr_p, rr_bp, rr_bb, rr_0, rr_lt, rr_blt, rr_le, rr_ble, rr_eq, rr_beq, rr_nl_n, rr_nl_s, rr_bnl_n, rr_bnl_s, rr_cond_t, rr_cond_f, rr_bcond_t, rr_bcond_f, rr_bon, rr_bcv, rr_cv, rr_g, rr_gr, rr_si, rr_sz, rr_sr, rr_al, rr_ld, rr_st, rr_rl, rr_rs, rr_ni, rr_nr, rr_z, rr_div, rr_rem, rr_lc, rr_mx, rr_mn, rr_ab, rr_no, gd_t, bc_t, bc_f, gd_tt, bc_tt, bc_ff, or_true, true_or, and_true, true_and, Nat.reduceAdd, f5, mo_b_s q3, mo_b_s q4]) (fun y => by simp (disch := omega) only [X6_digest_L36, rr_p, rr_bp, rr_bb, rr_0, rr_lt, rr_blt, rr_le, rr_ble, rr_eq, rr_beq, rr_nl_n, rr_nl_s, rr_bnl_n, rr_bnl_s, rr_cond_t, rr_cond_f, rr_bcond_t, rr_bcond_f, rr_bon, rr_bcv, rr_cv, rr_g, rr_gr, rr_si, rr_sz, rr_sr, rr_al, rr_ld, rr_st, rr_rl, rr_rs, rr_ni, rr_nr, rr_z, rr_div, rr_rem, rr_lc, rr_mx, rr_mn, rr_ab, rr_no, gd_t, bc_t, bc_f, gd_tt, bc_tt, bc_ff, or_true, true_or, and_true, true_and, Nat.reduceAdd, f5])
  have hs3 := lp_mix (F := X6_digest_L75 x) (h := h) (n := s.2.1.length) (fun u => dgR s.2.1 u) (mixL (mixL (mixL 271 s.1) (catN (fun v => dgV (vn s.2.1 v)) s.2.1.length)) (catN (fun p => dgP (pt s.2.2.1 p)) s.2.2.1.length)) (by omega) (fun u y hu => by
    have hm := lp_mix (F := X6_digest_L86 x (u : Int)) (h := h) (n := s.2.1.length) (fun v => if u = v then [] else [rm (dW (vn s.2.1 u).1 (vn s.2.1 v).1)]) y (by omega) (fun v y hv => by
      by_cases c : u = v
      · rw [if_pos c]
        show X6_digest_L86 x (u : Int) (y, (v : Int)) h = some (Sum.inl (y, (v : Int) + 1), h)
        simp (disch := omega) only [X6_digest_L86, rr_p, rr_bp, rr_bb, rr_0, rr_lt, rr_blt, rr_le, rr_ble, rr_eq, rr_beq, rr_nl_n, rr_nl_s, rr_bnl_n, rr_bnl_s, rr_cond_t, rr_cond_f, rr_bcond_t, rr_bcond_f, rr_bon, rr_bcv, rr_cv, rr_g, rr_gr, rr_si, rr_sz, rr_sr, rr_al, rr_ld, rr_st, rr_rl, rr_rs, rr_ni, rr_nr, rr_z, rr_div, rr_rem, rr_lc, rr_mx, rr_mn, rr_ab, rr_no, gd_t, bc_t, bc_f, gd_tt, bc_tt, bc_ff, or_true, true_or, and_true, true_and, Nat.reduceAdd, f3]
      · rw [if_neg c]
        have m6 := hM u v hu hv
        obtain ⟨l1, l2, -⟩ := oV.2 u hu
        obtain ⟨k1, k2, -⟩ := oV.2 v hv
        have q1 : X6_differenceRoom x (u : Int) (v : Int) h = some (rm (dW (vn s.2.1 u).1 (vn s.2.1 v).1), h) := by simp (disch := omega) only [X6_differenceRoom, rr_p, rr_bp, rr_bb, rr_0, rr_lt, rr_blt, rr_le, rr_ble, rr_eq, rr_beq, rr_nl_n, rr_nl_s, rr_bnl_n, rr_bnl_s, rr_cond_t, rr_cond_f, rr_bcond_t, rr_bcond_f, rr_bon, rr_bcv, rr_cv, rr_g, rr_gr, rr_si, rr_sz, rr_sr, rr_al, rr_ld, rr_st, rr_rl, rr_rs, rr_ni, rr_nr, rr_z, rr_div, rr_rem, rr_lc, rr_mx, rr_mn, rr_ab, rr_no, gd_t, bc_t, bc_f, gd_tt, bc_tt, bc_ff, or_true, true_or, and_true, true_and, Nat.reduceAdd, p6, m6]
        have q2 := q6_mix (h := h) (y := y) (v := rm (dW (vn s.2.1 u).1 (vn s.2.1 v).1)) (by have := rm_r l2 k2 l1 k1; omega)
        simp (disch := omega) only [X6_digest_L86, rr_p, rr_bp, rr_bb, rr_0, rr_lt, rr_blt, rr_le, rr_ble, rr_eq, rr_beq, rr_nl_n, rr_nl_s, rr_bnl_n, rr_bnl_s, rr_cond_t, rr_cond_f, rr_bcond_t, rr_bcond_f, rr_bon, rr_bcv, rr_cv, rr_g, rr_gr, rr_si, rr_sz, rr_sr, rr_al, rr_ld, rr_st, rr_rl, rr_rs, rr_ni, rr_nr, rr_z, rr_div, rr_rem, rr_lc, rr_mx, rr_mn, rr_ab, rr_no, gd_t, bc_t, bc_f, gd_tt, bc_tt, bc_ff, or_true, true_or, and_true, true_and, Nat.reduceAdd, f3, mo_b_s q1, mo_b_s q2]) (fun y => by simp (disch := omega) only [X6_digest_L86, rr_p, rr_bp, rr_bb, rr_0, rr_lt, rr_blt, rr_le, rr_ble, rr_eq, rr_beq, rr_nl_n, rr_nl_s, rr_bnl_n, rr_bnl_s, rr_cond_t, rr_cond_f, rr_bcond_t, rr_bcond_f, rr_bon, rr_bcv, rr_cv, rr_g, rr_gr, rr_si, rr_sz, rr_sr, rr_al, rr_ld, rr_st, rr_rl, rr_rs, rr_ni, rr_nr, rr_z, rr_div, rr_rem, rr_lc, rr_mx, rr_mn, rr_ab, rr_no, gd_t, bc_t, bc_f, gd_tt, bc_tt, bc_ff, or_true, true_or, and_true, true_and, Nat.reduceAdd, f3])
    unfold dgR
    simp (disch := omega) only [X6_digest_L75, rr_p, rr_bp, rr_bb, rr_0, rr_lt, rr_blt, rr_le, rr_ble, rr_eq, rr_beq, rr_nl_n, rr_nl_s, rr_bnl_n, rr_bnl_s, rr_cond_t, rr_cond_f, rr_bcond_t, rr_bcond_f, rr_bon, rr_bcv, rr_cv, rr_g, rr_gr, rr_si, rr_sz, rr_sr, rr_al, rr_ld, rr_st, rr_rl, rr_rs, rr_ni, rr_nr, rr_z, rr_div, rr_rem, rr_lc, rr_mx, rr_mn, rr_ab, rr_no, gd_t, bc_t, bc_f, gd_tt, bc_tt, bc_ff, or_true, true_or, and_true, true_and, Nat.reduceAdd, f3, mo_b_s hm]) (fun y => by simp (disch := omega) only [X6_digest_L75, rr_p, rr_bp, rr_bb, rr_0, rr_lt, rr_blt, rr_le, rr_ble, rr_eq, rr_beq, rr_nl_n, rr_nl_s, rr_bnl_n, rr_bnl_s, rr_cond_t, rr_cond_f, rr_bcond_t, rr_bcond_f, rr_bon, rr_bcv, rr_cv, rr_g, rr_gr, rr_si, rr_sz, rr_sr, rr_al, rr_ld, rr_st, rr_rl, rr_rs, rr_ni, rr_nr, rr_z, rr_div, rr_rem, rr_lc, rr_mx, rr_mn, rr_ab, rr_no, gd_t, bc_t, bc_f, gd_tt, bc_tt, bc_ff, or_true, true_or, and_true, true_and, Nat.reduceAdd, f3])
  have hs4 := lp_mix (F := X6_digest_L131 x) (h := h) (n := 4) (fun w => [cnt s (w : Int)]) (mixL (mixL (mixL (mixL 271 s.1) (catN (fun v => dgV (vn s.2.1 v)) s.2.1.length)) (catN (fun p => dgP (pt s.2.2.1 p)) s.2.2.1.length)) (catN (fun u => dgR s.2.1 u) s.2.1.length)) (by omega) (fun w y hw => by
    have q1 := k_count hK (w := (w : Int)) (by unfold am_r; omega)
    have q2 := q6_mix (h := h) (y := y) (v := cnt s (w : Int)) (by have := cnt_r ho (w : Int); omega)
    simp (disch := omega) only [X6_digest_L131, rr_p, rr_bp, rr_bb, rr_0, rr_lt, rr_blt, rr_le, rr_ble, rr_eq, rr_beq, rr_nl_n, rr_nl_s, rr_bnl_n, rr_bnl_s, rr_cond_t, rr_cond_f, rr_bcond_t, rr_bcond_f, rr_bon, rr_bcv, rr_cv, rr_g, rr_gr, rr_si, rr_sz, rr_sr, rr_al, rr_ld, rr_st, rr_rl, rr_rs, rr_ni, rr_nr, rr_z, rr_div, rr_rem, rr_lc, rr_mx, rr_mn, rr_ab, rr_no, gd_t, bc_t, bc_f, gd_tt, bc_tt, bc_ff, or_true, true_or, and_true, true_and, Nat.reduceAdd, mo_b_s q1, mo_b_s q2]) (fun y => by simp (disch := omega) only [X6_digest_L131, rr_p, rr_bp, rr_bb, rr_0, rr_lt, rr_blt, rr_le, rr_ble, rr_eq, rr_beq, rr_nl_n, rr_nl_s, rr_bnl_n, rr_bnl_s, rr_cond_t, rr_cond_f, rr_bcond_t, rr_bcond_f, rr_bon, rr_bcv, rr_cv, rr_g, rr_gr, rr_si, rr_sz, rr_sr, rr_al, rr_ld, rr_st, rr_rl, rr_rs, rr_ni, rr_nr, rr_z, rr_div, rr_rem, rr_lc, rr_mx, rr_mn, rr_ab, rr_no, gd_t, bc_t, bc_f, gd_tt, bc_tt, bc_ff, or_true, true_or, and_true, true_and, Nat.reduceAdd])
  unfold dgS
  rw [mixL_app, mixL_app, mixL_app, mixL_app]
  simp (disch := omega) only [X6_digest, rr_p, rr_bp, rr_bb, rr_0, rr_lt, rr_blt, rr_le, rr_ble, rr_eq, rr_beq, rr_nl_n, rr_nl_s, rr_bnl_n, rr_bnl_s, rr_cond_t, rr_cond_f, rr_bcond_t, rr_bcond_f, rr_bon, rr_bcv, rr_cv, rr_g, rr_gr, rr_si, rr_sz, rr_sr, rr_al, rr_ld, rr_st, rr_rl, rr_rs, rr_ni, rr_nr, rr_z, rr_div, rr_rem, rr_lc, rr_mx, rr_mn, rr_ab, rr_no, gd_t, bc_t, bc_f, gd_tt, bc_tt, bc_ff, or_true, true_or, and_true, true_and, Nat.reduceAdd, p0, mo_b_s e1, mo_b_s hs1, mo_b_s hs2, mo_b_s hs3, mo_b_s hs4]
/-- the model's loops that mix -/
def mH (h : AH) (m : Nat) (s : SG) (y : Int) : Prop := MI h m s ∧ ah_F h m 42 = y
theorem q7_mix {h : AH} {m : Nat} {s : SG} {y : Int} (hH : mH h m s y) (v : Int) : ∃ h', X7_mix m v h = some ((), h') ∧ mH h' m s (mixL y [v]) := by
  have mT := hH.1.1.1
  have f42 := hH.2
  have F : MF m 30 30 42 43 h (ah_sF h m 42 (31 * y + v)) := MF.sF (by omega) (by omega)
  exact ⟨ah_sF h m 42 (31 * y + v), by simp (disch := omega) only [X7_mix, rr_p, rr_bp, rr_bb, rr_0, rr_lt, rr_blt, rr_le, rr_ble, rr_eq, rr_beq, rr_nl_n, rr_nl_s, rr_bnl_n, rr_bnl_s, rr_cond_t, rr_cond_f, rr_bcond_t, rr_bcond_f, rr_bon, rr_bcv, rr_cv, rr_g, rr_gr, rr_si, rr_sz, rr_sr, rr_al, rr_ld, rr_st, rr_rl, rr_rs, rr_ni, rr_nr, rr_z, rr_div, rr_rem, rr_lc, rr_mx, rr_mn, rr_ab, rr_no, gd_t, bc_t, bc_f, gd_tt, bc_tt, bc_ff, or_true, true_or, and_true, true_and, Nat.reduceAdd, f42], MI_fr hH.1 F (by omega), by rw [mixL_1, hl_F_sF_s]⟩
theorem lp_mixM {F : Int → MO (Int ⊕ Unit)} {h : AH} {m n : Nat} {s : SG} (g : Nat → List Int) {y0 : Int} (hH : mH h m s y0) (hn : n < 1000) (step : ∀ (j : Nat) (y : Int) (h1 : AH), j < n → mH h1 m s y → ∃ h2, F (j : Int) h1 = some (.inl ((j : Int) + 1), h2) ∧ mH h2 m s (mixL y (g j))) (ex : ∀ (y : Int) (h1 : AH), mH h1 m s y → F (n : Int) h1 = some (.inr (), h1)) : ∃ h', mo_lp mo_N F 0 h = some ((), h') ∧ mH h' m s (mixL y0 (catN g n)) := by
  have hL := lp_inv (F := F) (fun t h' => ∃ j : Nat, t = (j : Int) ∧ j ≤ n ∧ mH h' m s (mixL y0 (catN g j))) (fun t => ((n : Int) - t).toNat) (fun _ h' => mH h' m s (mixL y0 (catN g n))) ?_ mo_N 0 h ⟨0, rfl, by omega, hH⟩ (by rw [mo_N_v]; omega)
  · obtain ⟨_, h', e, q⟩ := hL; exact ⟨h', e, q⟩
  · rintro t h' ⟨j, rfl, hj, hH'⟩
    by_cases cj : j < n
    · left
      obtain ⟨h2, e2, q2⟩ := step j _ h' cj hH'
      exact ⟨(j : Int) + 1, h2, e2, ⟨j + 1, by simp, by omega, by show mH h2 m s (mixL y0 (catN g j ++ g j)); rw [mixL_app]; exact q2⟩, by omega⟩
    · right
      have : j = n := by omega
      subst this
      exact ⟨(), h', ex _ h' hH', hH'⟩
theorem tlo_3 {q : HK} : tlo q 0 = q.1 ∧ tlo q 1 = (q.2.1.length : Int) ∧ tlo q 2 = (q.2.2.length : Int) := by
  refine ⟨?_, ?_, ?_⟩ <;> unfold tlo <;> simp
theorem q7_mixPatch {h : AH} {m p : Nat} {s : SG} {y : Int} (ho : OKS s) (hp : p < s.2.2.1.length) (hH : mH h m s y) : ∃ h', X7_mixPatch m (p : Int) h = some ((), h') ∧ mH h' m s (mixL y (dgP (pt s.2.2.1 p))) := by
  have oP := ho.2.2.1.2 p hp
  have oQ1 := ho.2.2.1.1
  have hV := OP_pV oP (by omega)
  have mT := hH.1.1.1
  generalize hWe : pt s.2.2.1 p = W at *
  have lW := oP.2.1
  have QQ : ∀ {h1 : AH} {y : Int}, mH h1 m s y → mQ h1 m p W := fun hq => by
    have := MI_Q hq.1 ho (p := p) hp
    rw [hWe] at this; exact this
  obtain ⟨h1, e1, H1⟩ := lp_mixM (F := X7_mixPatch_L2 m (p : Int)) (n := 4) (fun w => [tel W (w : Int)]) hH (by omega) (fun j y h1 hj hH1 => by
    have mT1 := hH1.1.1.1
    have q1 := m_of (QQ hH1) (w := (j : Int)) (by omega)
    have r1 := tel_r oP (j : Int)
    obtain ⟨h2, q2, H2⟩ := q7_mix hH1 (tel W (j : Int))
    exact ⟨h2, by simp (disch := omega) only [X7_mixPatch_L2, rr_p, rr_bp, rr_bb, rr_0, rr_lt, rr_blt, rr_le, rr_ble, rr_eq, rr_beq, rr_nl_n, rr_nl_s, rr_bnl_n, rr_bnl_s, rr_cond_t, rr_cond_f, rr_bcond_t, rr_bcond_f, rr_bon, rr_bcv, rr_cv, rr_g, rr_gr, rr_si, rr_sz, rr_sr, rr_al, rr_ld, rr_st, rr_rl, rr_rs, rr_ni, rr_nr, rr_z, rr_div, rr_rem, rr_lc, rr_mx, rr_mn, rr_ab, rr_no, gd_t, bc_t, bc_f, gd_tt, bc_tt, bc_ff, or_true, true_or, and_true, true_and, Nat.reduceAdd, mo_b_s q1, mo_b_s q2], H2⟩) (fun y h1 hH1 => by simp (disch := omega) only [X7_mixPatch_L2, rr_p, rr_bp, rr_bb, rr_0, rr_lt, rr_blt, rr_le, rr_ble, rr_eq, rr_beq, rr_nl_n, rr_nl_s, rr_bnl_n, rr_bnl_s, rr_cond_t, rr_cond_f, rr_bcond_t, rr_bcond_f, rr_bon, rr_bcv, rr_cv, rr_g, rr_gr, rr_si, rr_sz, rr_sr, rr_al, rr_ld, rr_st, rr_rl, rr_rs, rr_ni, rr_nr, rr_z, rr_div, rr_rem, rr_lc, rr_mx, rr_mn, rr_ab, rr_no, gd_t, bc_t, bc_f, gd_tt, bc_tt, bc_ff, or_true, true_or, and_true, true_and, Nat.reduceAdd])
  obtain ⟨h2, e2, H2⟩ := lp_mixM (F := X7_mixPatch_L26 m (p : Int)) (n := W.length) (fun i => dgH (hk W i)) H1 (by omega) (fun j y h1 hj hH1 => by
    have mT1 := hH1.1.1.1
    have hQ1 := QQ hH1
    have w1 := hQ1.2.1.1
    have pl := hQ1.2.2.1
    obtain ⟨p7, t7, n7⟩ := ms7 hQ1.1
    have r1 := (hV j).1
    have g1 := @hgs_s W j hj
    have g2 := @hgs_le W (j + 1)
    have g3 := @hcs_s W j hj
    have g4 := @hcs_le W (j + 1)
    have g5 := oP.2.2.1
    have g6 := oP.2.2.2.1
    obtain ⟨z0, z1, z2⟩ := @tlo_3 (hk W j)
    obtain ⟨h2, q2, H2⟩ := lp_mixM (F := X7_mixPatch_L38 m (p : Int) (j : Int)) (n := 3) (fun w => [tlo (hk W j) (w : Int)]) hH1 (by omega) (fun w y h1 hw hH1 => by
      have mT1 := hH1.1.1.1
      have q1 := m_told (QQ hH1) hj (w := (w : Int)) (by omega)
      have rt : -100000 ≤ tlo (hk W j) (w : Int) ∧ tlo (hk W j) (w : Int) ≤ 100000 := by
        have : w = 0 ∨ w = 1 ∨ w = 2 := by omega
        rcases this with rfl | rfl | rfl
        · rw [show ((0 : Nat) : Int) = 0 from rfl, z0]; exact r1
        · rw [show ((1 : Nat) : Int) = 1 from rfl, z1]; omega
        · rw [show ((2 : Nat) : Int) = 2 from rfl, z2]; omega
      obtain ⟨h2, q2, H2⟩ := q7_mix hH1 (tlo (hk W j) (w : Int))
      exact ⟨h2, by simp (disch := omega) only [X7_mixPatch_L38, rr_p, rr_bp, rr_bb, rr_0, rr_lt, rr_blt, rr_le, rr_ble, rr_eq, rr_beq, rr_nl_n, rr_nl_s, rr_bnl_n, rr_bnl_s, rr_cond_t, rr_cond_f, rr_bcond_t, rr_bcond_f, rr_bon, rr_bcv, rr_cv, rr_g, rr_gr, rr_si, rr_sz, rr_sr, rr_al, rr_ld, rr_st, rr_rl, rr_rs, rr_ni, rr_nr, rr_z, rr_div, rr_rem, rr_lc, rr_mx, rr_mn, rr_ab, rr_no, gd_t, bc_t, bc_f, gd_tt, bc_tt, bc_ff, or_true, true_or, and_true, true_and, Nat.reduceAdd, mo_b_s q1, mo_b_s q2], H2⟩) (fun y h1 hH1 => by simp (disch := omega) only [X7_mixPatch_L38, rr_p, rr_bp, rr_bb, rr_0, rr_lt, rr_blt, rr_le, rr_ble, rr_eq, rr_beq, rr_nl_n, rr_nl_s, rr_bnl_n, rr_bnl_s, rr_cond_t, rr_cond_f, rr_bcond_t, rr_bcond_f, rr_bon, rr_bcv, rr_cv, rr_g, rr_gr, rr_si, rr_sz, rr_sr, rr_al, rr_ld, rr_st, rr_rl, rr_rs, rr_ni, rr_nr, rr_z, rr_div, rr_rem, rr_lc, rr_mx, rr_mn, rr_ab, rr_no, gd_t, bc_t, bc_f, gd_tt, bc_tt, bc_ff, or_true, true_or, and_true, true_and, Nat.reduceAdd])
    have ec : catN (fun w => [tlo (hk W j) (w : Int)]) 3 = [(hk W j).1] ++ [((hk W j).2.1.length : Int)] ++ [((hk W j).2.2.length : Int)] := by
      show (([] ++ [tlo (hk W j) ((0 : Nat) : Int)]) ++ [tlo (hk W j) ((1 : Nat) : Int)]) ++ [tlo (hk W j) ((2 : Nat) : Int)] = _
      rw [show ((0 : Nat) : Int) = 0 from rfl, show ((1 : Nat) : Int) = 1 from rfl, show ((2 : Nat) : Int) = 2 from rfl, z0, z1, z2]; rfl
    rw [ec] at H2
    obtain ⟨h3, q3, H3⟩ := lp_mixM (F := X7_mixPatch_L63 m (p : Int) (j : Int)) (n := (hk W j).2.1.length) (fun k => [(hk W j).2.1.getD k 0]) H2 (by omega) (fun k y h1 hk1 hH1 => by
      have mT1 := hH1.1.1.1
      have hQg := QQ hH1
      obtain ⟨p9, t9, n9⟩ := ms9 hQg.1
      obtain ⟨p11, t11, n11⟩ := ms11 hQg.1
      obtain ⟨c1, c2, c3⟩ := mQ_a hQg (i := (j : Int)) (by omega) (by omega)
      rw [Int.toNat_natCast] at c2
      have e3 := q7_goFrom hQg (i := j) (by omega)
      have a3 := mQ_gl hQg hj hk1
      have rv := (hV j).2.1 k
      obtain ⟨h2, q2, H2⟩ := q7_mix hH1 ((hk W j).2.1.getD k 0)
      exact ⟨h2, by simp (disch := omega) only [X7_mixPatch_L63, rr_p, rr_bp, rr_bb, rr_0, rr_lt, rr_blt, rr_le, rr_ble, rr_eq, rr_beq, rr_nl_n, rr_nl_s, rr_bnl_n, rr_bnl_s, rr_cond_t, rr_cond_f, rr_bcond_t, rr_bcond_f, rr_bon, rr_bcv, rr_cv, rr_g, rr_gr, rr_si, rr_sz, rr_sr, rr_al, rr_ld, rr_st, rr_rl, rr_rs, rr_ni, rr_nr, rr_z, rr_div, rr_rem, rr_lc, rr_mx, rr_mn, rr_ab, rr_no, gd_t, bc_t, bc_f, gd_tt, bc_tt, bc_ff, or_true, true_or, and_true, true_and, Nat.reduceAdd, p9, p11, c2, mo_b_s e3, a3, mo_b_s q2], H2⟩) (fun y h1 hH1 => by
      have mT1 := hH1.1.1.1
      have hQg := QQ hH1
      obtain ⟨p9, t9, n9⟩ := ms9 hQg.1
      obtain ⟨c1, c2, c3⟩ := mQ_a hQg (i := (j : Int)) (by omega) (by omega)
      rw [Int.toNat_natCast] at c2
      simp (disch := omega) only [X7_mixPatch_L63, rr_p, rr_bp, rr_bb, rr_0, rr_lt, rr_blt, rr_le, rr_ble, rr_eq, rr_beq, rr_nl_n, rr_nl_s, rr_bnl_n, rr_bnl_s, rr_cond_t, rr_cond_f, rr_bcond_t, rr_bcond_f, rr_bon, rr_bcv, rr_cv, rr_g, rr_gr, rr_si, rr_sz, rr_sr, rr_al, rr_ld, rr_st, rr_rl, rr_rs, rr_ni, rr_nr, rr_z, rr_div, rr_rem, rr_lc, rr_mx, rr_mn, rr_ab, rr_no, gd_t, bc_t, bc_f, gd_tt, bc_tt, bc_ff, or_true, true_or, and_true, true_and, Nat.reduceAdd, p9, c2])
    rw [cat_one] at H3
    obtain ⟨h4, q4, H4⟩ := lp_mixM (F := X7_mixPatch_L104 m (p : Int) (j : Int)) (n := (hk W j).2.2.length) (fun k => [(hk W j).2.2.getD k 0]) H3 (by omega) (fun k y h1 hk1 hH1 => by
      have mT1 := hH1.1.1.1
      have hQg := QQ hH1
      obtain ⟨p10, t10, n10⟩ := ms10 hQg.1
      obtain ⟨p12, t12, n12⟩ := ms12 hQg.1
      obtain ⟨c1, c2, c3⟩ := mQ_a hQg (i := (j : Int)) (by omega) (by omega)
      rw [Int.toNat_natCast] at c3
      have e3 := q7_comeFrom hQg (i := j) (by omega)
      have a3 := mQ_cl hQg hj hk1
      have rv := (hV j).2.2 k
      obtain ⟨h2, q2, H2⟩ := q7_mix hH1 ((hk W j).2.2.getD k 0)
      exact ⟨h2, by simp (disch := omega) only [X7_mixPatch_L104, rr_p, rr_bp, rr_bb, rr_0, rr_lt, rr_blt, rr_le, rr_ble, rr_eq, rr_beq, rr_nl_n, rr_nl_s, rr_bnl_n, rr_bnl_s, rr_cond_t, rr_cond_f, rr_bcond_t, rr_bcond_f, rr_bon, rr_bcv, rr_cv, rr_g, rr_gr, rr_si, rr_sz, rr_sr, rr_al, rr_ld, rr_st, rr_rl, rr_rs, rr_ni, rr_nr, rr_z, rr_div, rr_rem, rr_lc, rr_mx, rr_mn, rr_ab, rr_no, gd_t, bc_t, bc_f, gd_tt, bc_tt, bc_ff, or_true, true_or, and_true, true_and, Nat.reduceAdd, p10, p12, c3, mo_b_s e3, a3, mo_b_s q2], H2⟩) (fun y h1 hH1 => by
      have mT1 := hH1.1.1.1
      have hQg := QQ hH1
      obtain ⟨p10, t10, n10⟩ := ms10 hQg.1
      obtain ⟨c1, c2, c3⟩ := mQ_a hQg (i := (j : Int)) (by omega) (by omega)
      rw [Int.toNat_natCast] at c3
      simp (disch := omega) only [X7_mixPatch_L104, rr_p, rr_bp, rr_bb, rr_0, rr_lt, rr_blt, rr_le, rr_ble, rr_eq, rr_beq, rr_nl_n, rr_nl_s, rr_bnl_n, rr_bnl_s, rr_cond_t, rr_cond_f, rr_bcond_t, rr_bcond_f, rr_bon, rr_bcv, rr_cv, rr_g, rr_gr, rr_si, rr_sz, rr_sr, rr_al, rr_ld, rr_st, rr_rl, rr_rs, rr_ni, rr_nr, rr_z, rr_div, rr_rem, rr_lc, rr_mx, rr_mn, rr_ab, rr_no, gd_t, bc_t, bc_f, gd_tt, bc_tt, bc_ff, or_true, true_or, and_true, true_and, Nat.reduceAdd, p10, c3])
    rw [cat_one] at H4
    refine ⟨h4, by simp (disch := omega) only [X7_mixPatch_L26, rr_p, rr_bp, rr_bb, rr_0, rr_lt, rr_blt, rr_le, rr_ble, rr_eq, rr_beq, rr_nl_n, rr_nl_s, rr_bnl_n, rr_bnl_s, rr_cond_t, rr_cond_f, rr_bcond_t, rr_bcond_f, rr_bon, rr_bcv, rr_cv, rr_g, rr_gr, rr_si, rr_sz, rr_sr, rr_al, rr_ld, rr_st, rr_rl, rr_rs, rr_ni, rr_nr, rr_z, rr_div, rr_rem, rr_lc, rr_mx, rr_mn, rr_ab, rr_no, gd_t, bc_t, bc_f, gd_tt, bc_tt, bc_ff, or_true, true_or, and_true, true_and, Nat.reduceAdd, p7, w1, mo_b_s q2, mo_b_s q3, mo_b_s q4], ?_⟩
    unfold dgH
    rw [mixL_app, mixL_app]; exact H4) (fun y h1 hH1 => by
    have mT1 := hH1.1.1.1
    have hQ1 := QQ hH1
    have w1 := hQ1.2.1.1
    have pl := hQ1.2.2.1
    obtain ⟨p7, t7, n7⟩ := ms7 hQ1.1
    simp (disch := omega) only [X7_mixPatch_L26, rr_p, rr_bp, rr_bb, rr_0, rr_lt, rr_blt, rr_le, rr_ble, rr_eq, rr_beq, rr_nl_n, rr_nl_s, rr_bnl_n, rr_bnl_s, rr_cond_t, rr_cond_f, rr_bcond_t, rr_bcond_f, rr_bon, rr_bcv, rr_cv, rr_g, rr_gr, rr_si, rr_sz, rr_sr, rr_al, rr_ld, rr_st, rr_rl, rr_rs, rr_ni, rr_nr, rr_z, rr_div, rr_rem, rr_lc, rr_mx, rr_mn, rr_ab, rr_no, gd_t, bc_t, bc_f, gd_tt, bc_tt, bc_ff, or_true, true_or, and_true, true_and, Nat.reduceAdd, p7, w1])
  refine ⟨h2, by simp (disch := omega) only [X7_mixPatch, rr_p, rr_bp, rr_bb, rr_0, rr_lt, rr_blt, rr_le, rr_ble, rr_eq, rr_beq, rr_nl_n, rr_nl_s, rr_bnl_n, rr_bnl_s, rr_cond_t, rr_cond_f, rr_bcond_t, rr_bcond_f, rr_bon, rr_bcv, rr_cv, rr_g, rr_gr, rr_si, rr_sz, rr_sr, rr_al, rr_ld, rr_st, rr_rl, rr_rs, rr_ni, rr_nr, rr_z, rr_div, rr_rem, rr_lc, rr_mx, rr_mn, rr_ab, rr_no, gd_t, bc_t, bc_f, gd_tt, bc_tt, bc_ff, or_true, true_or, and_true, true_and, Nat.reduceAdd, mo_b_s e1, mo_b_s e2], ?_⟩
  unfold dgP
  rw [mixL_app]; exact H2
theorem q7_digest {h : AH} {m : Nat} {s : SG} (hM : MI h m s) (ho : OKS s) : ∃ h', X7_digest m h = some (mixL 271 (dgS s), h') ∧ MI h' m s := by
  have oV := ho.2.1
  have oV1 := oV.1
  have oQ := ho.2.2.1
  have oQ1 := oQ.1
  have mT := hM.1.1
  have lD := ho.1.1
  have F0 : MF m 30 30 42 43 h (ah_sF h m 42 271) := MF.sF (by omega) (by omega)
  have H0 : mH (ah_sF h m 42 271) m s 271 := ⟨MI_fr hM F0 (by omega), by rw [hl_F_sF_s]⟩
  obtain ⟨h1, e1, H1⟩ := lp_mixM (F := X7_digest_L9 m) (n := s.1.length) (fun k => [s.1.getD k 0]) H0 (by omega) (fun j y h1 hj hH1 => by
    have mT1 := hH1.1.1.1
    obtain ⟨p1, t1, n1⟩ := ms1 hH1.1.1
    have f0 := hH1.1.2.1.1
    have a1 := hH1.1.2.1.2 j hj
    have r1 := ho.1.2 j hj
    obtain ⟨h2, q2, H2⟩ := q7_mix hH1 (s.1.getD j 0)
    exact ⟨h2, by simp (disch := omega) only [X7_digest_L9, rr_p, rr_bp, rr_bb, rr_0, rr_lt, rr_blt, rr_le, rr_ble, rr_eq, rr_beq, rr_nl_n, rr_nl_s, rr_bnl_n, rr_bnl_s, rr_cond_t, rr_cond_f, rr_bcond_t, rr_bcond_f, rr_bon, rr_bcv, rr_cv, rr_g, rr_gr, rr_si, rr_sz, rr_sr, rr_al, rr_ld, rr_st, rr_rl, rr_rs, rr_ni, rr_nr, rr_z, rr_div, rr_rem, rr_lc, rr_mx, rr_mn, rr_ab, rr_no, gd_t, bc_t, bc_f, gd_tt, bc_tt, bc_ff, or_true, true_or, and_true, true_and, Nat.reduceAdd, f0, p1, a1, mo_b_s q2], H2⟩) (fun y h1 hH1 => by
    have mT1 := hH1.1.1.1
    have f0 := hH1.1.2.1.1
    simp (disch := omega) only [X7_digest_L9, rr_p, rr_bp, rr_bb, rr_0, rr_lt, rr_blt, rr_le, rr_ble, rr_eq, rr_beq, rr_nl_n, rr_nl_s, rr_bnl_n, rr_bnl_s, rr_cond_t, rr_cond_f, rr_bcond_t, rr_bcond_f, rr_bon, rr_bcv, rr_cv, rr_g, rr_gr, rr_si, rr_sz, rr_sr, rr_al, rr_ld, rr_st, rr_rl, rr_rs, rr_ni, rr_nr, rr_z, rr_div, rr_rem, rr_lc, rr_mx, rr_mn, rr_ab, rr_no, gd_t, bc_t, bc_f, gd_tt, bc_tt, bc_ff, or_true, true_or, and_true, true_and, Nat.reduceAdd, f0])
  rw [cat_one] at H1
  obtain ⟨h2, e2, H2⟩ := lp_mixM (F := X7_digest_L36 m) (n := s.2.1.length) (fun v => dgV (vn s.2.1 v)) H1 (by omega) (fun v y h1 hv hH1 => by
    have mT1 := hH1.1.1.1
    have f2 := hH1.1.2.2.1.1
    have lv := (oV.2 v hv).1
    obtain ⟨h2, q2, H2⟩ := lp_mixM (F := X7_digest_L46 m (v : Int)) (n := 5) (fun w => [abt (vn s.2.1 v) (w : Int)]) hH1 (by omega) (fun w y h1 hw hH1 => by
      have mT1 := hH1.1.1.1
      have q1 := m_about ho hH1.1 (v := (v : Int)) (w := (w : Int)) (by omega) (by omega)
      rw [Int.toNat_natCast] at q1
      have r1 := abt_r oV hv (w : Int)
      obtain ⟨h2, q2, H2⟩ := q7_mix hH1 (abt (vn s.2.1 v) (w : Int))
      exact ⟨h2, by simp (disch := omega) only [X7_digest_L46, rr_p, rr_bp, rr_bb, rr_0, rr_lt, rr_blt, rr_le, rr_ble, rr_eq, rr_beq, rr_nl_n, rr_nl_s, rr_bnl_n, rr_bnl_s, rr_cond_t, rr_cond_f, rr_bcond_t, rr_bcond_f, rr_bon, rr_bcv, rr_cv, rr_g, rr_gr, rr_si, rr_sz, rr_sr, rr_al, rr_ld, rr_st, rr_rl, rr_rs, rr_ni, rr_nr, rr_z, rr_div, rr_rem, rr_lc, rr_mx, rr_mn, rr_ab, rr_no, gd_t, bc_t, bc_f, gd_tt, bc_tt, bc_ff, or_true, true_or, and_true, true_and, Nat.reduceAdd, mo_b_s q1, mo_b_s q2], H2⟩) (fun y h1 hH1 => by simp (disch := omega) only [X7_digest_L46, rr_p, rr_bp, rr_bb, rr_0, rr_lt, rr_blt, rr_le, rr_ble, rr_eq, rr_beq, rr_nl_n, rr_nl_s, rr_bnl_n, rr_bnl_s, rr_cond_t, rr_cond_f, rr_bcond_t, rr_bcond_f, rr_bon, rr_bcv, rr_cv, rr_g, rr_gr, rr_si, rr_sz, rr_sr, rr_al, rr_ld, rr_st, rr_rl, rr_rs, rr_ni, rr_nr, rr_z, rr_div, rr_rem, rr_lc, rr_mx, rr_mn, rr_ab, rr_no, gd_t, bc_t, bc_f, gd_tt, bc_tt, bc_ff, or_true, true_or, and_true, true_and, Nat.reduceAdd])
    obtain ⟨h3, q3, H3⟩ := lp_mixM (F := X7_digest_L70 m (v : Int)) (n := (vn s.2.1 v).1.length) (fun k => [(vn s.2.1 v).1.getD k 0]) H2 (by omega) (fun k y h1 hk1 hH1 => by
      have mT1 := hH1.1.1.1
      obtain ⟨p2, t2, n2⟩ := ms2 hH1.1.1
      obtain ⟨p3, t3, n3⟩ := ms3 hH1.1.1
      have hl := (mVer_l hH1.1.2.2.1 (v := (v : Int)) (by omega) (by omega)).1
      have ha := mVer_at hH1.1.2.2.1 (v := (v : Int)) (i := (k : Int)) (by omega) (by omega) (by omega) (by rw [Int.toNat_natCast]; omega)
      rw [Int.toNat_natCast] at hl
      rw [Int.toNat_natCast, Int.toNat_natCast] at ha
      have r1 := (oV.2 v hv).2.1 k hk1
      obtain ⟨h2, q2, H2⟩ := q7_mix hH1 ((vn s.2.1 v).1.getD k 0)
      exact ⟨h2, by simp (disch := omega) only [X7_digest_L70, rr_p, rr_bp, rr_bb, rr_0, rr_lt, rr_blt, rr_le, rr_ble, rr_eq, rr_beq, rr_nl_n, rr_nl_s, rr_bnl_n, rr_bnl_s, rr_cond_t, rr_cond_f, rr_bcond_t, rr_bcond_f, rr_bon, rr_bcv, rr_cv, rr_g, rr_gr, rr_si, rr_sz, rr_sr, rr_al, rr_ld, rr_st, rr_rl, rr_rs, rr_ni, rr_nr, rr_z, rr_div, rr_rem, rr_lc, rr_mx, rr_mn, rr_ab, rr_no, gd_t, bc_t, bc_f, gd_tt, bc_tt, bc_ff, or_true, true_or, and_true, true_and, Nat.reduceAdd, p2, p3, hl, ha, mo_b_s q2], H2⟩) (fun y h1 hH1 => by
      have mT1 := hH1.1.1.1
      obtain ⟨p2, t2, n2⟩ := ms2 hH1.1.1
      have hl := (mVer_l hH1.1.2.2.1 (v := (v : Int)) (by omega) (by omega)).1
      rw [Int.toNat_natCast] at hl
      simp (disch := omega) only [X7_digest_L70, rr_p, rr_bp, rr_bb, rr_0, rr_lt, rr_blt, rr_le, rr_ble, rr_eq, rr_beq, rr_nl_n, rr_nl_s, rr_bnl_n, rr_bnl_s, rr_cond_t, rr_cond_f, rr_bcond_t, rr_bcond_f, rr_bon, rr_bcv, rr_cv, rr_g, rr_gr, rr_si, rr_sz, rr_sr, rr_al, rr_ld, rr_st, rr_rl, rr_rs, rr_ni, rr_nr, rr_z, rr_div, rr_rem, rr_lc, rr_mx, rr_mn, rr_ab, rr_no, gd_t, bc_t, bc_f, gd_tt, bc_tt, bc_ff, or_true, true_or, and_true, true_and, Nat.reduceAdd, p2, hl])
    rw [cat_one] at H3
    refine ⟨h3, by simp (disch := omega) only [X7_digest_L36, rr_p, rr_bp, rr_bb, rr_0, rr_lt, rr_blt, rr_le, rr_ble, rr_eq, rr_beq, rr_nl_n, rr_nl_s, rr_bnl_n, rr_bnl_s, rr_cond_t, rr_cond_f, rr_bcond_t, rr_bcond_f, rr_bon, rr_bcv, rr_cv, rr_g, rr_gr, rr_si, rr_sz, rr_sr, rr_al, rr_ld, rr_st, rr_rl, rr_rs, rr_ni, rr_nr, rr_z, rr_div, rr_rem, rr_lc, rr_mx, rr_mn, rr_ab, rr_no, gd_t, bc_t, bc_f, gd_tt, bc_tt, bc_ff, or_true, true_or, and_true, true_and, Nat.reduceAdd, f2, mo_b_s q2, mo_b_s q3], ?_⟩
    unfold dgV
    rw [mixL_app]; exact H3) (fun y h1 hH1 => by
    have mT1 := hH1.1.1.1
    have f2 := hH1.1.2.2.1.1
    simp (disch := omega) only [X7_digest_L36, rr_p, rr_bp, rr_bb, rr_0, rr_lt, rr_blt, rr_le, rr_ble, rr_eq, rr_beq, rr_nl_n, rr_nl_s, rr_bnl_n, rr_bnl_s, rr_cond_t, rr_cond_f, rr_bcond_t, rr_bcond_f, rr_bon, rr_bcv, rr_cv, rr_g, rr_gr, rr_si, rr_sz, rr_sr, rr_al, rr_ld, rr_st, rr_rl, rr_rs, rr_ni, rr_nr, rr_z, rr_div, rr_rem, rr_lc, rr_mx, rr_mn, rr_ab, rr_no, gd_t, bc_t, bc_f, gd_tt, bc_tt, bc_ff, or_true, true_or, and_true, true_and, Nat.reduceAdd, f2])
  obtain ⟨h3, e3, H3⟩ := lp_mixM (F := X7_digest_L110 m) (n := s.2.2.1.length) (fun p => dgP (pt s.2.2.1 p)) H2 (by omega) (fun p y h1 hp hH1 => by
    have mT1 := hH1.1.1.1
    have f8 := hH1.1.2.2.2.1.1
    obtain ⟨h2, q2, H2⟩ := q7_mixPatch ho hp hH1
    exact ⟨h2, by simp (disch := omega) only [X7_digest_L110, rr_p, rr_bp, rr_bb, rr_0, rr_lt, rr_blt, rr_le, rr_ble, rr_eq, rr_beq, rr_nl_n, rr_nl_s, rr_bnl_n, rr_bnl_s, rr_cond_t, rr_cond_f, rr_bcond_t, rr_bcond_f, rr_bon, rr_bcv, rr_cv, rr_g, rr_gr, rr_si, rr_sz, rr_sr, rr_al, rr_ld, rr_st, rr_rl, rr_rs, rr_ni, rr_nr, rr_z, rr_div, rr_rem, rr_lc, rr_mx, rr_mn, rr_ab, rr_no, gd_t, bc_t, bc_f, gd_tt, bc_tt, bc_ff, or_true, true_or, and_true, true_and, Nat.reduceAdd, f8, mo_b_s q2], H2⟩) (fun y h1 hH1 => by
    have mT1 := hH1.1.1.1
    have f8 := hH1.1.2.2.2.1.1
    simp (disch := omega) only [X7_digest_L110, rr_p, rr_bp, rr_bb, rr_0, rr_lt, rr_blt, rr_le, rr_ble, rr_eq, rr_beq, rr_nl_n, rr_nl_s, rr_bnl_n, rr_bnl_s, rr_cond_t, rr_cond_f, rr_bcond_t, rr_bcond_f, rr_bon, rr_bcv, rr_cv, rr_g, rr_gr, rr_si, rr_sz, rr_sr, rr_al, rr_ld, rr_st, rr_rl, rr_rs, rr_ni, rr_nr, rr_z, rr_div, rr_rem, rr_lc, rr_mx, rr_mn, rr_ab, rr_no, gd_t, bc_t, bc_f, gd_tt, bc_tt, bc_ff, or_true, true_or, and_true, true_and, Nat.reduceAdd, f8])
  obtain ⟨h4, e4, H4⟩ := lp_mixM (F := X7_digest_L131 m) (n := s.2.1.length) (fun u => dgR s.2.1 u) H3 (by omega) (fun u y h1 hu hH1 => by
    have mT1 := hH1.1.1.1
    have f2 := hH1.1.2.2.1.1
    obtain ⟨h2, q2, H2⟩ := lp_mixM (F := X7_digest_L141 m (u : Int)) (n := s.2.1.length) (fun v => if u = v then [] else [rm (dW (vn s.2.1 u).1 (vn s.2.1 v).1)]) hH1 (by omega) (fun v y h1 hv hH1 => by
      have mT1 := hH1.1.1.1
      have f2 := hH1.1.2.2.1.1
      by_cases c : u = v
      · rw [if_pos c]
        exact ⟨h1, by simp (disch := omega) only [X7_digest_L141, rr_p, rr_bp, rr_bb, rr_0, rr_lt, rr_blt, rr_le, rr_ble, rr_eq, rr_beq, rr_nl_n, rr_nl_s, rr_bnl_n, rr_bnl_s, rr_cond_t, rr_cond_f, rr_bcond_t, rr_bcond_f, rr_bon, rr_bcv, rr_cv, rr_g, rr_gr, rr_si, rr_sz, rr_sr, rr_al, rr_ld, rr_st, rr_rl, rr_rs, rr_ni, rr_nr, rr_z, rr_div, rr_rem, rr_lc, rr_mx, rr_mn, rr_ab, rr_no, gd_t, bc_t, bc_f, gd_tt, bc_tt, bc_ff, or_true, true_or, and_true, true_and, Nat.reduceAdd, f2], hH1⟩
      · rw [if_neg c]
        obtain ⟨l1, l2, -⟩ := oV.2 u hu
        obtain ⟨k1, k2, -⟩ := oV.2 v hv
        have hR := MI_rows hH1.1 ho (u := (u : Int)) (v := (v : Int)) (by omega) (by omega)
        rw [Int.toNat_natCast, Int.toNat_natCast] at hR
        obtain ⟨h3, e3, w3, -, -, f3⟩ := q7_layDifference hR (wL_pL l2) (wL_pL k2) l1 k1
        have hM3 := MI_fr hH1.1 f3 (by omega)
        have mT3 := hM3.1.1
        have H3 : mH h3 m s y := ⟨hM3, by rw [f3.2.2.2.2.2 42 (by omega)]; exact hH1.2⟩
        obtain ⟨⟨z1, z2, z3⟩, -⟩ := id w3
        have e4 : X7_workRoom m h3 = some (rm (dW (vn s.2.1 u).1 (vn s.2.1 v).1), h3) := by
          simp (disch := omega) only [X7_workRoom, rr_p, rr_bp, rr_bb, rr_0, rr_lt, rr_blt, rr_le, rr_ble, rr_eq, rr_beq, rr_nl_n, rr_nl_s, rr_bnl_n, rr_bnl_s, rr_cond_t, rr_cond_f, rr_bcond_t, rr_bcond_f, rr_bon, rr_bcv, rr_cv, rr_g, rr_gr, rr_si, rr_sz, rr_sr, rr_al, rr_ld, rr_st, rr_rl, rr_rs, rr_ni, rr_nr, rr_z, rr_div, rr_rem, rr_lc, rr_mx, rr_mn, rr_ab, rr_no, gd_t, bc_t, bc_f, gd_tt, bc_tt, bc_ff, or_true, true_or, and_true, true_and, Nat.reduceAdd, z1, z3, rm]
        have r1 := rm_r l2 k2 l1 k1
        obtain ⟨h5, q5, H5⟩ := q7_mix H3 (rm (dW (vn s.2.1 u).1 (vn s.2.1 v).1))
        exact ⟨h5, by simp (disch := omega) only [X7_digest_L141, rr_p, rr_bp, rr_bb, rr_0, rr_lt, rr_blt, rr_le, rr_ble, rr_eq, rr_beq, rr_nl_n, rr_nl_s, rr_bnl_n, rr_bnl_s, rr_cond_t, rr_cond_f, rr_bcond_t, rr_bcond_f, rr_bon, rr_bcv, rr_cv, rr_g, rr_gr, rr_si, rr_sz, rr_sr, rr_al, rr_ld, rr_st, rr_rl, rr_rs, rr_ni, rr_nr, rr_z, rr_div, rr_rem, rr_lc, rr_mx, rr_mn, rr_ab, rr_no, gd_t, bc_t, bc_f, gd_tt, bc_tt, bc_ff, or_true, true_or, and_true, true_and, Nat.reduceAdd, f2, mo_b_s e3, mo_b_s e4, mo_b_s q5], H5⟩) (fun y h1 hH1 => by
      have mT1 := hH1.1.1.1
      have f2 := hH1.1.2.2.1.1
      simp (disch := omega) only [X7_digest_L141, rr_p, rr_bp, rr_bb, rr_0, rr_lt, rr_blt, rr_le, rr_ble, rr_eq, rr_beq, rr_nl_n, rr_nl_s, rr_bnl_n, rr_bnl_s, rr_cond_t, rr_cond_f, rr_bcond_t, rr_bcond_f, rr_bon, rr_bcv, rr_cv, rr_g, rr_gr, rr_si, rr_sz, rr_sr, rr_al, rr_ld, rr_st, rr_rl, rr_rs, rr_ni, rr_nr, rr_z, rr_div, rr_rem, rr_lc, rr_mx, rr_mn, rr_ab, rr_no, gd_t, bc_t, bc_f, gd_tt, bc_tt, bc_ff, or_true, true_or, and_true, true_and, Nat.reduceAdd, f2])
    exact ⟨h2, by simp (disch := omega) only [X7_digest_L131, rr_p, rr_bp, rr_bb, rr_0, rr_lt, rr_blt, rr_le, rr_ble, rr_eq, rr_beq, rr_nl_n, rr_nl_s, rr_bnl_n, rr_bnl_s, rr_cond_t, rr_cond_f, rr_bcond_t, rr_bcond_f, rr_bon, rr_bcv, rr_cv, rr_g, rr_gr, rr_si, rr_sz, rr_sr, rr_al, rr_ld, rr_st, rr_rl, rr_rs, rr_ni, rr_nr, rr_z, rr_div, rr_rem, rr_lc, rr_mx, rr_mn, rr_ab, rr_no, gd_t, bc_t, bc_f, gd_tt, bc_tt, bc_ff, or_true, true_or, and_true, true_and, Nat.reduceAdd, f2, mo_b_s q2], H2⟩) (fun y h1 hH1 => by
    have mT1 := hH1.1.1.1
    have f2 := hH1.1.2.2.1.1
    simp (disch := omega) only [X7_digest_L131, rr_p, rr_bp, rr_bb, rr_0, rr_lt, rr_blt, rr_le, rr_ble, rr_eq, rr_beq, rr_nl_n, rr_nl_s, rr_bnl_n, rr_bnl_s, rr_cond_t, rr_cond_f, rr_bcond_t, rr_bcond_f, rr_bon, rr_bcv, rr_cv, rr_g, rr_gr, rr_si, rr_sz, rr_sr, rr_al, rr_ld, rr_st, rr_rl, rr_rs, rr_ni, rr_nr, rr_z, rr_div, rr_rem, rr_lc, rr_mx, rr_mn, rr_ab, rr_no, gd_t, bc_t, bc_f, gd_tt, bc_tt, bc_ff, or_true, true_or, and_true, true_and, Nat.reduceAdd, f2])
  obtain ⟨h5, e5, H5⟩ := lp_mixM (F := X7_digest_L183 m) (n := 4) (fun w => [cnt s (w : Int)]) H4 (by omega) (fun w y h1 hw hH1 => by
    have mT1 := hH1.1.1.1
    have q1 := m_count hH1.1 (w := (w : Int)) (by unfold am_r; omega)
    have r1 := cnt_r ho (w : Int)
    obtain ⟨h2, q2, H2⟩ := q7_mix hH1 (cnt s (w : Int))
    exact ⟨h2, by simp (disch := omega) only [X7_digest_L183, rr_p, rr_bp, rr_bb, rr_0, rr_lt, rr_blt, rr_le, rr_ble, rr_eq, rr_beq, rr_nl_n, rr_nl_s, rr_bnl_n, rr_bnl_s, rr_cond_t, rr_cond_f, rr_bcond_t, rr_bcond_f, rr_bon, rr_bcv, rr_cv, rr_g, rr_gr, rr_si, rr_sz, rr_sr, rr_al, rr_ld, rr_st, rr_rl, rr_rs, rr_ni, rr_nr, rr_z, rr_div, rr_rem, rr_lc, rr_mx, rr_mn, rr_ab, rr_no, gd_t, bc_t, bc_f, gd_tt, bc_tt, bc_ff, or_true, true_or, and_true, true_and, Nat.reduceAdd, mo_b_s q1, mo_b_s q2], H2⟩) (fun y h1 hH1 => by simp (disch := omega) only [X7_digest_L183, rr_p, rr_bp, rr_bb, rr_0, rr_lt, rr_blt, rr_le, rr_ble, rr_eq, rr_beq, rr_nl_n, rr_nl_s, rr_bnl_n, rr_bnl_s, rr_cond_t, rr_cond_f, rr_bcond_t, rr_bcond_f, rr_bon, rr_bcv, rr_cv, rr_g, rr_gr, rr_si, rr_sz, rr_sr, rr_al, rr_ld, rr_st, rr_rl, rr_rs, rr_ni, rr_nr, rr_z, rr_div, rr_rem, rr_lc, rr_mx, rr_mn, rr_ab, rr_no, gd_t, bc_t, bc_f, gd_tt, bc_tt, bc_ff, or_true, true_or, and_true, true_and, Nat.reduceAdd])
  have mT5 := H5.1.1.1
  have f42 := H5.2
  refine ⟨h5, ?_, H5.1⟩
  unfold dgS
  rw [mixL_app, mixL_app, mixL_app, mixL_app, ← f42]
  simp (disch := omega) only [X7_digest, rr_p, rr_bp, rr_bb, rr_0, rr_lt, rr_blt, rr_le, rr_ble, rr_eq, rr_beq, rr_nl_n, rr_nl_s, rr_bnl_n, rr_bnl_s, rr_cond_t, rr_cond_f, rr_bcond_t, rr_bcond_f, rr_bon, rr_bcv, rr_cv, rr_g, rr_gr, rr_si, rr_sz, rr_sr, rr_al, rr_ld, rr_st, rr_rl, rr_rs, rr_ni, rr_nr, rr_z, rr_div, rr_rem, rr_lc, rr_mx, rr_mn, rr_ab, rr_no, gd_t, bc_t, bc_f, gd_tt, bc_tt, bc_ff, or_true, true_or, and_true, true_and, Nat.reduceAdd, mo_b_s e1, mo_b_s e2, mo_b_s e3, mo_b_s e4, mo_b_s e5]
theorem c_digest (s : SG) (ho : OKS s) : CJ (fun x => X6_digest x) (fun m => X7_digest m) s :=
  ⟨mixL 271 (dgS s), s, ho, fun x h hK => ⟨h, q6_digest hK ho, hK⟩, fun m h hM => q7_digest hM ho⟩
