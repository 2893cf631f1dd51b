/-- how many lines two rows can keep -/
def ml : List Int → List Int → Nat
  | [], _ => 0
  | _ :: _, [] => 0
  | a :: x, b :: y => if a = b then ml x y + 1 else max (ml x (b :: y)) (ml (a :: x) y)
termination_by x y => x.length + y.length
/-- to which line of y each line of x is kept; -1: it goes; j: y's first line's number -/
def trc : List Int → List Int → Int → List Int
  | [], _, _ => []
  | _ :: x, [], j => -1 :: trc x [] j
  | a :: x, b :: y, j => if a = b then j :: trc x y (j + 1) else if ml x (b :: y) = ml (a :: x) (b :: y) then -1 :: trc x (b :: y) j else trc (a :: x) y (j + 1)
termination_by x y => x.length + y.length
theorem ml_nil (y : List Int) : ml [] y = 0 := by rw [ml]
theorem ml_nil2 (x : List Int) : ml x [] = 0 := by cases x <;> rw [ml]
theorem drop_c {x : List Int} {i : Nat} (h : i < x.length) : x.drop i = x.getD i 0 :: x.drop (i + 1) := by
  rw [List.getD_eq_getElem?_getD, List.getElem?_eq_getElem h]; exact List.drop_eq_getElem_cons h
theorem ml_le (x y : List Int) : ml x y ≤ x.length := by
  induction hn : x.length + y.length using Nat.strongRecOn generalizing x y with
  | _ n ih =>
    match x, y with
    | [], y => rw [ml_nil]; omega
    | a :: x, [] => rw [ml_nil2]; omega
    | a :: x, b :: y =>
      simp only [List.length_cons] at hn ⊢
      have h1 := ih (x.length + y.length) (by omega) x y rfl
      have h2 := ih (x.length + (b :: y).length) (by simp; omega) x (b :: y) rfl
      have h3 := ih ((a :: x).length + y.length) (by simp; omega) (a :: x) y rfl
      simp only [List.length_cons] at h3
      rw [ml]
      split <;> omega
theorem trc_len (x y : List Int) (j : Int) : (trc x y j).length = x.length := by
  induction hn : x.length + y.length using Nat.strongRecOn generalizing x y j with
  | _ n ih =>
    match x, y with
    | [], y => rw [trc]
    | a :: x, [] =>
      simp only [List.length_cons, List.length_nil] at hn
      rw [trc, List.length_cons, ih (x.length + ([] : List Int).length) (by simp; omega) x [] j rfl]; rfl
    | a :: x, b :: y =>
      simp only [List.length_cons] at hn
      rw [trc]
      split
      · rw [List.length_cons, ih (x.length + y.length) (by omega) x y _ rfl]; rfl
      · split
        · rw [List.length_cons, ih (x.length + (b :: y).length) (by simp; omega) x (b :: y) _ rfl]; rfl
        · rw [ih ((a :: x).length + y.length) (by simp; omega) (a :: x) y _ rfl]
/-- the next line of x: it goes, or is kept -/
theorem trc_step {xs ys : List Int} {i : Nat} (hi : i < xs.length) : ∀ (d j : Nat), j + d = ys.length → ∃ j2 : Nat, j ≤ j2 ∧ j2 ≤ ys.length ∧ (trc (xs.drop i) (ys.drop j) (j : Int) = -1 :: trc (xs.drop (i + 1)) (ys.drop j2) (j2 : Int) ∨ (j2 < ys.length ∧ xs.getD i 0 = ys.getD j2 0 ∧ trc (xs.drop i) (ys.drop j) (j : Int) = (j2 : Int) :: trc (xs.drop (i + 1)) (ys.drop (j2 + 1)) ((j2 + 1 : Nat) : Int))) := by
  intro d
  induction d with
  | zero =>
    intro j hj
    refine ⟨j, Nat.le_refl _, by omega, Or.inl ?_⟩
    rw [drop_c hi, List.drop_eq_nil_of_le (show ys.length ≤ j by omega), trc]
  | succ d ih =>
    intro j hj
    have hjl : j < ys.length := by omega
    rw [drop_c hi, drop_c hjl, trc]
    split
    · rename_i e
      exact ⟨j, Nat.le_refl _, by omega, Or.inr ⟨hjl, e, rfl⟩⟩
    · split
      · refine ⟨j, Nat.le_refl _, by omega, Or.inl ?_⟩
        rw [drop_c hjl]
      · obtain ⟨j2, h1, h2, h3⟩ := ih (j + 1) (by omega)
        rw [drop_c hi] at h3
        exact ⟨j2, by omega, h2, h3⟩
def kDs (h : AH) (d : Nat) : Prop := ah_T h d = 11 ∧ ah_T h (d + 1) = 1 ∧ ah_T h (d + 2) = 1 ∧ ah_P h d 0 = some (d + 1) ∧ ah_P h d 1 = some (d + 2) ∧ ah_N h (d + 1) = 225 ∧ ah_N h (d + 2) = 14
theorem kDs_fr {h h' : AH} {d lo hi : Nat} (hD : kDs h d) (f : FRM h h' lo hi) : kDs h' d := by
  obtain ⟨e1, e2, e3, e4, e5, e6, e7⟩ := f
  unfold kDs at hD ⊢; rw [e1, e2, e3]; exact hD
theorem q1_mostFrom {h : AH} {d : Nat} (hD : kDs h d) {i j : Int} (h0 : 0 ≤ i ∧ i ≤ 14) (h1 : 0 ≤ j ∧ j ≤ 14) : X1_mostFrom d i j h = some (ah_I h (d + 1) (i * 15 + j), h) := by
  obtain ⟨t0, t1, t2, p0, p1, n1, n2⟩ := hD
  simp (disch := omega) only [X1_mostFrom, rr_p, rr_bp, rr_bb, rr_0, rr_lt, rr_blt, rr_le, rr_ble, rr_eq, rr_beq, rr_nl_n, rr_nl_s, rr_bnl_n, rr_bnl_s, rr_cond_t, rr_cond_f, rr_bcond_t, rr_bcond_f, rr_bon, rr_bcv, rr_cv, rr_g, rr_gr, rr_si, rr_sz, rr_sr, rr_al, rr_ld, rr_st, rr_rl, rr_rs, rr_ni, rr_nr, rr_z, rr_div, rr_rem, rr_lc, rr_mx, rr_mn, rr_ab, rr_no, gd_t, bc_t, bc_f, gd_tt, bc_tt, bc_ff, or_true, true_or, and_true, true_and, Nat.reduceAdd, p0, p1]
theorem q1_setMost {h : AH} {d : Nat} (hD : kDs h d) {i j v : Int} (h0 : 0 ≤ i ∧ i ≤ 14) (h1 : 0 ≤ j ∧ j ≤ 14) : X1_setMost d i j v h = some ((), ah_sI h (d + 1) (i * 15 + j) v) := by
  obtain ⟨t0, t1, t2, p0, p1, n1, n2⟩ := hD
  simp (disch := omega) only [X1_setMost, rr_p, rr_bp, rr_bb, rr_0, rr_lt, rr_blt, rr_le, rr_ble, rr_eq, rr_beq, rr_nl_n, rr_nl_s, rr_bnl_n, rr_bnl_s, rr_cond_t, rr_cond_f, rr_bcond_t, rr_bcond_f, rr_bon, rr_bcv, rr_cv, rr_g, rr_gr, rr_si, rr_sz, rr_sr, rr_al, rr_ld, rr_st, rr_rl, rr_rs, rr_ni, rr_nr, rr_z, rr_div, rr_rem, rr_lc, rr_mx, rr_mn, rr_ab, rr_no, gd_t, bc_t, bc_f, gd_tt, bc_tt, bc_ff, or_true, true_or, and_true, true_and, Nat.reduceAdd, p0, p1]
theorem q1_setMate {h : AH} {d : Nat} (hD : kDs h d) {i v : Int} (h0 : 0 ≤ i ∧ i ≤ 13) : X1_setMate d i v h = some ((), ah_sI h (d + 2) i v) := by
  obtain ⟨t0, t1, t2, p0, p1, n1, n2⟩ := hD
  simp (disch := omega) only [X1_setMate, rr_p, rr_bp, rr_bb, rr_0, rr_lt, rr_blt, rr_le, rr_ble, rr_eq, rr_beq, rr_nl_n, rr_nl_s, rr_bnl_n, rr_bnl_s, rr_cond_t, rr_cond_f, rr_bcond_t, rr_bcond_f, rr_bon, rr_bcv, rr_cv, rr_g, rr_gr, rr_si, rr_sz, rr_sr, rr_al, rr_ld, rr_st, rr_rl, rr_rs, rr_ni, rr_nr, rr_z, rr_div, rr_rem, rr_lc, rr_mx, rr_mn, rr_ab, rr_no, gd_t, bc_t, bc_f, gd_tt, bc_tt, bc_ff, or_true, true_or, and_true, true_and, Nat.reduceAdd, p0, p1]
theorem q1_mate {h : AH} {d : Nat} (hD : kDs h d) {i : Int} (h0 : 0 ≤ i ∧ i ≤ 13) : X1_mate d i h = some (ah_I h (d + 2) i, h) := by
  obtain ⟨t0, t1, t2, p0, p1, n1, n2⟩ := hD
  simp (disch := omega) only [X1_mate, rr_p, rr_bp, rr_bb, rr_0, rr_lt, rr_blt, rr_le, rr_ble, rr_eq, rr_beq, rr_nl_n, rr_nl_s, rr_bnl_n, rr_bnl_s, rr_cond_t, rr_cond_f, rr_bcond_t, rr_bcond_f, rr_bon, rr_bcv, rr_cv, rr_g, rr_gr, rr_si, rr_sz, rr_sr, rr_al, rr_ld, rr_st, rr_rl, rr_rs, rr_ni, rr_nr, rr_z, rr_div, rr_rem, rr_lc, rr_mx, rr_mn, rr_ab, rr_no, gd_t, bc_t, bc_f, gd_tt, bc_tt, bc_ff, or_true, true_or, and_true, true_and, Nat.reduceAdd, p0, p1]
/-- the table from row i on, in row i from column j on -/
def tbF (h : AH) (d : Nat) (xs ys : List Int) (i j : Int) : Prop := ∀ i' j' : Nat, i' ≤ xs.length → j' ≤ ys.length → (i < (i' : Int) ∨ ((i' : Int) = i ∧ j ≤ (j' : Int))) → ah_I h (d + 1) ((i' : Int) * 15 + (j' : Int)) = (ml (xs.drop i') (ys.drop j') : Int)
theorem q1_reckonMost {h : AH} {d bx by_ : Nat} {xs ys : List Int} (hD : kDs h d) (hX : kR h bx xs) (hY : kR h by_ ys) (hx : pL xs) (hy : pL ys) (lx : xs.length ≤ 14) (ly : ys.length ≤ 14) {i j : Nat} (hi : i ≤ xs.length) (hj : j ≤ ys.length) (hT : tbF h d xs ys (i : Int) ((j : Int) + 1)) : X1_reckonMost d (some bx) (i : Int) (some by_) (j : Int) h = some ((ml (xs.drop i) (ys.drop j) : Int), h) := by
  have td := hD.1
  have tx := hX.1
  have ty := hY.1
  have e1 := q4_size hX
  have e2 := q4_size hY
  by_cases hi2 : i < xs.length
  · by_cases hj2 : j < ys.length
    · have e3 := q4_at hX (i := (i : Int)) (by omega)
      have e4 := q4_at hY (i := (j : Int)) (by omega)
      rw [if_pos (by omega), Int.toNat_natCast] at e3 e4
      have r1 := hx i
      have r2 := hy j
      have l1 := ml_le (xs.drop (i + 1)) (ys.drop (j + 1))
      have l2 := ml_le (xs.drop (i + 1)) (ys.drop j)
      have l3 := ml_le (xs.drop i) (ys.drop (j + 1))
      rw [List.length_drop] at l1 l2 l3
      have g1 := q1_mostFrom hD (i := (i : Int) + 1) (j := (j : Int) + 1) (by omega) (by omega)
      have g2 := q1_mostFrom hD (i := (i : Int) + 1) (j := (j : Int)) (by omega) (by omega)
      have g3 := q1_mostFrom hD (i := (i : Int)) (j := (j : Int) + 1) (by omega) (by omega)
      have v1 := hT (i + 1) (j + 1) (by omega) (by omega) (Or.inl (by omega))
      have v2 := hT (i + 1) j (by omega) (by omega) (Or.inl (by omega))
      have v3 := hT i (j + 1) (by omega) (by omega) (Or.inr ⟨rfl, by omega⟩)
      rw [show ((i + 1 : Nat) : Int) = (i : Int) + 1 by omega] at v1 v2
      rw [show ((j + 1 : Nat) : Int) = (j : Int) + 1 by omega] at v1 v3
      rw [v1] at g1
      rw [v2] at g2
      rw [v3] at g3
      have em : ml (xs.drop i) (ys.drop j) = if xs.getD i 0 = ys.getD j 0 then ml (xs.drop (i + 1)) (ys.drop (j + 1)) + 1 else max (ml (xs.drop (i + 1)) (ys.drop j)) (ml (xs.drop i) (ys.drop (j + 1))) := by
        conv => lhs; rw [drop_c hi2, drop_c hj2, ml]
        rw [← drop_c hi2, ← drop_c hj2]
      by_cases hc : xs.getD i 0 = ys.getD j 0
      · rw [em, if_pos hc]
        simp (disch := omega) only [X1_reckonMost, rr_p, rr_bp, rr_bb, rr_0, rr_lt, rr_blt, rr_le, rr_ble, rr_eq, rr_beq, rr_nl_n, rr_nl_s, rr_bnl_n, rr_bnl_s, rr_cond_t, rr_cond_f, rr_bcond_t, rr_bcond_f, rr_bon, rr_bcv, rr_cv, rr_g, rr_gr, rr_si, rr_sz, rr_sr, rr_al, rr_ld, rr_st, rr_rl, rr_rs, rr_ni, rr_nr, rr_z, rr_div, rr_rem, rr_lc, rr_mx, rr_mn, rr_ab, rr_no, gd_t, bc_t, bc_f, gd_tt, bc_tt, bc_ff, or_true, true_or, and_true, true_and, Nat.reduceAdd, mo_b_s e1, mo_b_s e2, mo_b_s e3, mo_b_s e4, mo_b_s g1, Int.natCast_add]
        rfl
      · rw [em, if_neg hc]
        simp (disch := omega) only [X1_reckonMost, rr_p, rr_bp, rr_bb, rr_0, rr_lt, rr_blt, rr_le, rr_ble, rr_eq, rr_beq, rr_nl_n, rr_nl_s, rr_bnl_n, rr_bnl_s, rr_cond_t, rr_cond_f, rr_bcond_t, rr_bcond_f, rr_bon, rr_bcv, rr_cv, rr_g, rr_gr, rr_si, rr_sz, rr_sr, rr_al, rr_ld, rr_st, rr_rl, rr_rs, rr_ni, rr_nr, rr_z, rr_div, rr_rem, rr_lc, rr_mx, rr_mn, rr_ab, rr_no, gd_t, bc_t, bc_f, gd_tt, bc_tt, bc_ff, or_true, true_or, and_true, true_and, Nat.reduceAdd, mo_b_s e1, mo_b_s e2, mo_b_s e3, mo_b_s e4, mo_b_s g2, mo_b_s g3]
        rw [show max ((ml (xs.drop (i + 1)) (ys.drop j) : Nat) : Int) ((ml (xs.drop i) (ys.drop (j + 1)) : Nat) : Int) = ((max (ml (xs.drop (i + 1)) (ys.drop j)) (ml (xs.drop i) (ys.drop (j + 1))) : Nat) : Int) by omega]
    · rw [List.drop_eq_nil_of_le (show ys.length ≤ j by omega), ml_nil2]
      simp (disch := omega) only [X1_reckonMost, rr_p, rr_bp, rr_bb, rr_0, rr_lt, rr_blt, rr_le, rr_ble, rr_eq, rr_beq, rr_nl_n, rr_nl_s, rr_bnl_n, rr_bnl_s, rr_cond_t, rr_cond_f, rr_bcond_t, rr_bcond_f, rr_bon, rr_bcv, rr_cv, rr_g, rr_gr, rr_si, rr_sz, rr_sr, rr_al, rr_ld, rr_st, rr_rl, rr_rs, rr_ni, rr_nr, rr_z, rr_div, rr_rem, rr_lc, rr_mx, rr_mn, rr_ab, rr_no, gd_t, bc_t, bc_f, gd_tt, bc_tt, bc_ff, or_true, true_or, and_true, true_and, Nat.reduceAdd, mo_b_s e1, mo_b_s e2]
      rfl
  · rw [List.drop_eq_nil_of_le (show xs.length ≤ i by omega), ml_nil]
    simp (disch := omega) only [X1_reckonMost, rr_p, rr_bp, rr_bb, rr_0, rr_lt, rr_blt, rr_le, rr_ble, rr_eq, rr_beq, rr_nl_n, rr_nl_s, rr_bnl_n, rr_bnl_s, rr_cond_t, rr_cond_f, rr_bcond_t, rr_bcond_f, rr_bon, rr_bcv, rr_cv, rr_g, rr_gr, rr_si, rr_sz, rr_sr, rr_al, rr_ld, rr_st, rr_rl, rr_rs, rr_ni, rr_nr, rr_z, rr_div, rr_rem, rr_lc, rr_mx, rr_mn, rr_ab, rr_no, gd_t, bc_t, bc_f, gd_tt, bc_tt, bc_ff, or_true, true_or, and_true, true_and, Nat.reduceAdd, mo_b_s e1, mo_b_s e2]
    rfl
theorem q1_find_tab {h : AH} {d bx by_ : Nat} {xs ys : List Int} (hD : kDs h d) (hX : kR h bx xs) (hY : kR h by_ ys) (hdx : d + 3 ≤ bx ∨ bx + 2 ≤ d) (hdy : d + 3 ≤ by_ ∨ by_ + 2 ≤ d) (hx : pL xs) (hy : pL ys) (lx : xs.length ≤ 14) (ly : ys.length ≤ 14) : ∃ h', mo_lp mo_N (X1_find_L5 d (some bx) (some by_)) (xs.length : Int) h = some ((), h') ∧ tbF h' d xs ys 0 0 ∧ FRM h h' d (d + 3) := by
  have hL := lp_inv (F := X1_find_L5 d (some bx) (some by_)) (fun i h' => -1 ≤ i ∧ i ≤ xs.length ∧ tbF h' d xs ys (i + 1) 0 ∧ FRM h h' d (d + 3)) (fun i => (i + 1).toNat) (fun _ h' => tbF h' d xs ys 0 0 ∧ FRM h h' d (d + 3)) ?_ mo_N (xs.length : Int) h ⟨by omega, by omega, fun i' j' a1 a2 a3 => by omega, FRM.rf⟩ (by rw [mo_N_v]; omega)
  · obtain ⟨_, h', e, q⟩ := hL
    exact ⟨h', e, q⟩
  · intro i h' ⟨i1, i2, iT, iF⟩
    by_cases hi : i < 0
    · right
      refine ⟨(), h', by simp (disch := omega) only [X1_find_L5, rr_p, rr_bp, rr_bb, rr_0, rr_lt, rr_blt, rr_le, rr_ble, rr_eq, rr_beq, rr_nl_n, rr_nl_s, rr_bnl_n, rr_bnl_s, rr_cond_t, rr_cond_f, rr_bcond_t, rr_bcond_f, rr_bon, rr_bcv, rr_cv, rr_g, rr_gr, rr_si, rr_sz, rr_sr, rr_al, rr_ld, rr_st, rr_rl, rr_rs, rr_ni, rr_nr, rr_z, rr_div, rr_rem, rr_lc, rr_mx, rr_mn, rr_ab, rr_no, gd_t, bc_t, bc_f, gd_tt, bc_tt, bc_ff, or_true, true_or, and_true, true_and, Nat.reduceAdd], ?_, iF⟩
      rw [show i + 1 = 0 by omega] at iT
      exact iT
    · left
      have hY' := kR_fr hY iF (by omega)
      have ty := hY'.1
      have es := q4_size hY'
      have hL2 := lp_inv (F := X1_find_L15 d (some bx) (some by_) i) (fun j h'' => -1 ≤ j ∧ j ≤ ys.length ∧ tbF h'' d xs ys i (j + 1) ∧ FRM h h'' d (d + 3)) (fun j => (j + 1).toNat) (fun _ h'' => tbF h'' d xs ys i 0 ∧ FRM h h'' d (d + 3)) ?_ mo_N (ys.length : Int) h' ⟨by omega, by omega, fun i' j' a1 a2 a3 => iT i' j' a1 a2 (by omega), iF⟩ (by rw [mo_N_v]; omega)
      · obtain ⟨_, h2, e2, q2, f2⟩ := hL2
        refine ⟨i + -1, h2, by simp (disch := omega) only [X1_find_L5, rr_p, rr_bp, rr_bb, rr_0, rr_lt, rr_blt, rr_le, rr_ble, rr_eq, rr_beq, rr_nl_n, rr_nl_s, rr_bnl_n, rr_bnl_s, rr_cond_t, rr_cond_f, rr_bcond_t, rr_bcond_f, rr_bon, rr_bcv, rr_cv, rr_g, rr_gr, rr_si, rr_sz, rr_sr, rr_al, rr_ld, rr_st, rr_rl, rr_rs, rr_ni, rr_nr, rr_z, rr_div, rr_rem, rr_lc, rr_mx, rr_mn, rr_ab, rr_no, gd_t, bc_t, bc_f, gd_tt, bc_tt, bc_ff, or_true, true_or, and_true, true_and, Nat.reduceAdd, mo_b_s es, mo_b_s e2], ⟨by omega, by omega, ?_, f2⟩, by omega⟩
        rw [show i + -1 + 1 = i by omega]; exact q2
      · intro j h'' ⟨j1, j2, jT, jF⟩
        by_cases hj : j < 0
        · right
          refine ⟨(), h'', by simp (disch := omega) only [X1_find_L15, rr_p, rr_bp, rr_bb, rr_0, rr_lt, rr_blt, rr_le, rr_ble, rr_eq, rr_beq, rr_nl_n, rr_nl_s, rr_bnl_n, rr_bnl_s, rr_cond_t, rr_cond_f, rr_bcond_t, rr_bcond_f, rr_bon, rr_bcv, rr_cv, rr_g, rr_gr, rr_si, rr_sz, rr_sr, rr_al, rr_ld, rr_st, rr_rl, rr_rs, rr_ni, rr_nr, rr_z, rr_div, rr_rem, rr_lc, rr_mx, rr_mn, rr_ab, rr_no, gd_t, bc_t, bc_f, gd_tt, bc_tt, bc_ff, or_true, true_or, and_true, true_and, Nat.reduceAdd], ?_, jF⟩
          rw [show j + 1 = 0 by omega] at jT
          exact jT
        · left
          have hD2 := kDs_fr hD jF
          have hX2 := kR_fr hX jF (by omega)
          have hY2 := kR_fr hY jF (by omega)
          have td := hD2.1
          obtain ⟨i0, ei⟩ : ∃ i0 : Nat, i = (i0 : Int) := ⟨i.toNat, by omega⟩
          obtain ⟨j0, ej⟩ : ∃ j0 : Nat, j = (j0 : Int) := ⟨j.toNat, by omega⟩
          subst ei; subst ej
          have er := q1_reckonMost hD2 hX2 hY2 hx hy lx ly (i := i0) (j := j0) (by omega) (by omega) jT
          have ew := q1_setMost hD2 (i := (i0 : Int)) (j := (j0 : Int)) (v := (ml (xs.drop i0) (ys.drop j0) : Int)) (by omega) (by omega)
          refine ⟨(j0 : Int) + -1, ah_sI h'' (d + 1) ((i0 : Int) * 15 + (j0 : Int)) (ml (xs.drop i0) (ys.drop j0) : Int), by simp (disch := omega) only [X1_find_L15, rr_p, rr_bp, rr_bb, rr_0, rr_lt, rr_blt, rr_le, rr_ble, rr_eq, rr_beq, rr_nl_n, rr_nl_s, rr_bnl_n, rr_bnl_s, rr_cond_t, rr_cond_f, rr_bcond_t, rr_bcond_f, rr_bon, rr_bcv, rr_cv, rr_g, rr_gr, rr_si, rr_sz, rr_sr, rr_al, rr_ld, rr_st, rr_rl, rr_rs, rr_ni, rr_nr, rr_z, rr_div, rr_rem, rr_lc, rr_mx, rr_mn, rr_ab, rr_no, gd_t, bc_t, bc_f, gd_tt, bc_tt, bc_ff, or_true, true_or, and_true, true_and, Nat.reduceAdd, mo_b_s er, mo_b_s ew], ⟨by omega, by omega, ?_, jF.tr (FRM.sI (lo := d) (hi := d + 3) (by omega) (by omega)) (Nat.le_refl _) (Nat.le_refl _) (Nat.le_refl _) (Nat.le_refl _)⟩, by omega⟩
          intro i' j' a1 a2 a3
          rw [hl_I_sI]
          by_cases hc : i' = i0 ∧ j' = j0
          · obtain ⟨rfl, rfl⟩ := hc
            rw [if_pos ⟨rfl, rfl⟩]
          · rw [if_neg (fun q => hc (by omega))]
            exact jT i' j' a1 a2 (by omega)
theorem q1_trace {h : AH} {d bx by_ : Nat} {xs ys : List Int} (hD : kDs h d) (hX : kR h bx xs) (hY : kR h by_ ys) (hdx : d + 3 ≤ bx ∨ bx + 2 ≤ d) (hdy : d + 3 ≤ by_ ∨ by_ + 2 ≤ d) (hx : pL xs) (hy : pL ys) (lx : xs.length ≤ 14) (ly : ys.length ≤ 14) (hT : tbF h d xs ys 0 0) : ∃ h', X1_trace d (some bx) (some by_) h = some ((), h') ∧ (∀ k : Nat, k < xs.length → ah_I h' (d + 2) (k : Int) = (trc xs ys 0).getD k 0) ∧ FRM h h' d (d + 3) := by
  have hL := lp_inv (F := X1_trace_L8 d (some bx) (some by_)) (fun s h' => ∃ i j : Nat, s.1 = (i : Int) ∧ s.2.1 = (j : Int) ∧ i ≤ xs.length ∧ j ≤ ys.length ∧ 0 ≤ s.2.2 ∧ s.2.2 ≤ (i : Int) + j ∧ (∀ k : Nat, k < i → ah_I h' (d + 2) (k : Int) = (trc xs ys 0).getD k 0) ∧ (trc xs ys 0).drop i = trc (xs.drop i) (ys.drop j) (j : Int) ∧ tbF h' d xs ys 0 0 ∧ FRM h h' d (d + 3)) (fun s => (28 - s.2.2).toNat) (fun _ h' => (∀ k : Nat, k < xs.length → ah_I h' (d + 2) (k : Int) = (trc xs ys 0).getD k 0) ∧ FRM h h' d (d + 3)) ?_ mo_N (0, 0, 0) h ⟨0, 0, rfl, rfl, by omega, by omega, by simp, by simp, fun k hk => by omega, rfl, hT, FRM.rf⟩ (by rw [mo_N_v]; show (28 - (0 : Int)).toNat < 200000; omega)
  · obtain ⟨_, h', e, q⟩ := hL
    exact ⟨h', by simp (disch := omega) only [X1_trace, rr_p, rr_bp, rr_bb, rr_0, rr_lt, rr_blt, rr_le, rr_ble, rr_eq, rr_beq, rr_nl_n, rr_nl_s, rr_bnl_n, rr_bnl_s, rr_cond_t, rr_cond_f, rr_bcond_t, rr_bcond_f, rr_bon, rr_bcv, rr_cv, rr_g, rr_gr, rr_si, rr_sz, rr_sr, rr_al, rr_ld, rr_st, rr_rl, rr_rs, rr_ni, rr_nr, rr_z, rr_div, rr_rem, rr_lc, rr_mx, rr_mn, rr_ab, rr_no, gd_t, bc_t, bc_f, gd_tt, bc_tt, bc_ff, or_true, true_or, and_true, true_and, Nat.reduceAdd, mo_b_s e], q⟩
  · rintro ⟨y1, y2, y3⟩ h' ⟨i, j, e1, e2, i1, j1, s1, s2, hm, hd, hTb, hF⟩
    dsimp only at e1 e2 s1 s2 ⊢
    subst e1; subst e2
    have hD' := kDs_fr hD hF
    have hX' := kR_fr hX hF (by omega)
    have hY' := kR_fr hY hF (by omega)
    have td := hD'.1
    have tx := hX'.1
    have ty := hY'.1
    have ex := q4_size hX'
    have ey := q4_size hY'
    by_cases hs : y3 < 28
    · by_cases hi : i < xs.length
      · left
        have a1 := q4_at hX' (i := (i : Int)) (by omega)
        rw [if_pos (by omega), Int.toNat_natCast] at a1
        have r1 := hx i
        by_cases hj : j < ys.length
        · have a2 := q4_at hY' (i := (j : Int)) (by omega)
          rw [if_pos (by omega), Int.toNat_natCast] at a2
          have r2 := hy j
          have hd0 := hd
          rw [drop_c hi, drop_c hj, trc] at hd
          by_cases hc : xs.getD i 0 = ys.getD j 0
          · rw [if_pos hc] at hd
            have w1 := q1_setMate hD' (i := (i : Int)) (v := (j : Int)) (by omega)
            refine ⟨((i : Int) + 1, (j : Int) + 1, y3 + 1), ah_sI h' (d + 2) (i : Int) (j : Int), by simp (disch := omega) only [X1_trace_L8, rr_p, rr_bp, rr_bb, rr_0, rr_lt, rr_blt, rr_le, rr_ble, rr_eq, rr_beq, rr_nl_n, rr_nl_s, rr_bnl_n, rr_bnl_s, rr_cond_t, rr_cond_f, rr_bcond_t, rr_bcond_f, rr_bon, rr_bcv, rr_cv, rr_g, rr_gr, rr_si, rr_sz, rr_sr, rr_al, rr_ld, rr_st, rr_rl, rr_rs, rr_ni, rr_nr, rr_z, rr_div, rr_rem, rr_lc, rr_mx, rr_mn, rr_ab, rr_no, gd_t, bc_t, bc_f, gd_tt, bc_tt, bc_ff, or_true, true_or, and_true, true_and, Nat.reduceAdd, mo_b_s ex, mo_b_s ey, mo_b_s a1, mo_b_s a2, mo_b_s w1], ⟨i + 1, j + 1, by simp, by simp, by omega, by omega, by dsimp only; omega, by dsimp only; omega, ?_, ?_, ?_, hF.tr (FRM.sI (lo := d) (hi := d + 3) (by omega) (by omega)) (Nat.le_refl _) (Nat.le_refl _) (Nat.le_refl _) (Nat.le_refl _)⟩, by dsimp only; omega⟩
            · intro k hk
              have hg : (trc xs ys 0).getD i 0 = (j : Int) := by
                have := congrArg (fun l => l.getD 0 0) hd
                simpa [getD_drop] using this
              rw [hl_I_sI]
              by_cases hki : k = i
              · subst hki; rw [if_pos ⟨rfl, rfl⟩, hg]
              · rw [if_neg (by omega)]; exact hm k (by omega)
            · have := congrArg (fun l => l.drop 1) hd
              simp only [List.drop_drop, List.drop_one, List.tail_cons] at this
              simpa [Nat.add_comm] using this
            · intro i' j' b1 b2 b3
              rw [hl_I_sI_n (Or.inl (by omega))]
              exact hTb i' j' b1 b2 b3
          · rw [if_neg hc] at hd
            have g1 := q1_mostFrom hD' (i := (i : Int) + 1) (j := (j : Int)) (by omega) (by omega)
            have g2 := q1_mostFrom hD' (i := (i : Int)) (j := (j : Int)) (by omega) (by omega)
            have v1 := hTb (i + 1) j (by omega) (by omega) (by omega)
            have v2 := hTb i j (by omega) (by omega) (by omega)
            rw [show ((i + 1 : Nat) : Int) = (i : Int) + 1 by omega] at v1
            rw [v1] at g1
            rw [v2] at g2
            have l1 := ml_le (xs.drop (i + 1)) (ys.drop j)
            have l2 := ml_le (xs.drop i) (ys.drop j)
            rw [List.length_drop] at l1 l2
            by_cases hcm : ml (xs.drop (i + 1)) (ys.drop j) = ml (xs.drop i) (ys.drop j)
            · rw [← drop_c hi, ← drop_c hj, if_pos hcm] at hd
              have w1 := q1_setMate hD' (i := (i : Int)) (v := -1) (by omega)
              refine ⟨((i : Int) + 1, (j : Int), y3 + 1), ah_sI h' (d + 2) (i : Int) (-1), by simp (disch := omega) only [X1_trace_L8, rr_p, rr_bp, rr_bb, rr_0, rr_lt, rr_blt, rr_le, rr_ble, rr_eq, rr_beq, rr_nl_n, rr_nl_s, rr_bnl_n, rr_bnl_s, rr_cond_t, rr_cond_f, rr_bcond_t, rr_bcond_f, rr_bon, rr_bcv, rr_cv, rr_g, rr_gr, rr_si, rr_sz, rr_sr, rr_al, rr_ld, rr_st, rr_rl, rr_rs, rr_ni, rr_nr, rr_z, rr_div, rr_rem, rr_lc, rr_mx, rr_mn, rr_ab, rr_no, gd_t, bc_t, bc_f, gd_tt, bc_tt, bc_ff, or_true, true_or, and_true, true_and, Nat.reduceAdd, mo_b_s ex, mo_b_s ey, mo_b_s a1, mo_b_s a2, mo_b_s g1, mo_b_s g2, mo_b_s w1], ⟨i + 1, j, by simp, rfl, by omega, by omega, by dsimp only; omega, by dsimp only; omega, ?_, ?_, ?_, hF.tr (FRM.sI (lo := d) (hi := d + 3) (by omega) (by omega)) (Nat.le_refl _) (Nat.le_refl _) (Nat.le_refl _) (Nat.le_refl _)⟩, by dsimp only; omega⟩
              · intro k hk
                have hg : (trc xs ys 0).getD i 0 = -1 := by
                  have := congrArg (fun l => l.getD 0 0) hd
                  simpa [getD_drop] using this
                rw [hl_I_sI]
                by_cases hki : k = i
                · subst hki; rw [if_pos ⟨rfl, rfl⟩, hg]
                · rw [if_neg (by omega)]; exact hm k (by omega)
              · have := congrArg (fun l => l.drop 1) hd
                simp only [List.drop_drop, List.drop_one, List.tail_cons] at this
                simpa [Nat.add_comm] using this
              · intro i' j' b1 b2 b3
                rw [hl_I_sI_n (Or.inl (by omega))]
                exact hTb i' j' b1 b2 b3
            · rw [← drop_c hi, ← drop_c hj, if_neg hcm] at hd
              refine ⟨((i : Int), (j : Int) + 1, y3 + 1), h', by simp (disch := omega) only [X1_trace_L8, rr_p, rr_bp, rr_bb, rr_0, rr_lt, rr_blt, rr_le, rr_ble, rr_eq, rr_beq, rr_nl_n, rr_nl_s, rr_bnl_n, rr_bnl_s, rr_cond_t, rr_cond_f, rr_bcond_t, rr_bcond_f, rr_bon, rr_bcv, rr_cv, rr_g, rr_gr, rr_si, rr_sz, rr_sr, rr_al, rr_ld, rr_st, rr_rl, rr_rs, rr_ni, rr_nr, rr_z, rr_div, rr_rem, rr_lc, rr_mx, rr_mn, rr_ab, rr_no, gd_t, bc_t, bc_f, gd_tt, bc_tt, bc_ff, or_true, true_or, and_true, true_and, Nat.reduceAdd, mo_b_s ex, mo_b_s ey, mo_b_s a1, mo_b_s a2, mo_b_s g1, mo_b_s g2], ⟨i, j + 1, rfl, by simp, by omega, by omega, by dsimp only; omega, by dsimp only; omega, hm, hd, hTb, hF⟩, by dsimp only; omega⟩
        · rw [drop_c hi, List.drop_eq_nil_of_le (show ys.length ≤ j by omega), trc] at hd
          have w1 := q1_setMate hD' (i := (i : Int)) (v := -1) (by omega)
          refine ⟨((i : Int) + 1, (j : Int), y3 + 1), ah_sI h' (d + 2) (i : Int) (-1), by simp (disch := omega) only [X1_trace_L8, rr_p, rr_bp, rr_bb, rr_0, rr_lt, rr_blt, rr_le, rr_ble, rr_eq, rr_beq, rr_nl_n, rr_nl_s, rr_bnl_n, rr_bnl_s, rr_cond_t, rr_cond_f, rr_bcond_t, rr_bcond_f, rr_bon, rr_bcv, rr_cv, rr_g, rr_gr, rr_si, rr_sz, rr_sr, rr_al, rr_ld, rr_st, rr_rl, rr_rs, rr_ni, rr_nr, rr_z, rr_div, rr_rem, rr_lc, rr_mx, rr_mn, rr_ab, rr_no, gd_t, bc_t, bc_f, gd_tt, bc_tt, bc_ff, or_true, true_or, and_true, true_and, Nat.reduceAdd, mo_b_s ex, mo_b_s ey, mo_b_s a1, mo_b_s w1], ⟨i + 1, j, by simp, rfl, by omega, by omega, by dsimp only; omega, by dsimp only; omega, ?_, ?_, ?_, hF.tr (FRM.sI (lo := d) (hi := d + 3) (by omega) (by omega)) (Nat.le_refl _) (Nat.le_refl _) (Nat.le_refl _) (Nat.le_refl _)⟩, by dsimp only; omega⟩
          · intro k hk
            have hg : (trc xs ys 0).getD i 0 = -1 := by
              have := congrArg (fun l => l.getD 0 0) hd
              simpa [getD_drop] using this
            rw [hl_I_sI]
            by_cases hki : k = i
            · subst hki; rw [if_pos ⟨rfl, rfl⟩, hg]
            · rw [if_neg (by omega)]; exact hm k (by omega)
          · rw [List.drop_eq_nil_of_le (show ys.length ≤ j by omega)]
            have := congrArg (fun l => l.drop 1) hd
            simp only [List.drop_drop, List.drop_one, List.tail_cons] at this
            simpa [Nat.add_comm] using this
          · intro i' j' b1 b2 b3
            rw [hl_I_sI_n (Or.inl (by omega))]
            exact hTb i' j' b1 b2 b3
      · right
        exact ⟨(), h', by simp (disch := omega) only [X1_trace_L8, rr_p, rr_bp, rr_bb, rr_0, rr_lt, rr_blt, rr_le, rr_ble, rr_eq, rr_beq, rr_nl_n, rr_nl_s, rr_bnl_n, rr_bnl_s, rr_cond_t, rr_cond_f, rr_bcond_t, rr_bcond_f, rr_bon, rr_bcv, rr_cv, rr_g, rr_gr, rr_si, rr_sz, rr_sr, rr_al, rr_ld, rr_st, rr_rl, rr_rs, rr_ni, rr_nr, rr_z, rr_div, rr_rem, rr_lc, rr_mx, rr_mn, rr_ab, rr_no, gd_t, bc_t, bc_f, gd_tt, bc_tt, bc_ff, or_true, true_or, and_true, true_and, Nat.reduceAdd, mo_b_s ex], fun k hk => hm k (by omega), hF⟩
    · right
      exact ⟨(), h', by simp (disch := omega) only [X1_trace_L8, rr_p, rr_bp, rr_bb, rr_0, rr_lt, rr_blt, rr_le, rr_ble, rr_eq, rr_beq, rr_nl_n, rr_nl_s, rr_bnl_n, rr_bnl_s, rr_cond_t, rr_cond_f, rr_bcond_t, rr_bcond_f, rr_bon, rr_bcv, rr_cv, rr_g, rr_gr, rr_si, rr_sz, rr_sr, rr_al, rr_ld, rr_st, rr_rl, rr_rs, rr_ni, rr_nr, rr_z, rr_div, rr_rem, rr_lc, rr_mx, rr_mn, rr_ab, rr_no, gd_t, bc_t, bc_f, gd_tt, bc_tt, bc_ff, or_true, true_or, and_true, true_and, Nat.reduceAdd], fun k hk => hm k (by omega), hF⟩
theorem q1_find {h : AH} {d bx by_ : Nat} {xs ys : List Int} (hD : kDs h d) (hX : kR h bx xs) (hY : kR h by_ ys) (hdx : d + 3 ≤ bx ∨ bx + 2 ≤ d) (hdy : d + 3 ≤ by_ ∨ by_ + 2 ≤ d) (hx : pL xs) (hy : pL ys) (lx : xs.length ≤ 14) (ly : ys.length ≤ 14) : ∃ h', X1_find d (some bx) (some by_) h = some ((), h') ∧ (∀ k : Nat, k < xs.length → ah_I h' (d + 2) (k : Int) = (trc xs ys 0).getD k 0) ∧ FRM h h' d (d + 3) := by
  have es := q4_size hX
  have tx := hX.1
  obtain ⟨h1, e1, t1, f1⟩ := q1_find_tab hD hX hY hdx hdy hx hy lx ly
  have hD1 := kDs_fr hD f1
  obtain ⟨h2, e2, m2, f2⟩ := q1_trace hD1 (kR_fr hX f1 (by omega)) (kR_fr hY f1 (by omega)) hdx hdy hx hy lx ly t1
  have td := hD1.1
  exact ⟨h2, by simp (disch := omega) only [X1_find, rr_p, rr_bp, rr_bb, rr_0, rr_lt, rr_blt, rr_le, rr_ble, rr_eq, rr_beq, rr_nl_n, rr_nl_s, rr_bnl_n, rr_bnl_s, rr_cond_t, rr_cond_f, rr_bcond_t, rr_bcond_f, rr_bon, rr_bcv, rr_cv, rr_g, rr_gr, rr_si, rr_sz, rr_sr, rr_al, rr_ld, rr_st, rr_rl, rr_rs, rr_ni, rr_nr, rr_z, rr_div, rr_rem, rr_lc, rr_mx, rr_mn, rr_ab, rr_no, gd_t, bc_t, bc_f, gd_tt, bc_tt, bc_ff, or_true, true_or, and_true, true_and, Nat.reduceAdd, mo_b_s es, mo_b_s e1, mo_b_s e2], m2, f1.tr f2 (Nat.le_refl _) (Nat.le_refl _) (Nat.le_refl _) (Nat.le_refl _)⟩
