/-! searches -/
noncomputable def sr {β : Type} (P : Nat → Prop) (v : Nat → β) (d : β) : Nat → Nat → β
  | 0, _ => d
  | k + 1, i => br (P i) (v i) (sr P v d k (i + 1))
theorem sr_no {β : Type} {P : Nat → Prop} {v : Nat → β} {d : β} : ∀ (k i : Nat), (∀ j, i ≤ j → j < i + k → ¬ P j) → sr P v d k i = d
  | 0, _, _ => rfl
  | k + 1, i, h => by
    show br (P i) (v i) (sr P v d k (i + 1)) = d
    rw [bc_f (h i (by omega) (by omega))]
    exact sr_no k (i + 1) (fun j h1 h2 => h j (by omega) (by omega))
theorem sr_yes {β : Type} {P : Nat → Prop} {v : Nat → β} {d : β} : ∀ (k i j : Nat), i ≤ j → j < i + k → P j → (∀ l, i ≤ l → l < j → ¬ P l) → sr P v d k i = v j
  | 0, i, j, h1, h2, _, _ => by omega
  | k + 1, i, j, h1, h2, hj, hl => by
    show br (P i) (v i) (sr P v d k (i + 1)) = v j
    by_cases hij : i = j
    · subst hij; rw [bc_t hj]
    · rw [bc_f (hl i (by omega) (by omega))]
      exact sr_yes k (i + 1) j (by omega) (by omega) hj (fun l q1 q2 => hl l (by omega) q2)
theorem sr_c {β : Type} {P : Nat → Prop} {x d : β} (k i : Nat) : sr P (fun _ => x) d k i = br (∃ j, i ≤ j ∧ j < i + k ∧ P j) x d := by
  by_cases h : ∃ j, i ≤ j ∧ j < i + k ∧ P j
  · rw [bc_t h]
    induction k generalizing i with
    | zero => obtain ⟨j, h1, h2, -⟩ := h; omega
    | succ k ih =>
      show br (P i) x (sr P (fun _ => x) d k (i + 1)) = x
      by_cases hi : P i
      · rw [bc_t hi]
      · rw [bc_f hi]
        obtain ⟨j, h1, h2, h3⟩ := h
        have hij : i ≠ j := fun e => hi (e ▸ h3)
        exact ih (i + 1) ⟨j, by omega, by omega, h3⟩
  · rw [bc_f h]
    exact sr_no k i (fun j h1 h2 h3 => h ⟨j, h1, h2, h3⟩)
theorem lp_sr {B : Type} {F : Int → MO (Int ⊕ B)} {h : AH} (P : Nat → Prop) (v : Nat → B) (d : B) (n : Nat) (no : ∀ i : Nat, i < n → ¬ P i → F (i : Int) h = some (.inl ((i : Int) + 1), h)) (yes : ∀ i : Nat, i < n → P i → F (i : Int) h = some (.inr (v i), h)) (ex : F (n : Int) h = some (.inr d, h)) : ∀ (k i N : Nat), i + k = n → k < N → mo_lp N F (i : Int) h = some (sr P v d k i, h)
  | 0, i, N, hik, hN => by
    obtain ⟨N, rfl⟩ : ∃ n', N = n' + 1 := ⟨N - 1, by omega⟩
    have e : i = n := by omega
    subst e
    show mo_b (F (i : Int)) _ h = _
    rw [mo_b_s ex]; rfl
  | k + 1, i, N, hik, hN => by
    obtain ⟨N, rfl⟩ : ∃ n', N = n' + 1 := ⟨N - 1, by omega⟩
    show mo_b (F (i : Int)) _ h = some (br (P i) (v i) (sr P v d k (i + 1)), h)
    by_cases hP : P i
    · rw [mo_b_s (yes i (by omega) hP), bc_t hP]; rfl
    · rw [mo_b_s (no i (by omega) hP), bc_f hP]
      exact lp_sr P v d n no yes ex k (i + 1) N (by omega) (by omega)
def pL (g : List Int) : Prop := ∀ k : Nat, -100000 ≤ g.getD k 0 ∧ g.getD k 0 ≤ 100000
def pV (W : List HK) : Prop := ∀ i : Nat, (-100000 ≤ (hk W i).1 ∧ (hk W i).1 ≤ 100000) ∧ pL (hk W i).2.1 ∧ pL (hk W i).2.2
/-- the line that goes at a place of the row ahead, that came to a place of the row behind -/
noncomputable def gAt (W : List HK) (p : Int) : Int := sr (fun i => (hk W i).1 ≤ p ∧ p < (hk W i).1 + (hk W i).2.1.length) (fun i => (hk W i).2.1.getD (p - (hk W i).1).toNat 0) (-1) W.length 0
noncomputable def cAt (W : List HK) (p : Int) : Int := sr (fun i => hB W i ≤ p ∧ p < hB W i + (hk W i).2.2.length) (fun i => (hk W i).2.2.getD (p - hB W i).toNat 0) (-1) W.length 0
theorem hB_r {h : AH} {a mh ml : Nat} {W : List HK} (hP : kP h a mh ml W) (hV : pV W) (i : Nat) : -100056 ≤ hB W i ∧ hB W i ≤ 100056 := by
  have h1 := (hV i).1
  have h2 := @hgs_le W i
  have h3 := @hcs_le W i
  have h4 := hP.2.2.1
  have h5 := hP.1.2.2.2
  unfold hB; omega
theorem q3_goingAt {h : AH} {a mh ml : Nat} {W : List HK} (hP : kP h a mh ml W) (hV : pV W) {p : Int} (hp : -200000 ≤ p ∧ p ≤ 200000) : X3_goingAt a p h = some (gAt W p, h) := by
  have t0 := hP.1.1.1
  have f5 := hP.2.1
  have hl := hP.2.2.1
  have hm := hP.1.2.2.2
  refine lp_sr (F := X3_goingAt_L2 a p) _ _ _ W.length ?_ ?_ ?_ W.length 0 mo_N (by omega) (by rw [mo_N_v]; omega)
  · intro i hi hn
    have e1 := q3_begins hP (i := (i : Int)) (by omega) (by omega)
    have e2 := q3_going hP (i := (i : Int)) (by omega) (by omega)
    rw [Int.toNat_natCast] at e1 e2
    have hr := (hV i).1
    have hgl := @hgs_le W (i + 1)
    have hgs := hgs_s hi
    by_cases hc : p - (hk W i).1 < 0
    · simp (disch := omega) only [X3_goingAt_L2, rr_p, rr_bp, rr_bb, rr_0, rr_lt, rr_blt, rr_le, rr_ble, rr_eq, rr_beq, rr_nl_n, rr_nl_s, rr_bnl_n, rr_bnl_s, rr_cond_t, rr_cond_f, rr_bcond_t, rr_bcond_f, rr_bon, rr_bcv, rr_cv, rr_g, rr_gr, rr_si, rr_sz, rr_sr, rr_al, rr_ld, rr_st, rr_rl, rr_rs, rr_ni, rr_nr, rr_z, rr_div, rr_rem, rr_lc, rr_mx, rr_mn, rr_ab, rr_no, gd_t, bc_t, bc_f, gd_tt, bc_tt, bc_ff, or_true, true_or, and_true, true_and, Nat.reduceAdd, f5, mo_b_s e1, mo_b_s e2]
    · simp (disch := omega) only [X3_goingAt_L2, rr_p, rr_bp, rr_bb, rr_0, rr_lt, rr_blt, rr_le, rr_ble, rr_eq, rr_beq, rr_nl_n, rr_nl_s, rr_bnl_n, rr_bnl_s, rr_cond_t, rr_cond_f, rr_bcond_t, rr_bcond_f, rr_bon, rr_bcv, rr_cv, rr_g, rr_gr, rr_si, rr_sz, rr_sr, rr_al, rr_ld, rr_st, rr_rl, rr_rs, rr_ni, rr_nr, rr_z, rr_div, rr_rem, rr_lc, rr_mx, rr_mn, rr_ab, rr_no, gd_t, bc_t, bc_f, gd_tt, bc_tt, bc_ff, or_true, true_or, and_true, true_and, Nat.reduceAdd, f5, mo_b_s e1, mo_b_s e2]
  · intro i hi hy
    have e1 := q3_begins hP (i := (i : Int)) (by omega) (by omega)
    have e2 := q3_going hP (i := (i : Int)) (by omega) (by omega)
    have e3 := q3_goingLine hP (i := (i : Int)) (k := p - (hk W i).1) (by omega) (by omega) (by have hgl := @hgs_le W (i + 1); have hgs := hgs_s hi; omega)
    rw [Int.toNat_natCast] at e1 e2 e3
    rw [if_pos (by omega)] at e3
    have hr := (hV i).1
    have hgl := @hgs_le W (i + 1)
    have hgs := hgs_s hi
    simp (disch := omega) only [X3_goingAt_L2, rr_p, rr_bp, rr_bb, rr_0, rr_lt, rr_blt, rr_le, rr_ble, rr_eq, rr_beq, rr_nl_n, rr_nl_s, rr_bnl_n, rr_bnl_s, rr_cond_t, rr_cond_f, rr_bcond_t, rr_bcond_f, rr_bon, rr_bcv, rr_cv, rr_g, rr_gr, rr_si, rr_sz, rr_sr, rr_al, rr_ld, rr_st, rr_rl, rr_rs, rr_ni, rr_nr, rr_z, rr_div, rr_rem, rr_lc, rr_mx, rr_mn, rr_ab, rr_no, gd_t, bc_t, bc_f, gd_tt, bc_tt, bc_ff, or_true, true_or, and_true, true_and, Nat.reduceAdd, f5, mo_b_s e1, mo_b_s e2, mo_b_s e3]
  · simp (disch := omega) only [X3_goingAt_L2, rr_p, rr_bp, rr_bb, rr_0, rr_lt, rr_blt, rr_le, rr_ble, rr_eq, rr_beq, rr_nl_n, rr_nl_s, rr_bnl_n, rr_bnl_s, rr_cond_t, rr_cond_f, rr_bcond_t, rr_bcond_f, rr_bon, rr_bcv, rr_cv, rr_g, rr_gr, rr_si, rr_sz, rr_sr, rr_al, rr_ld, rr_st, rr_rl, rr_rs, rr_ni, rr_nr, rr_z, rr_div, rr_rem, rr_lc, rr_mx, rr_mn, rr_ab, rr_no, gd_t, bc_t, bc_f, gd_tt, bc_tt, bc_ff, or_true, true_or, and_true, true_and, Nat.reduceAdd, f5]
theorem q3_comingAt {h : AH} {a mh ml : Nat} {W : List HK} (hP : kP h a mh ml W) (hV : pV W) {p : Int} (hp : -200000 ≤ p ∧ p ≤ 200000) : X3_comingAt a p h = some (cAt W p, h) := by
  have t0 := hP.1.1.1
  have f5 := hP.2.1
  have hl := hP.2.2.1
  have hm := hP.1.2.2.2
  refine lp_sr (F := X3_comingAt_L2 a p) _ _ _ W.length ?_ ?_ ?_ W.length 0 mo_N (by omega) (by rw [mo_N_v]; omega)
  · intro i hi hn
    have e1 := q3_beginsBehind hP (i := (i : Int)) (by omega) (by omega)
    have e2 := q3_coming hP (i := (i : Int)) (by omega) (by omega)
    rw [Int.toNat_natCast] at e1 e2
    have hr := hB_r hP hV i
    have hgl := @hcs_le W (i + 1)
    have hgs := hcs_s hi
    by_cases hc : p - hB W i < 0
    · simp (disch := omega) only [X3_comingAt_L2, rr_p, rr_bp, rr_bb, rr_0, rr_lt, rr_blt, rr_le, rr_ble, rr_eq, rr_beq, rr_nl_n, rr_nl_s, rr_bnl_n, rr_bnl_s, rr_cond_t, rr_cond_f, rr_bcond_t, rr_bcond_f, rr_bon, rr_bcv, rr_cv, rr_g, rr_gr, rr_si, rr_sz, rr_sr, rr_al, rr_ld, rr_st, rr_rl, rr_rs, rr_ni, rr_nr, rr_z, rr_div, rr_rem, rr_lc, rr_mx, rr_mn, rr_ab, rr_no, gd_t, bc_t, bc_f, gd_tt, bc_tt, bc_ff, or_true, true_or, and_true, true_and, Nat.reduceAdd, f5, mo_b_s e1, mo_b_s e2]
    · simp (disch := omega) only [X3_comingAt_L2, rr_p, rr_bp, rr_bb, rr_0, rr_lt, rr_blt, rr_le, rr_ble, rr_eq, rr_beq, rr_nl_n, rr_nl_s, rr_bnl_n, rr_bnl_s, rr_cond_t, rr_cond_f, rr_bcond_t, rr_bcond_f, rr_bon, rr_bcv, rr_cv, rr_g, rr_gr, rr_si, rr_sz, rr_sr, rr_al, rr_ld, rr_st, rr_rl, rr_rs, rr_ni, rr_nr, rr_z, rr_div, rr_rem, rr_lc, rr_mx, rr_mn, rr_ab, rr_no, gd_t, bc_t, bc_f, gd_tt, bc_tt, bc_ff, or_true, true_or, and_true, true_and, Nat.reduceAdd, f5, mo_b_s e1, mo_b_s e2]
  · intro i hi hy
    have hr := hB_r hP hV i
    have e1 := q3_beginsBehind hP (i := (i : Int)) (by omega) (by omega)
    have e2 := q3_coming hP (i := (i : Int)) (by omega) (by omega)
    have e3 := q3_comingLine hP (i := (i : Int)) (k := p - hB W i) (by omega) (by omega) (by have hgl := @hcs_le W (i + 1); have hgs := hcs_s hi; omega)
    rw [Int.toNat_natCast] at e1 e2 e3
    rw [if_pos (by omega)] at e3
    have hgl := @hcs_le W (i + 1)
    have hgs := hcs_s hi
    simp (disch := omega) only [X3_comingAt_L2, rr_p, rr_bp, rr_bb, rr_0, rr_lt, rr_blt, rr_le, rr_ble, rr_eq, rr_beq, rr_nl_n, rr_nl_s, rr_bnl_n, rr_bnl_s, rr_cond_t, rr_cond_f, rr_bcond_t, rr_bcond_f, rr_bon, rr_bcv, rr_cv, rr_g, rr_gr, rr_si, rr_sz, rr_sr, rr_al, rr_ld, rr_st, rr_rl, rr_rs, rr_ni, rr_nr, rr_z, rr_div, rr_rem, rr_lc, rr_mx, rr_mn, rr_ab, rr_no, gd_t, bc_t, bc_f, gd_tt, bc_tt, bc_ff, or_true, true_or, and_true, true_and, Nat.reduceAdd, f5, mo_b_s e1, mo_b_s e2, mo_b_s e3]
  · simp (disch := omega) only [X3_comingAt_L2, rr_p, rr_bp, rr_bb, rr_0, rr_lt, rr_blt, rr_le, rr_ble, rr_eq, rr_beq, rr_nl_n, rr_nl_s, rr_bnl_n, rr_bnl_s, rr_cond_t, rr_cond_f, rr_bcond_t, rr_bcond_f, rr_bon, rr_bcv, rr_cv, rr_g, rr_gr, rr_si, rr_sz, rr_sr, rr_al, rr_ld, rr_st, rr_rl, rr_rs, rr_ni, rr_nr, rr_z, rr_div, rr_rem, rr_lc, rr_mx, rr_mn, rr_ab, rr_no, gd_t, bc_t, bc_f, gd_tt, bc_tt, bc_ff, or_true, true_or, and_true, true_and, Nat.reduceAdd, f5]
/-- some hunk, in the row ahead, overlaps the stretch or begins or ends at its edge -/
def tch (W : List HK) (f t : Int) : Prop := ∃ i : Nat, i < W.length ∧ (hk W i).1 ≤ t ∧ f ≤ (hk W i).1 + (hk W i).2.1.length
theorem q3_touches {h : AH} {a mh ml : Nat} {W : List HK} (hP : kP h a mh ml W) (hV : pV W) {f t : Int} (hf : -200000 ≤ f ∧ f ≤ 200000) (ht : -200000 ≤ t ∧ t ≤ 200000) : X3_touches a f t h = some (br (tch W f t) 1 0, h) := by
  have t0 := hP.1.1.1
  have f5 := hP.2.1
  have hl := hP.2.2.1
  have hm := hP.1.2.2.2
  have hs := lp_sr (F := X3_touches_L2 a f t) (h := h) (fun i => (hk W i).1 ≤ t ∧ f ≤ (hk W i).1 + (hk W i).2.1.length) (fun _ => 1) 0 W.length ?_ ?_ ?_ W.length 0 mo_N (by omega) (by rw [mo_N_v]; omega)
  · rw [sr_c] at hs
    have e : (∃ j, 0 ≤ j ∧ j < 0 + W.length ∧ ((hk W j).1 ≤ t ∧ f ≤ (hk W j).1 + (hk W j).2.1.length)) ↔ tch W f t := ⟨fun ⟨j, _, h2, h3⟩ => ⟨j, by omega, h3⟩, fun ⟨j, h2, h3⟩ => ⟨j, by omega, by omega, h3⟩⟩
    rw [propext e] at hs
    exact hs
  · intro i hi hn
    have e1 := q3_begins hP (i := (i : Int)) (by omega) (by omega)
    have e2 := q3_ends hP (i := (i : Int)) (by omega) (by omega)
    rw [Int.toNat_natCast] at e1 e2
    have hr := (hV i).1
    have hgl := @hgs_le W (i + 1)
    have hgs := hgs_s hi
    by_cases hc : (hk W i).1 ≤ t
    · simp (disch := omega) only [X3_touches_L2, rr_p, rr_bp, rr_bb, rr_0, rr_lt, rr_blt, rr_le, rr_ble, rr_eq, rr_beq, rr_nl_n, rr_nl_s, rr_bnl_n, rr_bnl_s, rr_cond_t, rr_cond_f, rr_bcond_t, rr_bcond_f, rr_bon, rr_bcv, rr_cv, rr_g, rr_gr, rr_si, rr_sz, rr_sr, rr_al, rr_ld, rr_st, rr_rl, rr_rs, rr_ni, rr_nr, rr_z, rr_div, rr_rem, rr_lc, rr_mx, rr_mn, rr_ab, rr_no, gd_t, bc_t, bc_f, gd_tt, bc_tt, bc_ff, or_true, true_or, and_true, true_and, Nat.reduceAdd, f5, mo_b_s e1, mo_b_s e2]
    · simp (disch := omega) only [X3_touches_L2, rr_p, rr_bp, rr_bb, rr_0, rr_lt, rr_blt, rr_le, rr_ble, rr_eq, rr_beq, rr_nl_n, rr_nl_s, rr_bnl_n, rr_bnl_s, rr_cond_t, rr_cond_f, rr_bcond_t, rr_bcond_f, rr_bon, rr_bcv, rr_cv, rr_g, rr_gr, rr_si, rr_sz, rr_sr, rr_al, rr_ld, rr_st, rr_rl, rr_rs, rr_ni, rr_nr, rr_z, rr_div, rr_rem, rr_lc, rr_mx, rr_mn, rr_ab, rr_no, gd_t, bc_t, bc_f, gd_tt, bc_tt, bc_ff, or_true, true_or, and_true, true_and, Nat.reduceAdd, f5, mo_b_s e1, mo_b_s e2]
  · intro i hi hy
    have e1 := q3_begins hP (i := (i : Int)) (by omega) (by omega)
    have e2 := q3_ends hP (i := (i : Int)) (by omega) (by omega)
    rw [Int.toNat_natCast] at e1 e2
    have hr := (hV i).1
    have hgl := @hgs_le W (i + 1)
    have hgs := hgs_s hi
    simp (disch := omega) only [X3_touches_L2, rr_p, rr_bp, rr_bb, rr_0, rr_lt, rr_blt, rr_le, rr_ble, rr_eq, rr_beq, rr_nl_n, rr_nl_s, rr_bnl_n, rr_bnl_s, rr_cond_t, rr_cond_f, rr_bcond_t, rr_bcond_f, rr_bon, rr_bcv, rr_cv, rr_g, rr_gr, rr_si, rr_sz, rr_sr, rr_al, rr_ld, rr_st, rr_rl, rr_rs, rr_ni, rr_nr, rr_z, rr_div, rr_rem, rr_lc, rr_mx, rr_mn, rr_ab, rr_no, gd_t, bc_t, bc_f, gd_tt, bc_tt, bc_ff, or_true, true_or, and_true, true_and, Nat.reduceAdd, f5, mo_b_s e1, mo_b_s e2]
  · simp (disch := omega) only [X3_touches_L2, rr_p, rr_bp, rr_bb, rr_0, rr_lt, rr_blt, rr_le, rr_ble, rr_eq, rr_beq, rr_nl_n, rr_nl_s, rr_bnl_n, rr_bnl_s, rr_cond_t, rr_cond_f, rr_bcond_t, rr_bcond_f, rr_bon, rr_bcv, rr_cv, rr_g, rr_gr, rr_si, rr_sz, rr_sr, rr_al, rr_ld, rr_st, rr_rl, rr_rs, rr_ni, rr_nr, rr_z, rr_div, rr_rem, rr_lc, rr_mx, rr_mn, rr_ab, rr_no, gd_t, bc_t, bc_f, gd_tt, bc_tt, bc_ff, or_true, true_or, and_true, true_and, Nat.reduceAdd, f5]
/-- the lines g stand in xs at p -/
def stW (xs g : List Int) (p : Int) : Prop := p + g.length ≤ xs.length ∧ ∀ k : Nat, k < g.length → xs.getD (p.toNat + k) 0 = g.getD k 0
theorem q3_standsAt {h : AH} {a mh ml b : Nat} {W : List HK} {xs : List Int} (hP : kP h a mh ml W) (hV : pV W) (hX : kR h b xs) (hx : pL xs) {i p : Int} (h0 : 0 ≤ i) (h1 : i < W.length) (hp : 0 ≤ p ∧ p ≤ 200000) : X3_standsAt a (some b) i p h = some (br (stW xs (hk W i.toNat).2.1 p) 1 0, h) := by
  have t0 := hP.1.1.1
  have tb := hX.1
  have e1 := q3_going hP h0 h1
  have e2 := q4_size hX
  have hl := hP.2.2.1
  have hm := hP.1.2.2.2
  have hxl := hX.2.2.2.2
  have hgl := @hgs_le W (i.toNat + 1)
  have hgs := @hgs_s W i.toNat (by omega)
  by_cases hc : p + ((hk W i.toNat).2.1.length : Int) ≤ xs.length
  · have hs := lp_sr (F := X3_standsAt_L19 a (some b) i p) (h := h) (fun k => ¬ xs.getD (p.toNat + k) 0 = (hk W i.toNat).2.1.getD k 0) (fun _ => 0) 1 (hk W i.toNat).2.1.length ?_ ?_ ?_ (hk W i.toNat).2.1.length 0 mo_N (by omega) (by rw [mo_N_v]; omega)
    · rw [sr_c] at hs
      have e3 : br (∃ j, 0 ≤ j ∧ j < 0 + (hk W i.toNat).2.1.length ∧ ¬ xs.getD (p.toNat + j) 0 = (hk W i.toNat).2.1.getD j 0) (0 : Int) 1 = br (stW xs (hk W i.toNat).2.1 p) 1 0 := by
        by_cases hst : stW xs (hk W i.toNat).2.1 p
        · rw [bc_t hst, bc_f (fun ⟨j, _, q2, q3⟩ => q3 (hst.2 j (by omega)))]
        · rw [bc_f hst, bc_t]
          apply Classical.byContradiction
          intro hne
          exact hst ⟨hc, fun k hk1 => Classical.byContradiction fun q => hne ⟨k, by omega, by omega, q⟩⟩
      rw [e3] at hs
      simp (disch := omega) only [X3_standsAt, rr_p, rr_bp, rr_bb, rr_0, rr_lt, rr_blt, rr_le, rr_ble, rr_eq, rr_beq, rr_nl_n, rr_nl_s, rr_bnl_n, rr_bnl_s, rr_cond_t, rr_cond_f, rr_bcond_t, rr_bcond_f, rr_bon, rr_bcv, rr_cv, rr_g, rr_gr, rr_si, rr_sz, rr_sr, rr_al, rr_ld, rr_st, rr_rl, rr_rs, rr_ni, rr_nr, rr_z, rr_div, rr_rem, rr_lc, rr_mx, rr_mn, rr_ab, rr_no, gd_t, bc_t, bc_f, gd_tt, bc_tt, bc_ff, or_true, true_or, and_true, true_and, Nat.reduceAdd, mo_b_s e1, mo_b_s e2]
      exact hs
    · intro k hk1 hn
      have hn := Classical.not_not.mp hn
      have e4 := q4_at hX (i := p + (k : Int)) (by omega)
      have e5 := q3_goingLine hP (i := i) (k := (k : Int)) h0 h1 (by omega)
      rw [if_pos (by omega), show (p + (k : Int)).toNat = p.toNat + k by omega] at e4
      rw [if_pos (by omega), Int.toNat_natCast] at e5
      have r1 := hx (p.toNat + k)
      have r2 := (hV i.toNat).2.1 k
      simp (disch := omega) only [X3_standsAt_L19, rr_p, rr_bp, rr_bb, rr_0, rr_lt, rr_blt, rr_le, rr_ble, rr_eq, rr_beq, rr_nl_n, rr_nl_s, rr_bnl_n, rr_bnl_s, rr_cond_t, rr_cond_f, rr_bcond_t, rr_bcond_f, rr_bon, rr_bcv, rr_cv, rr_g, rr_gr, rr_si, rr_sz, rr_sr, rr_al, rr_ld, rr_st, rr_rl, rr_rs, rr_ni, rr_nr, rr_z, rr_div, rr_rem, rr_lc, rr_mx, rr_mn, rr_ab, rr_no, gd_t, bc_t, bc_f, gd_tt, bc_tt, bc_ff, or_true, true_or, and_true, true_and, Nat.reduceAdd, mo_b_s e1, mo_b_s e4, mo_b_s e5]
    · intro k hk1 hy
      have e4 := q4_at hX (i := p + (k : Int)) (by omega)
      have e5 := q3_goingLine hP (i := i) (k := (k : Int)) h0 h1 (by omega)
      rw [if_pos (by omega), show (p + (k : Int)).toNat = p.toNat + k by omega] at e4
      rw [if_pos (by omega), Int.toNat_natCast] at e5
      have r1 := hx (p.toNat + k)
      have r2 := (hV i.toNat).2.1 k
      simp (disch := omega) only [X3_standsAt_L19, rr_p, rr_bp, rr_bb, rr_0, rr_lt, rr_blt, rr_le, rr_ble, rr_eq, rr_beq, rr_nl_n, rr_nl_s, rr_bnl_n, rr_bnl_s, rr_cond_t, rr_cond_f, rr_bcond_t, rr_bcond_f, rr_bon, rr_bcv, rr_cv, rr_g, rr_gr, rr_si, rr_sz, rr_sr, rr_al, rr_ld, rr_st, rr_rl, rr_rs, rr_ni, rr_nr, rr_z, rr_div, rr_rem, rr_lc, rr_mx, rr_mn, rr_ab, rr_no, gd_t, bc_t, bc_f, gd_tt, bc_tt, bc_ff, or_true, true_or, and_true, true_and, Nat.reduceAdd, mo_b_s e1, mo_b_s e4, mo_b_s e5]
    · simp (disch := omega) only [X3_standsAt_L19, rr_p, rr_bp, rr_bb, rr_0, rr_lt, rr_blt, rr_le, rr_ble, rr_eq, rr_beq, rr_nl_n, rr_nl_s, rr_bnl_n, rr_bnl_s, rr_cond_t, rr_cond_f, rr_bcond_t, rr_bcond_f, rr_bon, rr_bcv, rr_cv, rr_g, rr_gr, rr_si, rr_sz, rr_sr, rr_al, rr_ld, rr_st, rr_rl, rr_rs, rr_ni, rr_nr, rr_z, rr_div, rr_rem, rr_lc, rr_mx, rr_mn, rr_ab, rr_no, gd_t, bc_t, bc_f, gd_tt, bc_tt, bc_ff, or_true, true_or, and_true, true_and, Nat.reduceAdd, mo_b_s e1]
  · rw [bc_f (fun q => hc q.1)]
    simp (disch := omega) only [X3_standsAt, rr_p, rr_bp, rr_bb, rr_0, rr_lt, rr_blt, rr_le, rr_ble, rr_eq, rr_beq, rr_nl_n, rr_nl_s, rr_bnl_n, rr_bnl_s, rr_cond_t, rr_cond_f, rr_bcond_t, rr_bcond_f, rr_bon, rr_bcv, rr_cv, rr_g, rr_gr, rr_si, rr_sz, rr_sr, rr_al, rr_ld, rr_st, rr_rl, rr_rs, rr_ni, rr_nr, rr_z, rr_div, rr_rem, rr_lc, rr_mx, rr_mn, rr_ab, rr_no, gd_t, bc_t, bc_f, gd_tt, bc_tt, bc_ff, or_true, true_or, and_true, true_and, Nat.reduceAdd, mo_b_s e1, mo_b_s e2]
def fitW (xs : List Int) (W : List HK) : Prop := ∀ i : Nat, i < W.length → stW xs (hk W i).2.1 (hk W i).1
theorem q3_fitsOn {h : AH} {a mh ml b : Nat} {W : List HK} {xs : List Int} (hP : kP h a mh ml W) (hV : pV W) (hX : kR h b xs) (hx : pL xs) (hp : ∀ i : Nat, i < W.length → 0 ≤ (hk W i).1) : X3_fitsOn a (some b) h = some (br (fitW xs W) 1 0, h) := by
  have t0 := hP.1.1.1
  have f5 := hP.2.1
  have hl := hP.2.2.1
  have hm := hP.1.2.2.2
  have hs := lp_sr (F := X3_fitsOn_L2 a (some b)) (h := h) (fun i => ¬ stW xs (hk W i).2.1 (hk W i).1) (fun _ => 0) 1 W.length ?_ ?_ ?_ W.length 0 mo_N (by omega) (by rw [mo_N_v]; omega)
  · rw [sr_c] at hs
    have e3 : br (∃ j, 0 ≤ j ∧ j < 0 + W.length ∧ ¬ stW xs (hk W j).2.1 (hk W j).1) (0 : Int) 1 = br (fitW xs W) 1 0 := by
      by_cases hst : fitW xs W
      · rw [bc_t hst, bc_f (fun ⟨j, _, q2, q3⟩ => q3 (hst j (by omega)))]
      · rw [bc_f hst, bc_t]
        apply Classical.byContradiction
        intro hne
        exact hst (fun k hk1 => Classical.byContradiction fun q => hne ⟨k, by omega, by omega, q⟩)
    rw [e3] at hs
    exact hs
  · intro i hi hn
    have hn := Classical.not_not.mp hn
    have e1 := q3_begins hP (i := (i : Int)) (by omega) (by omega)
    rw [Int.toNat_natCast] at e1
    have e2 := q3_standsAt hP hV hX hx (i := (i : Int)) (p := (hk W i).1) (by omega) (by omega) (by have := (hV i).1; have := hp i hi; omega)
    rw [Int.toNat_natCast, bc_t hn] at e2
    simp (disch := omega) only [X3_fitsOn_L2, rr_p, rr_bp, rr_bb, rr_0, rr_lt, rr_blt, rr_le, rr_ble, rr_eq, rr_beq, rr_nl_n, rr_nl_s, rr_bnl_n, rr_bnl_s, rr_cond_t, rr_cond_f, rr_bcond_t, rr_bcond_f, rr_bon, rr_bcv, rr_cv, rr_g, rr_gr, rr_si, rr_sz, rr_sr, rr_al, rr_ld, rr_st, rr_rl, rr_rs, rr_ni, rr_nr, rr_z, rr_div, rr_rem, rr_lc, rr_mx, rr_mn, rr_ab, rr_no, gd_t, bc_t, bc_f, gd_tt, bc_tt, bc_ff, or_true, true_or, and_true, true_and, Nat.reduceAdd, f5, mo_b_s e1, mo_b_s e2]
  · intro i hi hy
    have e1 := q3_begins hP (i := (i : Int)) (by omega) (by omega)
    rw [Int.toNat_natCast] at e1
    have e2 := q3_standsAt hP hV hX hx (i := (i : Int)) (p := (hk W i).1) (by omega) (by omega) (by have := (hV i).1; have := hp i hi; omega)
    rw [Int.toNat_natCast, bc_f hy] at e2
    simp (disch := omega) only [X3_fitsOn_L2, rr_p, rr_bp, rr_bb, rr_0, rr_lt, rr_blt, rr_le, rr_ble, rr_eq, rr_beq, rr_nl_n, rr_nl_s, rr_bnl_n, rr_bnl_s, rr_cond_t, rr_cond_f, rr_bcond_t, rr_bcond_f, rr_bon, rr_bcv, rr_cv, rr_g, rr_gr, rr_si, rr_sz, rr_sr, rr_al, rr_ld, rr_st, rr_rl, rr_rs, rr_ni, rr_nr, rr_z, rr_div, rr_rem, rr_lc, rr_mx, rr_mn, rr_ab, rr_no, gd_t, bc_t, bc_f, gd_tt, bc_tt, bc_ff, or_true, true_or, and_true, true_and, Nat.reduceAdd, f5, mo_b_s e1, mo_b_s e2]
  · simp (disch := omega) only [X3_fitsOn_L2, rr_p, rr_bp, rr_bb, rr_0, rr_lt, rr_blt, rr_le, rr_ble, rr_eq, rr_beq, rr_nl_n, rr_nl_s, rr_bnl_n, rr_bnl_s, rr_cond_t, rr_cond_f, rr_bcond_t, rr_bcond_f, rr_bon, rr_bcv, rr_cv, rr_g, rr_gr, rr_si, rr_sz, rr_sr, rr_al, rr_ld, rr_st, rr_rl, rr_rs, rr_ni, rr_nr, rr_z, rr_div, rr_rem, rr_lc, rr_mx, rr_mn, rr_ab, rr_no, gd_t, bc_t, bc_f, gd_tt, bc_tt, bc_ff, or_true, true_or, and_true, true_and, Nat.reduceAdd, f5]
