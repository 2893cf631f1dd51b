/-- a version is remade by a piece -/
def rch (E : SE) (s : List Int) (i p : Int) : Prop := ∃ k : Nat, k < E.1 ∧ itc s (E.1 : Int) k i = p
noncomputable def lwN (E : SE) (s : List Int) (p : Int) : Nat → Int
  | 0 => 0
  | k + 1 => lwN E s p k + br (rch E s (k : Int) p) (E.2.2.1 k) 0
noncomputable def lw (E : SE) (s : List Int) (p : Int) : Int := lwN E s p E.1
noncomputable def wpN (E : SE) (s : List Int) (c : Int) : Nat → Int
  | 0 => -1
  | k + 1 => br ((k : Int) ≠ c ∧ (wpN E s c k = -1 ∨ lw E s (wpN E s c k) < lw E s (k : Int))) (k : Int) (wpN E s c k)
noncomputable def wl (E : SE) (s : List Int) (c : Int) : Int := br (wpN E s c E.1 = -1) 0 (lw E s (wpN E s c E.1))
def bet (E : SE) (s : List Int) (k w : Int) : Prop := wl E s k < wl E s w ∨ (wl E s k = wl E s w ∧ E.2.1 k (sv s k) < E.2.1 w (sv s w))
noncomputable def bcN (E : SE) (s : List Int) (r : Int) : Nat → Int
  | 0 => -1
  | k + 1 => br (E.2.1 (k : Int) (sv s (k : Int)) ≤ r ∧ (bcN E s r k = -1 ∨ bet E s (k : Int) (bcN E s r k))) (k : Int) (bcN E s r k)
theorem lwN_r {E : SE} (ok : okE E) {s : List Int} {p : Int} : ∀ k : Nat, k ≤ E.1 → 0 ≤ lwN E s p k ∧ lwN E s p k ≤ 9 * k := by
  intro k
  induction k with
  | zero => intro _; exact ⟨Int.le_refl _, Int.le_refl _⟩
  | succ k ih =>
    intro hk1
    have h1 := ih (by omega)
    have h2 := ok.2.2.2 k (by omega)
    show 0 ≤ lwN E s p k + br (rch E s (k : Int) p) (E.2.2.1 k) 0 ∧ lwN E s p k + br (rch E s (k : Int) p) (E.2.2.1 k) 0 ≤ _
    by_cases c : rch E s (k : Int) p
    · rw [bc_t c]; omega
    · rw [bc_f c]; omega
theorem wpN_r {E : SE} {s : List Int} {c : Int} : ∀ k : Nat, -1 ≤ wpN E s c k ∧ wpN E s c k < k := by
  intro k
  induction k with
  | zero => exact ⟨by show (-1 : Int) ≤ -1; omega, by show (-1 : Int) < 0; omega⟩
  | succ k ih =>
    show -1 ≤ br _ _ _ ∧ br _ _ _ < _
    by_cases z : (k : Int) ≠ c ∧ (wpN E s c k = -1 ∨ lw E s (wpN E s c k) < lw E s (k : Int))
    · rw [bc_t z]; omega
    · rw [bc_f z]; omega
theorem bcN_r {E : SE} {s : List Int} {r : Int} : ∀ k : Nat, -1 ≤ bcN E s r k ∧ bcN E s r k < k := by
  intro k
  induction k with
  | zero => exact ⟨by show (-1 : Int) ≤ -1; omega, by show (-1 : Int) < 0; omega⟩
  | succ k ih =>
    show -1 ≤ br _ _ _ ∧ br _ _ _ < _
    by_cases z : E.2.1 (k : Int) (sv s (k : Int)) ≤ r ∧ (bcN E s r k = -1 ∨ bet E s (k : Int) (bcN E s r k))
    · rw [bc_t z]; omega
    · rw [bc_f z]; omega
theorem wl_r {E : SE} (ok : okE E) {s : List Int} {c : Int} : 0 ≤ wl E s c ∧ wl E s c ≤ 54 := by
  have hn := ok.1
  unfold wl
  by_cases z : wpN E s c E.1 = -1
  · rw [bc_t z]; omega
  · rw [bc_f z]
    have := lwN_r ok (s := s) (p := wpN E s c E.1) E.1 (Nat.le_refl _)
    unfold lw; omega
/-- a store is found, and the class holds it -/
def kFd (h : AH) (l : Nat) (E : SE) (s : List Int) : Prop := kE h l E ∧ ah_F h l 9 = 1 ∧ sR E.1 s ∧ ∀ j : Int, 0 ≤ j → j < E.1 → ah_I h (l + 7) j = sv s j
theorem q2_isRemadeBy {h : AH} {l : Nat} {E : SE} {s : List Int} (hF : kFd h l E s) (ok : okE E) {i p : Int} (hi : 0 ≤ i ∧ i < E.1) (hp : 0 ≤ p ∧ p < E.1) : X2_isRemadeBy l i p h = some (br (rch E s i p) 1 0, h) := by
  obtain ⟨hE, f10, hs, ha⟩ := hF
  obtain ⟨⟨t0, ⟨p2, p3, p4, p6, p7, p8, p9⟩, ⟨t1, t2, t3, t5, t6, t7, t8⟩, ⟨n1, n2, n3, n5, n6, n7, n8⟩⟩, ⟨f0, f1⟩, k3, k4, k5⟩ := id hE
  have hn := ok.1
  have hL := lp_inv (F := X2_isRemadeBy_L5 l p) (fun t h' => h' = h ∧ ∃ k : Nat, t = (itc s (E.1 : Int) k i, (k : Int)) ∧ k ≤ E.1 ∧ ∀ q : Nat, q < k → itc s (E.1 : Int) q i ≠ p) (fun t => ((E.1 : Int) - t.2).toNat) (fun r h' => h' = h ∧ r = br (rch E s i p) 1 0) ?_ mo_N (i, 0) h ⟨rfl, 0, rfl, by omega, fun q hq => by omega⟩ (by rw [mo_N_v]; dsimp only; omega)
  · obtain ⟨r, h', e1, rfl, rfl⟩ := hL
    exact e1
  · rintro t h' ⟨rfl, k, rfl, kb, hq⟩
    have hr := itc_r hs k i (by omega) hi.2
    by_cases ck : k < E.1
    · by_cases cv : 0 ≤ itc s (E.1 : Int) k i ∧ itc s (E.1 : Int) k i < E.1
      · by_cases ce : itc s (E.1 : Int) k i = p
        · right
          refine ⟨1, h', by simp (disch := omega) only [X2_isRemadeBy_L5, rr_p, rr_bp, rr_bb, rr_0, rr_lt, rr_blt, rr_le, rr_ble, rr_eq, rr_beq, rr_nl_n, rr_nl_s, rr_bnl_n, rr_bnl_s, rr_cond_t, rr_cond_f, rr_bcond_t, rr_bcond_f, rr_bon, rr_bcv, rr_cv, rr_g, rr_gr, rr_si, rr_sz, rr_sr, rr_al, rr_ld, rr_st, rr_rl, rr_rs, rr_ni, rr_nr, rr_z, rr_div, rr_rem, rr_lc, rr_mx, rr_mn, rr_ab, rr_no, gd_t, bc_t, bc_f, gd_tt, bc_tt, bc_ff, or_true, true_or, and_true, true_and, Nat.reduceAdd, f0], rfl, ?_⟩
          rw [bc_t ⟨k, ck, ce⟩]
        · left
          have e1 := ha _ cv.1 cv.2
          have e2 : itc s (E.1 : Int) (k + 1) i = sv s (itc s (E.1 : Int) k i) := by rw [itc_add, itc_i cv]; rfl
          refine ⟨(itc s (E.1 : Int) (k + 1) i, ((k + 1 : Nat) : Int)), h', ?_, ⟨rfl, k + 1, rfl, by omega, fun q hq2 => ?_⟩, by dsimp only; omega⟩
          · rw [e2]
            simp (disch := omega) only [X2_isRemadeBy_L5, rr_p, rr_bp, rr_bb, rr_0, rr_lt, rr_blt, rr_le, rr_ble, rr_eq, rr_beq, rr_nl_n, rr_nl_s, rr_bnl_n, rr_bnl_s, rr_cond_t, rr_cond_f, rr_bcond_t, rr_bcond_f, rr_bon, rr_bcv, rr_cv, rr_g, rr_gr, rr_si, rr_sz, rr_sr, rr_al, rr_ld, rr_st, rr_rl, rr_rs, rr_ni, rr_nr, rr_z, rr_div, rr_rem, rr_lc, rr_mx, rr_mn, rr_ab, rr_no, gd_t, bc_t, bc_f, gd_tt, bc_tt, bc_ff, or_true, true_or, and_true, true_and, Nat.reduceAdd, f0, p9, e1, Int.natCast_add, Int.natCast_one]
          · by_cases z : q = k
            · rw [z]; exact ce
            · exact hq q (by omega)
      · right
        refine ⟨0, h', by simp (disch := omega) only [X2_isRemadeBy_L5, rr_p, rr_bp, rr_bb, rr_0, rr_lt, rr_blt, rr_le, rr_ble, rr_eq, rr_beq, rr_nl_n, rr_nl_s, rr_bnl_n, rr_bnl_s, rr_cond_t, rr_cond_f, rr_bcond_t, rr_bcond_f, rr_bon, rr_bcv, rr_cv, rr_g, rr_gr, rr_si, rr_sz, rr_sr, rr_al, rr_ld, rr_st, rr_rl, rr_rs, rr_ni, rr_nr, rr_z, rr_div, rr_rem, rr_lc, rr_mx, rr_mn, rr_ab, rr_no, gd_t, bc_t, bc_f, gd_tt, bc_tt, bc_ff, or_true, true_or, and_true, true_and, Nat.reduceAdd, f0], rfl, ?_⟩
        rw [bc_f]
        rintro ⟨q, q1, q2⟩
        by_cases z : q < k
        · exact hq q z q2
        · rw [itc_stay cv (by omega)] at q2; omega
    · right
      refine ⟨0, h', by simp (disch := omega) only [X2_isRemadeBy_L5, rr_p, rr_bp, rr_bb, rr_0, rr_lt, rr_blt, rr_le, rr_ble, rr_eq, rr_beq, rr_nl_n, rr_nl_s, rr_bnl_n, rr_bnl_s, rr_cond_t, rr_cond_f, rr_bcond_t, rr_bcond_f, rr_bon, rr_bcv, rr_cv, rr_g, rr_gr, rr_si, rr_sz, rr_sr, rr_al, rr_ld, rr_st, rr_rl, rr_rs, rr_ni, rr_nr, rr_z, rr_div, rr_rem, rr_lc, rr_mx, rr_mn, rr_ab, rr_no, gd_t, bc_t, bc_f, gd_tt, bc_tt, bc_ff, or_true, true_or, and_true, true_and, Nat.reduceAdd, f0], rfl, ?_⟩
      rw [bc_f]
      rintro ⟨q, q1, q2⟩
      exact hq q (by omega) q2
theorem q2_lostWith {h : AH} {l : Nat} {E : SE} {s : List Int} (hF : kFd h l E s) (ok : okE E) {p : Int} (hp : 0 ≤ p ∧ p < E.1) : X2_lostWith l p h = some (lw E s p, h) := by
  obtain ⟨hE, f10, hs, ha⟩ := id hF
  obtain ⟨⟨t0, ⟨p2, p3, p4, -⟩, ⟨t1, t2, t3, -⟩, ⟨n1, n2, n3, -⟩⟩, ⟨f0, f1⟩, k3, k4, k5⟩ := id hE
  have hn := ok.1
  have hs2 := lp_seq (F := X2_lostWith_L4 l p) (fun k : Nat => (lwN E s p k, (k : Int))) (fun _ => h) E.1 (b := lw E s p) (hE := h) ?_ ?_ mo_N (by rw [mo_N_v]; omega)
  · have hs2 : mo_lp mo_N (X2_lostWith_L4 l p) (0, 0) h = _ := hs2
    simp (disch := omega) only [X2_lostWith, rr_p, rr_bp, rr_bb, rr_0, rr_lt, rr_blt, rr_le, rr_ble, rr_eq, rr_beq, rr_nl_n, rr_nl_s, rr_bnl_n, rr_bnl_s, rr_cond_t, rr_cond_f, rr_bcond_t, rr_bcond_f, rr_bon, rr_bcv, rr_cv, rr_g, rr_gr, rr_si, rr_sz, rr_sr, rr_al, rr_ld, rr_st, rr_rl, rr_rs, rr_ni, rr_nr, rr_z, rr_div, rr_rem, rr_lc, rr_mx, rr_mn, rr_ab, rr_no, gd_t, bc_t, bc_f, gd_tt, bc_tt, bc_ff, or_true, true_or, and_true, true_and, Nat.reduceAdd, mo_b_s hs2]
  · intro k hk1
    have e1 := q2_isRemadeBy hF ok (i := (k : Int)) (p := p) (by omega) hp
    have w := k5 k hk1
    show X2_lostWith_L4 l p (lwN E s p k, (k : Int)) h = some (.inl (lwN E s p k + br (rch E s (k : Int) p) (E.2.2.1 k) 0, ((k + 1 : Nat) : Int)), h)
    by_cases c : rch E s (k : Int) p
    · rw [bc_t c] at e1 ⊢
      simp (disch := omega) only [X2_lostWith_L4, rr_p, rr_bp, rr_bb, rr_0, rr_lt, rr_blt, rr_le, rr_ble, rr_eq, rr_beq, rr_nl_n, rr_nl_s, rr_bnl_n, rr_bnl_s, rr_cond_t, rr_cond_f, rr_bcond_t, rr_bcond_f, rr_bon, rr_bcv, rr_cv, rr_g, rr_gr, rr_si, rr_sz, rr_sr, rr_al, rr_ld, rr_st, rr_rl, rr_rs, rr_ni, rr_nr, rr_z, rr_div, rr_rem, rr_lc, rr_mx, rr_mn, rr_ab, rr_no, gd_t, bc_t, bc_f, gd_tt, bc_tt, bc_ff, or_true, true_or, and_true, true_and, Nat.reduceAdd, f0, mo_b_s e1, p4, w, Int.natCast_add, Int.natCast_one]
    · rw [bc_f c] at e1 ⊢
      simp (disch := omega) only [X2_lostWith_L4, rr_p, rr_bp, rr_bb, rr_0, rr_lt, rr_blt, rr_le, rr_ble, rr_eq, rr_beq, rr_nl_n, rr_nl_s, rr_bnl_n, rr_bnl_s, rr_cond_t, rr_cond_f, rr_bcond_t, rr_bcond_f, rr_bon, rr_bcv, rr_cv, rr_g, rr_gr, rr_si, rr_sz, rr_sr, rr_al, rr_ld, rr_st, rr_rl, rr_rs, rr_ni, rr_nr, rr_z, rr_div, rr_rem, rr_lc, rr_mx, rr_mn, rr_ab, rr_no, gd_t, bc_t, bc_f, gd_tt, bc_tt, bc_ff, or_true, true_or, and_true, true_and, Nat.reduceAdd, f0, mo_b_s e1, Int.natCast_add, Int.natCast_one]
  · simp (disch := omega) only [X2_lostWith_L4, rr_p, rr_bp, rr_bb, rr_0, rr_lt, rr_blt, rr_le, rr_ble, rr_eq, rr_beq, rr_nl_n, rr_nl_s, rr_bnl_n, rr_bnl_s, rr_cond_t, rr_cond_f, rr_bcond_t, rr_bcond_f, rr_bon, rr_bcv, rr_cv, rr_g, rr_gr, rr_si, rr_sz, rr_sr, rr_al, rr_ld, rr_st, rr_rl, rr_rs, rr_ni, rr_nr, rr_z, rr_div, rr_rem, rr_lc, rr_mx, rr_mn, rr_ab, rr_no, gd_t, bc_t, bc_f, gd_tt, bc_tt, bc_ff, or_true, true_or, and_true, true_and, Nat.reduceAdd, f0]; rfl
theorem q2_worstPiece {h : AH} {l : Nat} {E : SE} {s : List Int} (hF : kFd h l E s) (ok : okE E) {c : Int} (hc : -1 ≤ c ∧ c < E.1) : X2_worstPiece l c h = some (wpN E s c E.1, h) := by
  obtain ⟨hE, f10, hs, ha⟩ := id hF
  have t0 := hE.1.1
  have f0 := hE.2.1.1
  have hn := ok.1
  have hs2 := lp_seq (F := X2_worstPiece_L4 l c) (fun k : Nat => (wpN E s c k, (k : Int))) (fun _ => h) E.1 (b := wpN E s c E.1) (hE := h) ?_ ?_ mo_N (by rw [mo_N_v]; omega)
  · have hs2 : mo_lp mo_N (X2_worstPiece_L4 l c) (-1, 0) h = _ := hs2
    simp (disch := omega) only [X2_worstPiece, rr_p, rr_bp, rr_bb, rr_0, rr_lt, rr_blt, rr_le, rr_ble, rr_eq, rr_beq, rr_nl_n, rr_nl_s, rr_bnl_n, rr_bnl_s, rr_cond_t, rr_cond_f, rr_bcond_t, rr_bcond_f, rr_bon, rr_bcv, rr_cv, rr_g, rr_gr, rr_si, rr_sz, rr_sr, rr_al, rr_ld, rr_st, rr_rl, rr_rs, rr_ni, rr_nr, rr_z, rr_div, rr_rem, rr_lc, rr_mx, rr_mn, rr_ab, rr_no, gd_t, bc_t, bc_f, gd_tt, bc_tt, bc_ff, or_true, true_or, and_true, true_and, Nat.reduceAdd, mo_b_s hs2]
  · intro k hk1
    have wr := @wpN_r E s c k
    show X2_worstPiece_L4 l c (wpN E s c k, (k : Int)) h = some (.inl (br ((k : Int) ≠ c ∧ (wpN E s c k = -1 ∨ lw E s (wpN E s c k) < lw E s (k : Int))) (k : Int) (wpN E s c k), ((k + 1 : Nat) : Int)), h)
    by_cases c1 : (k : Int) = c
    · rw [bc_f (fun z => z.1 c1)]
      simp (disch := omega) only [X2_worstPiece_L4, rr_p, rr_bp, rr_bb, rr_0, rr_lt, rr_blt, rr_le, rr_ble, rr_eq, rr_beq, rr_nl_n, rr_nl_s, rr_bnl_n, rr_bnl_s, rr_cond_t, rr_cond_f, rr_bcond_t, rr_bcond_f, rr_bon, rr_bcv, rr_cv, rr_g, rr_gr, rr_si, rr_sz, rr_sr, rr_al, rr_ld, rr_st, rr_rl, rr_rs, rr_ni, rr_nr, rr_z, rr_div, rr_rem, rr_lc, rr_mx, rr_mn, rr_ab, rr_no, gd_t, bc_t, bc_f, gd_tt, bc_tt, bc_ff, or_true, true_or, and_true, true_and, Nat.reduceAdd, f0, f10, Int.natCast_add, Int.natCast_one]
    · by_cases c2 : wpN E s c k = -1
      · rw [bc_t ⟨c1, Or.inl c2⟩]
        simp (disch := omega) only [X2_worstPiece_L4, rr_p, rr_bp, rr_bb, rr_0, rr_lt, rr_blt, rr_le, rr_ble, rr_eq, rr_beq, rr_nl_n, rr_nl_s, rr_bnl_n, rr_bnl_s, rr_cond_t, rr_cond_f, rr_bcond_t, rr_bcond_f, rr_bon, rr_bcv, rr_cv, rr_g, rr_gr, rr_si, rr_sz, rr_sr, rr_al, rr_ld, rr_st, rr_rl, rr_rs, rr_ni, rr_nr, rr_z, rr_div, rr_rem, rr_lc, rr_mx, rr_mn, rr_ab, rr_no, gd_t, bc_t, bc_f, gd_tt, bc_tt, bc_ff, or_true, true_or, and_true, true_and, Nat.reduceAdd, f0, f10, Int.natCast_add, Int.natCast_one]
      · have e1 := q2_lostWith hF ok (p := (k : Int)) (by omega)
        have e2 := q2_lostWith hF ok (p := wpN E s c k) (by omega)
        have r1 := lwN_r ok (s := s) (p := (k : Int)) E.1 (Nat.le_refl _)
        have r2 := lwN_r ok (s := s) (p := wpN E s c k) E.1 (Nat.le_refl _)
        have r1 : 0 ≤ lw E s (k : Int) ∧ lw E s (k : Int) ≤ 9 * E.1 := r1
        have r2 : 0 ≤ lw E s (wpN E s c k) ∧ lw E s (wpN E s c k) ≤ 9 * E.1 := r2
        by_cases c3 : lw E s (wpN E s c k) < lw E s (k : Int)
        · rw [bc_t ⟨c1, Or.inr c3⟩]
          simp (disch := omega) only [X2_worstPiece_L4, rr_p, rr_bp, rr_bb, rr_0, rr_lt, rr_blt, rr_le, rr_ble, rr_eq, rr_beq, rr_nl_n, rr_nl_s, rr_bnl_n, rr_bnl_s, rr_cond_t, rr_cond_f, rr_bcond_t, rr_bcond_f, rr_bon, rr_bcv, rr_cv, rr_g, rr_gr, rr_si, rr_sz, rr_sr, rr_al, rr_ld, rr_st, rr_rl, rr_rs, rr_ni, rr_nr, rr_z, rr_div, rr_rem, rr_lc, rr_mx, rr_mn, rr_ab, rr_no, gd_t, bc_t, bc_f, gd_tt, bc_tt, bc_ff, or_true, true_or, and_true, true_and, Nat.reduceAdd, f0, f10, mo_b_s e1, mo_b_s e2, Int.natCast_add, Int.natCast_one]
        · rw [bc_f (fun z => by
            rcases z.2 with z | z
            · exact c2 z
            · exact c3 z)]
          simp (disch := omega) only [X2_worstPiece_L4, rr_p, rr_bp, rr_bb, rr_0, rr_lt, rr_blt, rr_le, rr_ble, rr_eq, rr_beq, rr_nl_n, rr_nl_s, rr_bnl_n, rr_bnl_s, rr_cond_t, rr_cond_f, rr_bcond_t, rr_bcond_f, rr_bon, rr_bcv, rr_cv, rr_g, rr_gr, rr_si, rr_sz, rr_sr, rr_al, rr_ld, rr_st, rr_rl, rr_rs, rr_ni, rr_nr, rr_z, rr_div, rr_rem, rr_lc, rr_mx, rr_mn, rr_ab, rr_no, gd_t, bc_t, bc_f, gd_tt, bc_tt, bc_ff, or_true, true_or, and_true, true_and, Nat.reduceAdd, f0, f10, mo_b_s e1, mo_b_s e2, Int.natCast_add, Int.natCast_one]
  · simp (disch := omega) only [X2_worstPiece_L4, rr_p, rr_bp, rr_bb, rr_0, rr_lt, rr_blt, rr_le, rr_ble, rr_eq, rr_beq, rr_nl_n, rr_nl_s, rr_bnl_n, rr_bnl_s, rr_cond_t, rr_cond_f, rr_bcond_t, rr_bcond_f, rr_bon, rr_bcv, rr_cv, rr_g, rr_gr, rr_si, rr_sz, rr_sr, rr_al, rr_ld, rr_st, rr_rl, rr_rs, rr_ni, rr_nr, rr_z, rr_div, rr_rem, rr_lc, rr_mx, rr_mn, rr_ab, rr_no, gd_t, bc_t, bc_f, gd_tt, bc_tt, bc_ff, or_true, true_or, and_true, true_and, Nat.reduceAdd, f0, f10]
theorem q2_worstLossBut {h : AH} {l : Nat} {E : SE} {s : List Int} (hF : kFd h l E s) (ok : okE E) {c : Int} (hc : -1 ≤ c ∧ c < E.1) : X2_worstLossBut l c h = some (wl E s c, h) := by
  have t0 := hF.1.1.1
  have hn := ok.1
  have e1 := q2_worstPiece hF ok hc
  have wr := @wpN_r E s c E.1
  unfold wl
  by_cases c2 : wpN E s c E.1 = -1
  · rw [bc_t c2]
    simp (disch := omega) only [X2_worstLossBut, rr_p, rr_bp, rr_bb, rr_0, rr_lt, rr_blt, rr_le, rr_ble, rr_eq, rr_beq, rr_nl_n, rr_nl_s, rr_bnl_n, rr_bnl_s, rr_cond_t, rr_cond_f, rr_bcond_t, rr_bcond_f, rr_bon, rr_bcv, rr_cv, rr_g, rr_gr, rr_si, rr_sz, rr_sr, rr_al, rr_ld, rr_st, rr_rl, rr_rs, rr_ni, rr_nr, rr_z, rr_div, rr_rem, rr_lc, rr_mx, rr_mn, rr_ab, rr_no, gd_t, bc_t, bc_f, gd_tt, bc_tt, bc_ff, or_true, true_or, and_true, true_and, Nat.reduceAdd, mo_b_s e1]
  · rw [bc_f c2]
    have e2 := q2_lostWith hF ok (p := wpN E s c E.1) (by omega)
    simp (disch := omega) only [X2_worstLossBut, rr_p, rr_bp, rr_bb, rr_0, rr_lt, rr_blt, rr_le, rr_ble, rr_eq, rr_beq, rr_nl_n, rr_nl_s, rr_bnl_n, rr_bnl_s, rr_cond_t, rr_cond_f, rr_bcond_t, rr_bcond_f, rr_bon, rr_bcv, rr_cv, rr_g, rr_gr, rr_si, rr_sz, rr_sr, rr_al, rr_ld, rr_st, rr_rl, rr_rs, rr_ni, rr_nr, rr_z, rr_div, rr_rem, rr_lc, rr_mx, rr_mn, rr_ab, rr_no, gd_t, bc_t, bc_f, gd_tt, bc_tt, bc_ff, or_true, true_or, and_true, true_and, Nat.reduceAdd, mo_b_s e1, mo_b_s e2]
theorem q2_bestPieceRoom {h : AH} {l : Nat} {E : SE} {s : List Int} (hF : kFd h l E s) (ok : okE E) {i : Int} (hi : 0 ≤ i ∧ i < E.1) : X2_bestPieceRoom l i h = some (E.2.1 i (sv s i), h) := by
  obtain ⟨hE, f10, hs, ha⟩ := id hF
  obtain ⟨⟨t0, ⟨p2, p3, p4, p6, p7, p8, p9⟩, ⟨t1, t2, t3, t5, t6, t7, t8⟩, ⟨n1, n2, n3, n5, n6, n7, n8⟩⟩, ⟨f0, f1⟩, k3, k4, k5⟩ := id hE
  have hn := ok.1
  have hr := hs.2 i hi.1 hi.2
  have e1 := ha i hi.1 hi.2
  have e2 := q2_pieceRoom hE ok hi.1 hi.2 hr.1 hr.2.1
  simp (disch := omega) only [X2_bestPieceRoom, rr_p, rr_bp, rr_bb, rr_0, rr_lt, rr_blt, rr_le, rr_ble, rr_eq, rr_beq, rr_nl_n, rr_nl_s, rr_bnl_n, rr_bnl_s, rr_cond_t, rr_cond_f, rr_bcond_t, rr_bcond_f, rr_bon, rr_bcv, rr_cv, rr_g, rr_gr, rr_si, rr_sz, rr_sr, rr_al, rr_ld, rr_st, rr_rl, rr_rs, rr_ni, rr_nr, rr_z, rr_div, rr_rem, rr_lc, rr_mx, rr_mn, rr_ab, rr_no, gd_t, bc_t, bc_f, gd_tt, bc_tt, bc_ff, or_true, true_or, and_true, true_and, Nat.reduceAdd, p9, e1, mo_b_s e2]
theorem q2_bestCopy {h : AH} {l : Nat} {E : SE} {s : List Int} (hF : kFd h l E s) (ok : okE E) {r : Int} (hr : 0 ≤ r ∧ r ≤ 99) : X2_bestCopy l r h = some (bcN E s r E.1, h) := by
  obtain ⟨hE, f10, hs, ha⟩ := id hF
  have t0 := hE.1.1
  have f0 := hE.2.1.1
  have hn := ok.1
  have hs2 := lp_seq (F := X2_bestCopy_L4 l r) (fun k : Nat => (bcN E s r k, (k : Int))) (fun _ => h) E.1 (b := bcN E s r E.1) (hE := h) ?_ ?_ mo_N (by rw [mo_N_v]; omega)
  · have hs2 : mo_lp mo_N (X2_bestCopy_L4 l r) (-1, 0) h = _ := hs2
    simp (disch := omega) only [X2_bestCopy, rr_p, rr_bp, rr_bb, rr_0, rr_lt, rr_blt, rr_le, rr_ble, rr_eq, rr_beq, rr_nl_n, rr_nl_s, rr_bnl_n, rr_bnl_s, rr_cond_t, rr_cond_f, rr_bcond_t, rr_bcond_f, rr_bon, rr_bcv, rr_cv, rr_g, rr_gr, rr_si, rr_sz, rr_sr, rr_al, rr_ld, rr_st, rr_rl, rr_rs, rr_ni, rr_nr, rr_z, rr_div, rr_rem, rr_lc, rr_mx, rr_mn, rr_ab, rr_no, gd_t, bc_t, bc_f, gd_tt, bc_tt, bc_ff, or_true, true_or, and_true, true_and, Nat.reduceAdd, mo_b_s hs2]
  · intro k hk1
    have wr := @bcN_r E s r k
    have e0 := q2_bestPieceRoom hF ok (i := (k : Int)) (by omega)
    have hk2 := hs.2 (k : Int) (by omega) (by omega)
    have pr := ok.2.2.1 (k : Int) (sv s (k : Int)) (by omega) (by omega) hk2.1 hk2.2.1
    show X2_bestCopy_L4 l r (bcN E s r k, (k : Int)) h = some (.inl (br (E.2.1 (k : Int) (sv s (k : Int)) ≤ r ∧ (bcN E s r k = -1 ∨ bet E s (k : Int) (bcN E s r k))) (k : Int) (bcN E s r k), ((k + 1 : Nat) : Int)), h)
    by_cases c1 : E.2.1 (k : Int) (sv s (k : Int)) ≤ r
    · by_cases c2 : bcN E s r k = -1
      · rw [bc_t ⟨c1, Or.inl c2⟩]
        simp (disch := omega) only [X2_bestCopy_L4, rr_p, rr_bp, rr_bb, rr_0, rr_lt, rr_blt, rr_le, rr_ble, rr_eq, rr_beq, rr_nl_n, rr_nl_s, rr_bnl_n, rr_bnl_s, rr_cond_t, rr_cond_f, rr_bcond_t, rr_bcond_f, rr_bon, rr_bcv, rr_cv, rr_g, rr_gr, rr_si, rr_sz, rr_sr, rr_al, rr_ld, rr_st, rr_rl, rr_rs, rr_ni, rr_nr, rr_z, rr_div, rr_rem, rr_lc, rr_mx, rr_mn, rr_ab, rr_no, gd_t, bc_t, bc_f, gd_tt, bc_tt, bc_ff, or_true, true_or, and_true, true_and, Nat.reduceAdd, f0, f10, mo_b_s e0, Int.natCast_add, Int.natCast_one]
      · have hw2 := hs.2 (bcN E s r k) (by omega) (by omega)
        have pw := ok.2.2.1 (bcN E s r k) (sv s (bcN E s r k)) (by omega) (by omega) hw2.1 hw2.2.1
        have e1 := q2_worstLossBut hF ok (c := (k : Int)) (by omega)
        have e2 := q2_worstLossBut hF ok (c := bcN E s r k) (by omega)
        have e3 := q2_bestPieceRoom hF ok (i := bcN E s r k) (by omega)
        have r1 := wl_r ok (s := s) (c := (k : Int))
        have r2 := wl_r ok (s := s) (c := bcN E s r k)
        have e4 : X2_isBetterCopy l (k : Int) (bcN E s r k) h = some (br (bet E s (k : Int) (bcN E s r k)) 1 0, h) := by
          by_cases d1 : wl E s (k : Int) < wl E s (bcN E s r k)
          · rw [bc_t (show bet E s (k : Int) (bcN E s r k) from Or.inl d1)]
            simp (disch := omega) only [X2_isBetterCopy, rr_p, rr_bp, rr_bb, rr_0, rr_lt, rr_blt, rr_le, rr_ble, rr_eq, rr_beq, rr_nl_n, rr_nl_s, rr_bnl_n, rr_bnl_s, rr_cond_t, rr_cond_f, rr_bcond_t, rr_bcond_f, rr_bon, rr_bcv, rr_cv, rr_g, rr_gr, rr_si, rr_sz, rr_sr, rr_al, rr_ld, rr_st, rr_rl, rr_rs, rr_ni, rr_nr, rr_z, rr_div, rr_rem, rr_lc, rr_mx, rr_mn, rr_ab, rr_no, gd_t, bc_t, bc_f, gd_tt, bc_tt, bc_ff, or_true, true_or, and_true, true_and, Nat.reduceAdd, mo_b_s e1, mo_b_s e2]
          · by_cases d2 : wl E s (k : Int) = wl E s (bcN E s r k)
            · by_cases d3 : E.2.1 (k : Int) (sv s (k : Int)) < E.2.1 (bcN E s r k) (sv s (bcN E s r k))
              · rw [bc_t (show bet E s (k : Int) (bcN E s r k) from Or.inr ⟨d2, d3⟩)]
                simp (disch := omega) only [X2_isBetterCopy, rr_p, rr_bp, rr_bb, rr_0, rr_lt, rr_blt, rr_le, rr_ble, rr_eq, rr_beq, rr_nl_n, rr_nl_s, rr_bnl_n, rr_bnl_s, rr_cond_t, rr_cond_f, rr_bcond_t, rr_bcond_f, rr_bon, rr_bcv, rr_cv, rr_g, rr_gr, rr_si, rr_sz, rr_sr, rr_al, rr_ld, rr_st, rr_rl, rr_rs, rr_ni, rr_nr, rr_z, rr_div, rr_rem, rr_lc, rr_mx, rr_mn, rr_ab, rr_no, gd_t, bc_t, bc_f, gd_tt, bc_tt, bc_ff, or_true, true_or, and_true, true_and, Nat.reduceAdd, mo_b_s e1, mo_b_s e2, mo_b_s e0, mo_b_s e3]
              · rw [bc_f (show ¬ bet E s (k : Int) (bcN E s r k) from fun z => by
                  rcases z with z | z
                  · exact d1 z
                  · exact d3 z.2)]
                simp (disch := omega) only [X2_isBetterCopy, rr_p, rr_bp, rr_bb, rr_0, rr_lt, rr_blt, rr_le, rr_ble, rr_eq, rr_beq, rr_nl_n, rr_nl_s, rr_bnl_n, rr_bnl_s, rr_cond_t, rr_cond_f, rr_bcond_t, rr_bcond_f, rr_bon, rr_bcv, rr_cv, rr_g, rr_gr, rr_si, rr_sz, rr_sr, rr_al, rr_ld, rr_st, rr_rl, rr_rs, rr_ni, rr_nr, rr_z, rr_div, rr_rem, rr_lc, rr_mx, rr_mn, rr_ab, rr_no, gd_t, bc_t, bc_f, gd_tt, bc_tt, bc_ff, or_true, true_or, and_true, true_and, Nat.reduceAdd, mo_b_s e1, mo_b_s e2, mo_b_s e0, mo_b_s e3]
            · rw [bc_f (show ¬ bet E s (k : Int) (bcN E s r k) from fun z => by
                rcases z with z | z
                · exact d1 z
                · exact d2 z.1)]
              simp (disch := omega) only [X2_isBetterCopy, rr_p, rr_bp, rr_bb, rr_0, rr_lt, rr_blt, rr_le, rr_ble, rr_eq, rr_beq, rr_nl_n, rr_nl_s, rr_bnl_n, rr_bnl_s, rr_cond_t, rr_cond_f, rr_bcond_t, rr_bcond_f, rr_bon, rr_bcv, rr_cv, rr_g, rr_gr, rr_si, rr_sz, rr_sr, rr_al, rr_ld, rr_st, rr_rl, rr_rs, rr_ni, rr_nr, rr_z, rr_div, rr_rem, rr_lc, rr_mx, rr_mn, rr_ab, rr_no, gd_t, bc_t, bc_f, gd_tt, bc_tt, bc_ff, or_true, true_or, and_true, true_and, Nat.reduceAdd, mo_b_s e1, mo_b_s e2]
        by_cases c3 : bet E s (k : Int) (bcN E s r k)
        · rw [bc_t c3] at e4
          rw [bc_t ⟨c1, Or.inr c3⟩]
          simp (disch := omega) only [X2_bestCopy_L4, rr_p, rr_bp, rr_bb, rr_0, rr_lt, rr_blt, rr_le, rr_ble, rr_eq, rr_beq, rr_nl_n, rr_nl_s, rr_bnl_n, rr_bnl_s, rr_cond_t, rr_cond_f, rr_bcond_t, rr_bcond_f, rr_bon, rr_bcv, rr_cv, rr_g, rr_gr, rr_si, rr_sz, rr_sr, rr_al, rr_ld, rr_st, rr_rl, rr_rs, rr_ni, rr_nr, rr_z, rr_div, rr_rem, rr_lc, rr_mx, rr_mn, rr_ab, rr_no, gd_t, bc_t, bc_f, gd_tt, bc_tt, bc_ff, or_true, true_or, and_true, true_and, Nat.reduceAdd, f0, f10, mo_b_s e0, mo_b_s e4, Int.natCast_add, Int.natCast_one]
        · rw [bc_f c3] at e4
          rw [bc_f (fun z => by
            rcases z.2 with z | z
            · exact c2 z
            · exact c3 z)]
          simp (disch := omega) only [X2_bestCopy_L4, rr_p, rr_bp, rr_bb, rr_0, rr_lt, rr_blt, rr_le, rr_ble, rr_eq, rr_beq, rr_nl_n, rr_nl_s, rr_bnl_n, rr_bnl_s, rr_cond_t, rr_cond_f, rr_bcond_t, rr_bcond_f, rr_bon, rr_bcv, rr_cv, rr_g, rr_gr, rr_si, rr_sz, rr_sr, rr_al, rr_ld, rr_st, rr_rl, rr_rs, rr_ni, rr_nr, rr_z, rr_div, rr_rem, rr_lc, rr_mx, rr_mn, rr_ab, rr_no, gd_t, bc_t, bc_f, gd_tt, bc_tt, bc_ff, or_true, true_or, and_true, true_and, Nat.reduceAdd, f0, f10, mo_b_s e0, mo_b_s e4, Int.natCast_add, Int.natCast_one]
    · rw [bc_f (fun z => c1 z.1)]
      simp (disch := omega) only [X2_bestCopy_L4, rr_p, rr_bp, rr_bb, rr_0, rr_lt, rr_blt, rr_le, rr_ble, rr_eq, rr_beq, rr_nl_n, rr_nl_s, rr_bnl_n, rr_bnl_s, rr_cond_t, rr_cond_f, rr_bcond_t, rr_bcond_f, rr_bon, rr_bcv, rr_cv, rr_g, rr_gr, rr_si, rr_sz, rr_sr, rr_al, rr_ld, rr_st, rr_rl, rr_rs, rr_ni, rr_nr, rr_z, rr_div, rr_rem, rr_lc, rr_mx, rr_mn, rr_ab, rr_no, gd_t, bc_t, bc_f, gd_tt, bc_tt, bc_ff, or_true, true_or, and_true, true_and, Nat.reduceAdd, f0, f10, mo_b_s e0, Int.natCast_add, Int.natCast_one]
  · simp (disch := omega) only [X2_bestCopy_L4, rr_p, rr_bp, rr_bb, rr_0, rr_lt, rr_blt, rr_le, rr_ble, rr_eq, rr_beq, rr_nl_n, rr_nl_s, rr_bnl_n, rr_bnl_s, rr_cond_t, rr_cond_f, rr_bcond_t, rr_bcond_f, rr_bon, rr_bcv, rr_cv, rr_g, rr_gr, rr_si, rr_sz, rr_sr, rr_al, rr_ld, rr_st, rr_rl, rr_rs, rr_ni, rr_nr, rr_z, rr_div, rr_rem, rr_lc, rr_mx, rr_mn, rr_ab, rr_no, gd_t, bc_t, bc_f, gd_tt, bc_tt, bc_ff, or_true, true_or, and_true, true_and, Nat.reduceAdd, f0, f10]
