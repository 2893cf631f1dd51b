theorem rmd_r {E : SE} (ok : okE E) {s : List Int} (hs : sR E.1 s) : ∀ (k : Nat) (v : Int), -1 ≤ v → v < E.1 → 0 ≤ rmd E s k v ∧ rmd E s k v ≤ 99 * k := by
  intro k
  induction k with
  | zero => intro v _ _; exact ⟨Int.le_refl _, Int.le_refl _⟩
  | succ k ih =>
    intro v h1 h2
    by_cases c : 0 ≤ v ∧ v < (E.1 : Int)
    · rw [rmd_i c]
      obtain ⟨a, b, -⟩ := hs.2 v c.1 c.2
      have h3 := ih (sv s v) a b
      have h4 := ok.2.2.1 v (sv s v) c.1 c.2 a b
      omega
    · rw [rmd_o c]; omega
theorem rmS_r {E : SE} (ok : okE E) {s : List Int} (hs : ∀ j : Int, 0 ≤ j → j < s.length → -1 ≤ sv s j ∧ sv s j < E.1) (hl : s.length ≤ E.1) : ∀ k : Nat, k ≤ s.length → 0 ≤ rmS E s k ∧ rmS E s k ≤ 99 * k := by
  intro k
  induction k with
  | zero => intro _; exact ⟨Int.le_refl _, Int.le_refl _⟩
  | succ k ih =>
    intro hk1
    have h1 := ih (by omega)
    obtain ⟨a, b⟩ := hs (k : Int) (by omega) (by omega)
    have h2 := ok.2.2.1 (k : Int) (sv s (k : Int)) (by omega) (by omega) a b
    show 0 ≤ rmS E s k + E.2.1 (k : Int) (sv s (k : Int)) ∧ rmS E s k + E.2.1 (k : Int) (sv s (k : Int)) ≤ _
    omega
theorem smS_r {E : SE} (ok : okE E) {s : List Int} (hs : sR E.1 s) : ∀ k : Nat, k ≤ E.1 → 0 ≤ smS E s k ∧ smS E s k ≤ 5400 * k := by
  intro k
  induction k with
  | zero => intro _; exact ⟨Int.le_refl _, Int.le_refl _⟩
  | succ k ih =>
    intro hk1
    have h1 := ih (by omega)
    have h2 := rmd_r ok hs E.1 (k : Int) (by omega) (by omega)
    have h3 := ok.2.2.2 k (by omega)
    have hn := ok.1
    have h4 := mul_r h3.1 h3.2 h2.1 (d := 600) (by omega)
    show 0 ≤ smS E s k + E.2.2.1 k * rmd E s E.1 (k : Int) ∧ smS E s k + E.2.2.1 k * rmd E s E.1 (k : Int) ≤ _
    omega
def kBst (h : AH) (l : Nat) (E : SE) (b : BS) : Prop := match b with
  | none => ah_F h l 9 = 0
  | some (r, m, s) => ah_F h l 9 = 1 ∧ ah_F h l 10 = r ∧ ah_F h l 11 = m ∧ ((0 ≤ r ∧ r ≤ 1000000) ∧ (0 ≤ m ∧ m ≤ 1000000)) ∧ ∀ j : Int, 0 ≤ j → j < E.1 → ah_I h (l + 7) j = sv s j
theorem kBst_fr {h h' : AH} {l lo hi : Nat} {E : SE} {b : BS} (hb : kBst h l E b) (f : FRM h h' lo hi) (hd : l < lo ∧ hi ≤ l + 7) : kBst h' l E b := by
  unfold kBst at hb ⊢
  rw [f.2.2.2.2.2.1 l (by omega), f.2.2.2.2.2.2 (l + 7) (by omega)]; exact hb
theorem q2_isLess {h : AH} {l : Nat} {E : SE} {b : BS} (t0 : ah_T h l = 12) (hb : kBst h l E b) {r m : Int} (hr : -1000000 ≤ r ∧ r ≤ 1000000) (hm : -1000000 ≤ m ∧ m ≤ 1000000) : X2_isLess l r m h = some (br (lsB r m b) 1 0, h) := by
  match b, hb with
  | none, hb =>
    have hb : ah_F h l 9 = 0 := hb
    rw [bc_t (show lsB r m none from trivial)]
    simp (disch := omega) only [X2_isLess, rr_p, rr_bp, rr_bb, rr_0, rr_lt, rr_blt, rr_le, rr_ble, rr_eq, rr_beq, rr_nl_n, rr_nl_s, rr_bnl_n, rr_bnl_s, rr_cond_t, rr_cond_f, rr_bcond_t, rr_bcond_f, rr_bon, rr_bcv, rr_cv, rr_g, rr_gr, rr_si, rr_sz, rr_sr, rr_al, rr_ld, rr_st, rr_rl, rr_rs, rr_ni, rr_nr, rr_z, rr_div, rr_rem, rr_lc, rr_mx, rr_mn, rr_ab, rr_no, gd_t, bc_t, bc_f, gd_tt, bc_tt, bc_ff, or_true, true_or, and_true, true_and, Nat.reduceAdd, hb]
  | some (r', m', s), hb =>
    obtain ⟨b1, b2, b3, ⟨b4, b5⟩, b6⟩ := hb
    by_cases c : r < r'
    · rw [bc_t (show lsB r m (some (r', m', s)) from Or.inl c)]
      simp (disch := omega) only [X2_isLess, rr_p, rr_bp, rr_bb, rr_0, rr_lt, rr_blt, rr_le, rr_ble, rr_eq, rr_beq, rr_nl_n, rr_nl_s, rr_bnl_n, rr_bnl_s, rr_cond_t, rr_cond_f, rr_bcond_t, rr_bcond_f, rr_bon, rr_bcv, rr_cv, rr_g, rr_gr, rr_si, rr_sz, rr_sr, rr_al, rr_ld, rr_st, rr_rl, rr_rs, rr_ni, rr_nr, rr_z, rr_div, rr_rem, rr_lc, rr_mx, rr_mn, rr_ab, rr_no, gd_t, bc_t, bc_f, gd_tt, bc_tt, bc_ff, or_true, true_or, and_true, true_and, Nat.reduceAdd, b1, b2]
    · by_cases c2 : r = r'
      · by_cases c3 : m < m'
        · rw [bc_t (show lsB r m (some (r', m', s)) from Or.inr ⟨c2, c3⟩)]
          simp (disch := omega) only [X2_isLess, rr_p, rr_bp, rr_bb, rr_0, rr_lt, rr_blt, rr_le, rr_ble, rr_eq, rr_beq, rr_nl_n, rr_nl_s, rr_bnl_n, rr_bnl_s, rr_cond_t, rr_cond_f, rr_bcond_t, rr_bcond_f, rr_bon, rr_bcv, rr_cv, rr_g, rr_gr, rr_si, rr_sz, rr_sr, rr_al, rr_ld, rr_st, rr_rl, rr_rs, rr_ni, rr_nr, rr_z, rr_div, rr_rem, rr_lc, rr_mx, rr_mn, rr_ab, rr_no, gd_t, bc_t, bc_f, gd_tt, bc_tt, bc_ff, or_true, true_or, and_true, true_and, Nat.reduceAdd, b1, b2, b3]
        · rw [bc_f (show ¬ lsB r m (some (r', m', s)) from fun z => by
            rcases z with z | z
            · exact c z
            · exact c3 z.2)]
          simp (disch := omega) only [X2_isLess, rr_p, rr_bp, rr_bb, rr_0, rr_lt, rr_blt, rr_le, rr_ble, rr_eq, rr_beq, rr_nl_n, rr_nl_s, rr_bnl_n, rr_bnl_s, rr_cond_t, rr_cond_f, rr_bcond_t, rr_bcond_f, rr_bon, rr_bcv, rr_cv, rr_g, rr_gr, rr_si, rr_sz, rr_sr, rr_al, rr_ld, rr_st, rr_rl, rr_rs, rr_ni, rr_nr, rr_z, rr_div, rr_rem, rr_lc, rr_mx, rr_mn, rr_ab, rr_no, gd_t, bc_t, bc_f, gd_tt, bc_tt, bc_ff, or_true, true_or, and_true, true_and, Nat.reduceAdd, b1, b2, b3]
      · rw [bc_f (show ¬ lsB r m (some (r', m', s)) from fun z => by
          rcases z with z | z
          · exact c z
          · exact c2 z.1)]
        simp (disch := omega) only [X2_isLess, rr_p, rr_bp, rr_bb, rr_0, rr_lt, rr_blt, rr_le, rr_ble, rr_eq, rr_beq, rr_nl_n, rr_nl_s, rr_bnl_n, rr_bnl_s, rr_cond_t, rr_cond_f, rr_bcond_t, rr_bcond_f, rr_bon, rr_bcv, rr_cv, rr_g, rr_gr, rr_si, rr_sz, rr_sr, rr_al, rr_ld, rr_st, rr_rl, rr_rs, rr_ni, rr_nr, rr_z, rr_div, rr_rem, rr_lc, rr_mx, rr_mn, rr_ab, rr_no, gd_t, bc_t, bc_f, gd_tt, bc_tt, bc_ff, or_true, true_or, and_true, true_and, Nat.reduceAdd, b1, b2]
theorem q2_remadeBy {h : AH} {l a : Nat} {E : SE} {s : List Int} (hE : kE h l E) (ok : okE E) (hs : sR E.1 s) (ta : ah_T h a = 1) (na : ah_N h a = 6) (ha : ∀ j : Int, 0 ≤ j → j < E.1 → ah_I h a j = sv s j) {i : Int} (h0 : 0 ≤ i) (h1 : i < E.1) : X2_remadeBy l (some a) i h = some (rmd E s E.1 i, h) := by
  have hn := ok.1
  have t0 := hE.1.1
  have f0 := hE.2.1.1
  have rr := rmd_r ok hs
  have hL := lp_inv (F := X2_remadeBy_L8 l (some a)) (fun t h' => h' = h ∧ ∃ (k : Nat) (v : Int), t.2.2 = (k : Int) ∧ t.2.1 = v ∧ k ≤ E.1 ∧ (-1 ≤ v ∧ v < E.1) ∧ t.1 + rmd E s (E.1 - k) v = rmd E s E.1 i ∧ 0 ≤ t.1) (fun t => ((E.1 : Int) - t.2.2).toNat) (fun r h' => h' = h ∧ r = rmd E s E.1 i) ?_ mo_N (0, i, 0) h ⟨rfl, 0, i, rfl, rfl, by omega, by omega, by dsimp only; rw [Nat.sub_zero]; omega, by dsimp only; omega⟩ (by rw [mo_N_v]; dsimp only; omega)
  · obtain ⟨r, h', e1, rfl, rfl⟩ := hL
    simp (disch := omega) only [X2_remadeBy, rr_p, rr_bp, rr_bb, rr_0, rr_lt, rr_blt, rr_le, rr_ble, rr_eq, rr_beq, rr_nl_n, rr_nl_s, rr_bnl_n, rr_bnl_s, rr_cond_t, rr_cond_f, rr_bcond_t, rr_bcond_f, rr_bon, rr_bcv, rr_cv, rr_g, rr_gr, rr_si, rr_sz, rr_sr, rr_al, rr_ld, rr_st, rr_rl, rr_rs, rr_ni, rr_nr, rr_z, rr_div, rr_rem, rr_lc, rr_mx, rr_mn, rr_ab, rr_no, gd_t, bc_t, bc_f, gd_tt, bc_tt, bc_ff, or_true, true_or, and_true, true_and, Nat.reduceAdd, mo_b_s e1]
  · rintro ⟨y1, y2, y3⟩ h' ⟨rfl, k, v, hk1, hv, k1, v1, hsum, y0⟩
    dsimp only at hk1 hv hsum y0 ⊢
    subst hk1 hv
    by_cases ck : k < E.1
    · by_cases cv : 0 ≤ y2 ∧ y2 < (E.1 : Int)
      · left
        obtain ⟨a1, a2, -⟩ := hs.2 y2 cv.1 cv.2
        have e1 := ha y2 cv.1 cv.2
        have e2 := q2_pieceRoom hE ok cv.1 cv.2 a1 a2
        obtain ⟨m, hm⟩ : ∃ m, E.1 - k = m + 1 := ⟨E.1 - k - 1, by omega⟩
        rw [hm, rmd_i cv] at hsum
        have p := ok.2.2.1 y2 (sv s y2) cv.1 cv.2 a1 a2
        refine ⟨(y1 + E.2.1 y2 (sv s y2), sv s y2, (k : Int) + 1), h', by simp (disch := omega) only [X2_remadeBy_L8, rr_p, rr_bp, rr_bb, rr_0, rr_lt, rr_blt, rr_le, rr_ble, rr_eq, rr_beq, rr_nl_n, rr_nl_s, rr_bnl_n, rr_bnl_s, rr_cond_t, rr_cond_f, rr_bcond_t, rr_bcond_f, rr_bon, rr_bcv, rr_cv, rr_g, rr_gr, rr_si, rr_sz, rr_sr, rr_al, rr_ld, rr_st, rr_rl, rr_rs, rr_ni, rr_nr, rr_z, rr_div, rr_rem, rr_lc, rr_mx, rr_mn, rr_ab, rr_no, gd_t, bc_t, bc_f, gd_tt, bc_tt, bc_ff, or_true, true_or, and_true, true_and, Nat.reduceAdd, f0, na, e1, mo_b_s e2], ⟨rfl, k + 1, sv s y2, by simp, rfl, by omega, ⟨a1, a2⟩, ?_, by dsimp only; omega⟩, by dsimp only; omega⟩
        rw [show E.1 - (k + 1) = m by omega]
        dsimp only; omega
      · right
        rw [rmd_o cv] at hsum
        exact ⟨y1, h', by simp (disch := omega) only [X2_remadeBy_L8, rr_p, rr_bp, rr_bb, rr_0, rr_lt, rr_blt, rr_le, rr_ble, rr_eq, rr_beq, rr_nl_n, rr_nl_s, rr_bnl_n, rr_bnl_s, rr_cond_t, rr_cond_f, rr_bcond_t, rr_bcond_f, rr_bon, rr_bcv, rr_cv, rr_g, rr_gr, rr_si, rr_sz, rr_sr, rr_al, rr_ld, rr_st, rr_rl, rr_rs, rr_ni, rr_nr, rr_z, rr_div, rr_rem, rr_lc, rr_mx, rr_mn, rr_ab, rr_no, gd_t, bc_t, bc_f, gd_tt, bc_tt, bc_ff, or_true, true_or, and_true, true_and, Nat.reduceAdd, f0], rfl, by omega⟩
    · right
      rw [show E.1 - k = 0 by omega] at hsum
      have hsum : y1 + 0 = rmd E s E.1 i := hsum
      exact ⟨y1, h', by simp (disch := omega) only [X2_remadeBy_L8, rr_p, rr_bp, rr_bb, rr_0, rr_lt, rr_blt, rr_le, rr_ble, rr_eq, rr_beq, rr_nl_n, rr_nl_s, rr_bnl_n, rr_bnl_s, rr_cond_t, rr_cond_f, rr_bcond_t, rr_bcond_f, rr_bon, rr_bcv, rr_cv, rr_g, rr_gr, rr_si, rr_sz, rr_sr, rr_al, rr_ld, rr_st, rr_rl, rr_rs, rr_ni, rr_nr, rr_z, rr_div, rr_rem, rr_lc, rr_mx, rr_mn, rr_ab, rr_no, gd_t, bc_t, bc_f, gd_tt, bc_tt, bc_ff, or_true, true_or, and_true, true_and, Nat.reduceAdd, f0], rfl, by omega⟩
theorem q2_takeIfLess {h : AH} {l : Nat} {E : SE} {s : List Int} {b : BS} (hE : kE h l E) (ok : okE E) (hs : sR E.1 s) (hacy : acy E s) (ha : ∀ j : Int, 0 ≤ j → j < E.1 → ah_I h (l + 6) j = sv s j) (hb : kBst h l E b) : ∃ h', X2_takeIfLess l (rmS E s E.1) h = some ((), h') ∧ kBst h' l E (updB E b s) ∧ LF l h h' ∧ ∀ k, 4 ≤ k → k < 7 → ah_I h' (l + k) = ah_I h (l + k) := by
  obtain ⟨⟨t0, ⟨p2, p3, p4, p6, p7, p8, p9⟩, ⟨t1, t2, t3, t5, t6, t7, t8⟩, ⟨n1, n2, n3, n5, n6, n7, n8⟩⟩, ⟨f0, f1⟩, k3, k4, k5⟩ := id hE
  have hn := ok.1
  have hbd := ok.2.1
  have rR := rmS_r (s := s) ok (fun j j0 j1 => by have := hs.2 j j0 (by have := hs.1; omega); omega) (by have := hs.1; omega) E.1 (by have := hs.1; omega)
  have rM := smS_r ok hs E.1 (Nat.le_refl _)
  have hL := lp_inv (F := X2_takeIfLess_L4 l (rmS E s E.1)) (fun t h' => h' = h ∧ ∃ k : Nat, t = (smS E s k, (k : Int)) ∧ k ≤ E.1 ∧ ∀ j : Int, 0 ≤ j → j < k → rmd E s E.1 j ≤ E.2.2.2) (fun t => ((E.1 : Int) - t.2).toNat) (fun _ h' => kBst h' l E (updB E b s) ∧ LF l h h' ∧ ∀ k, 4 ≤ k → k < 7 → ah_I h' (l + k) = ah_I h (l + k)) ?_ mo_N (0, 0) h ⟨rfl, 0, rfl, by omega, fun j j0 j1 => by omega⟩ (by rw [mo_N_v]; dsimp only; omega)
  · obtain ⟨_, h', e1, q⟩ := hL; exact ⟨h', e1, q⟩
  · rintro t h' ⟨rfl, k, rfl, kb, hk1⟩
    by_cases ck : k < E.1
    · have e1 := q2_remadeBy hE ok hs t7 n7 ha (i := (k : Int)) (by omega) (by omega)
      have r1 := rmd_r ok hs E.1 (k : Int) (by omega) (by omega)
      have w := k5 k ck
      by_cases cb : rmd E s E.1 (k : Int) ≤ E.2.2.2
      · left
        refine ⟨(smS E s (k + 1), ((k + 1 : Nat) : Int)), h', ?_, ⟨rfl, k + 1, rfl, by omega, fun j j0 j1 => ?_⟩, by dsimp only; omega⟩
        · simp (disch := omega) only [X2_takeIfLess_L4, rr_p, rr_bp, rr_bb, rr_0, rr_lt, rr_blt, rr_le, rr_ble, rr_eq, rr_beq, rr_nl_n, rr_nl_s, rr_bnl_n, rr_bnl_s, rr_cond_t, rr_cond_f, rr_bcond_t, rr_bcond_f, rr_bon, rr_bcv, rr_cv, rr_g, rr_gr, rr_si, rr_sz, rr_sr, rr_al, rr_ld, rr_st, rr_rl, rr_rs, rr_ni, rr_nr, rr_z, rr_div, rr_rem, rr_lc, rr_mx, rr_mn, rr_ab, rr_no, gd_t, bc_t, bc_f, gd_tt, bc_tt, bc_ff, or_true, true_or, and_true, true_and, Nat.reduceAdd, f0, f1, p4, p8, mo_b_s e1, w, Int.natCast_add, Int.natCast_one]
          rfl
        · by_cases z : j = (k : Int)
          · rw [z]; exact cb
          · exact hk1 j j0 (by omega)
      · right
        refine ⟨(), h', by simp (disch := omega) only [X2_takeIfLess_L4, rr_p, rr_bp, rr_bb, rr_0, rr_lt, rr_blt, rr_le, rr_ble, rr_eq, rr_beq, rr_nl_n, rr_nl_s, rr_bnl_n, rr_bnl_s, rr_cond_t, rr_cond_f, rr_bcond_t, rr_bcond_f, rr_bon, rr_bcv, rr_cv, rr_g, rr_gr, rr_si, rr_sz, rr_sr, rr_al, rr_ld, rr_st, rr_rl, rr_rs, rr_ni, rr_nr, rr_z, rr_div, rr_rem, rr_lc, rr_mx, rr_mn, rr_ab, rr_no, gd_t, bc_t, bc_f, gd_tt, bc_tt, bc_ff, or_true, true_or, and_true, true_and, Nat.reduceAdd, f0, f1, p8, mo_b_s e1], ?_, LF.rf, fun _ _ _ => rfl⟩
        unfold updB
        rw [bc_f (fun z => cb (z.1.2 (k : Int) (by omega) (by omega)))]
        exact hb
    · right
      have : k = E.1 := by omega
      subst this
      have e1 := q2_isLess t0 hb (r := rmS E s E.1) (m := smS E s E.1) (by omega) (by omega)
      have hfs : fs E s := ⟨hacy, hk1⟩
      by_cases cl : lsB (rmS E s E.1) (smS E s E.1) b
      · rw [bc_t cl] at e1
        unfold updB
        rw [bc_t ⟨hfs, cl⟩]
        have tl1 : ah_T (ah_sF (ah_sF (ah_sF h' l 9 1) l 10 (rmS E s E.1)) l 11 (smS E s E.1)) l = 12 := t0
        obtain ⟨g, hg, hL2⟩ : ∃ g : Int → Int, (∀ j : Int, 0 ≤ j → j < E.1 → g j = sv s j) ∧ mo_lp mo_N (X2_takeIfLess_L78 l) 0 (ah_sF (ah_sF (ah_sF h' l 9 1) l 10 (rmS E s E.1)) l 11 (smS E s E.1)) = some ((), ah_wI (ah_sF (ah_sF (ah_sF h' l 9 1) l 10 (rmS E s E.1)) l 11 (smS E s E.1)) (l + 7) g) := ⟨_, fun j j0 j1 => by rw [if_pos (by omega), Int.sub_zero]; exact ha j j0 j1, lp_cp (F := X2_takeIfLess_L78 l) (h := ah_sF (ah_sF (ah_sF h' l 9 1) l 10 (rmS E s E.1)) l 11 (smS E s E.1)) (a := l + 7) (n := E.1) 0 (fun k => ah_I h' (l + 6) k) (by omega) (fun k g hk => by simp (disch := omega) only [X2_takeIfLess_L78, rr_p, rr_bp, rr_bb, rr_0, rr_lt, rr_blt, rr_le, rr_ble, rr_eq, rr_beq, rr_nl_n, rr_nl_s, rr_bnl_n, rr_bnl_s, rr_cond_t, rr_cond_f, rr_bcond_t, rr_bcond_f, rr_bon, rr_bcv, rr_cv, rr_g, rr_gr, rr_si, rr_sz, rr_sr, rr_al, rr_ld, rr_st, rr_rl, rr_rs, rr_ni, rr_nr, rr_z, rr_div, rr_rem, rr_lc, rr_mx, rr_mn, rr_ab, rr_no, gd_t, bc_t, bc_f, gd_tt, bc_tt, bc_ff, or_true, true_or, and_true, true_and, Nat.reduceAdd, hl_T_sF, hl_N_sF, hl_P_sF, hl_I_sF, hl_R_sF, hl_S_sF, hl_T_sP, hl_N_sP, hl_F_sP, hl_I_sP, hl_R_sP, hl_S_sP, hl_T_sI, hl_N_sI, hl_F_sI, hl_P_sI, hl_R_sI, hl_S_sI, hl_T_sR, hl_N_sR, hl_F_sR, hl_P_sR, hl_I_sR, hl_S_sR, hl_T_wI, hl_N_wI, hl_F_wI, hl_P_wI, hl_R_wI, hl_S_wI, hl_F_sF_s, hl_F_sF_n, hl_P_sP_s, hl_P_sP_n, hl_I_sI_s, hl_I_sI_n, hl_R_sR_s, hl_R_sR_n, hl_I_wI_s, hl_I_wI_n, f0, p8, p9, hl_sI_wI, Int.zero_add]) (fun g => by simp (disch := omega) only [X2_takeIfLess_L78, rr_p, rr_bp, rr_bb, rr_0, rr_lt, rr_blt, rr_le, rr_ble, rr_eq, rr_beq, rr_nl_n, rr_nl_s, rr_bnl_n, rr_bnl_s, rr_cond_t, rr_cond_f, rr_bcond_t, rr_bcond_f, rr_bon, rr_bcv, rr_cv, rr_g, rr_gr, rr_si, rr_sz, rr_sr, rr_al, rr_ld, rr_st, rr_rl, rr_rs, rr_ni, rr_nr, rr_z, rr_div, rr_rem, rr_lc, rr_mx, rr_mn, rr_ab, rr_no, gd_t, bc_t, bc_f, gd_tt, bc_tt, bc_ff, or_true, true_or, and_true, true_and, Nat.reduceAdd, hl_T_sF, hl_N_sF, hl_P_sF, hl_I_sF, hl_R_sF, hl_S_sF, hl_T_sP, hl_N_sP, hl_F_sP, hl_I_sP, hl_R_sP, hl_S_sP, hl_T_sI, hl_N_sI, hl_F_sI, hl_P_sI, hl_R_sI, hl_S_sI, hl_T_sR, hl_N_sR, hl_F_sR, hl_P_sR, hl_I_sR, hl_S_sR, hl_T_wI, hl_N_wI, hl_F_wI, hl_P_wI, hl_R_wI, hl_S_wI, hl_F_sF_s, hl_F_sF_n, hl_P_sP_s, hl_P_sP_n, hl_I_sI_s, hl_I_sI_n, hl_R_sR_s, hl_R_sR_n, hl_I_wI_s, hl_I_wI_n, f0])⟩
        refine ⟨(), ah_wI (ah_sF (ah_sF (ah_sF h' l 9 1) l 10 (rmS E s E.1)) l 11 (smS E s E.1)) (l + 7) g, by simp (disch := omega) only [X2_takeIfLess_L4, rr_p, rr_bp, rr_bb, rr_0, rr_lt, rr_blt, rr_le, rr_ble, rr_eq, rr_beq, rr_nl_n, rr_nl_s, rr_bnl_n, rr_bnl_s, rr_cond_t, rr_cond_f, rr_bcond_t, rr_bcond_f, rr_bon, rr_bcv, rr_cv, rr_g, rr_gr, rr_si, rr_sz, rr_sr, rr_al, rr_ld, rr_st, rr_rl, rr_rs, rr_ni, rr_nr, rr_z, rr_div, rr_rem, rr_lc, rr_mx, rr_mn, rr_ab, rr_no, gd_t, bc_t, bc_f, gd_tt, bc_tt, bc_ff, or_true, true_or, and_true, true_and, Nat.reduceAdd, hl_T_sF, hl_N_sF, hl_P_sF, hl_I_sF, hl_R_sF, hl_S_sF, hl_T_sP, hl_N_sP, hl_F_sP, hl_I_sP, hl_R_sP, hl_S_sP, hl_T_sI, hl_N_sI, hl_F_sI, hl_P_sI, hl_R_sI, hl_S_sI, hl_T_sR, hl_N_sR, hl_F_sR, hl_P_sR, hl_I_sR, hl_S_sR, hl_T_wI, hl_N_wI, hl_F_wI, hl_P_wI, hl_R_wI, hl_S_wI, hl_F_sF_s, hl_F_sF_n, hl_P_sP_s, hl_P_sP_n, hl_I_sI_s, hl_I_sI_n, hl_R_sR_s, hl_R_sR_n, hl_I_wI_s, hl_I_wI_n, f0, mo_b_s e1, mo_b_s hL2], ⟨?_, ?_, ?_, ⟨by omega, by omega⟩, fun j j0 j1 => ?_⟩, ?_, fun k k1 k2 => ?_⟩
        · simp (disch := omega) only [hl_T_sF, hl_N_sF, hl_P_sF, hl_I_sF, hl_R_sF, hl_S_sF, hl_T_sP, hl_N_sP, hl_F_sP, hl_I_sP, hl_R_sP, hl_S_sP, hl_T_sI, hl_N_sI, hl_F_sI, hl_P_sI, hl_R_sI, hl_S_sI, hl_T_sR, hl_N_sR, hl_F_sR, hl_P_sR, hl_I_sR, hl_S_sR, hl_T_wI, hl_N_wI, hl_F_wI, hl_P_wI, hl_R_wI, hl_S_wI, hl_F_sF_s, hl_F_sF_n, hl_P_sP_s, hl_P_sP_n, hl_I_sI_s, hl_I_sI_n, hl_R_sR_s, hl_R_sR_n, hl_I_wI_s, hl_I_wI_n]
        · simp (disch := omega) only [hl_T_sF, hl_N_sF, hl_P_sF, hl_I_sF, hl_R_sF, hl_S_sF, hl_T_sP, hl_N_sP, hl_F_sP, hl_I_sP, hl_R_sP, hl_S_sP, hl_T_sI, hl_N_sI, hl_F_sI, hl_P_sI, hl_R_sI, hl_S_sI, hl_T_sR, hl_N_sR, hl_F_sR, hl_P_sR, hl_I_sR, hl_S_sR, hl_T_wI, hl_N_wI, hl_F_wI, hl_P_wI, hl_R_wI, hl_S_wI, hl_F_sF_s, hl_F_sF_n, hl_P_sP_s, hl_P_sP_n, hl_I_sI_s, hl_I_sI_n, hl_R_sR_s, hl_R_sR_n, hl_I_wI_s, hl_I_wI_n]
        · simp (disch := omega) only [hl_T_sF, hl_N_sF, hl_P_sF, hl_I_sF, hl_R_sF, hl_S_sF, hl_T_sP, hl_N_sP, hl_F_sP, hl_I_sP, hl_R_sP, hl_S_sP, hl_T_sI, hl_N_sI, hl_F_sI, hl_P_sI, hl_R_sI, hl_S_sI, hl_T_sR, hl_N_sR, hl_F_sR, hl_P_sR, hl_I_sR, hl_S_sR, hl_T_wI, hl_N_wI, hl_F_wI, hl_P_wI, hl_R_wI, hl_S_wI, hl_F_sF_s, hl_F_sF_n, hl_P_sP_s, hl_P_sP_n, hl_I_sI_s, hl_I_sI_n, hl_R_sR_s, hl_R_sR_n, hl_I_wI_s, hl_I_wI_n]
        · rw [hl_I_wI_s]; exact hg j j0 j1
        · exact ((LF.sF (by omega)).tr (LF.sF (by omega))).tr ((LF.sF (by omega)).tr (LF.fr (FRM.wI (lo := l + 7) (hi := l + 8) (by omega) (by omega)) (by omega) (by omega)))
        · rw [hl_I_wI_n (by omega)]; rfl
      · rw [bc_f cl] at e1
        refine ⟨(), h', by simp (disch := omega) only [X2_takeIfLess_L4, rr_p, rr_bp, rr_bb, rr_0, rr_lt, rr_blt, rr_le, rr_ble, rr_eq, rr_beq, rr_nl_n, rr_nl_s, rr_bnl_n, rr_bnl_s, rr_cond_t, rr_cond_f, rr_bcond_t, rr_bcond_f, rr_bon, rr_bcv, rr_cv, rr_g, rr_gr, rr_si, rr_sz, rr_sr, rr_al, rr_ld, rr_st, rr_rl, rr_rs, rr_ni, rr_nr, rr_z, rr_div, rr_rem, rr_lc, rr_mx, rr_mn, rr_ab, rr_no, gd_t, bc_t, bc_f, gd_tt, bc_tt, bc_ff, or_true, true_or, and_true, true_and, Nat.reduceAdd, f0, mo_b_s e1], ?_, LF.rf, fun _ _ _ => rfl⟩
        unfold updB
        rw [bc_f (fun z => cl z.2)]
        exact hb
theorem q2_leadsTo {h : AH} {l n : Nat} {s : List Int} (t0 : ah_T h l = 12) (f0 : ah_F h l 0 = (n : Int)) (hn : n ≤ 6) (p8 : ah_P h l 7 = some (l + 6)) (t7 : ah_T h (l + 6) = 1) (n7 : ah_N h (l + 6) = 6) (hl : s.length < n) (ha : ∀ j : Int, 0 ≤ j → j < s.length → ah_I h (l + 6) j = sv s j) (hr : ∀ j : Int, 0 ≤ j → j < s.length → -1 ≤ sv s j ∧ sv s j < n) {y : Int} (hy : -1 ≤ y ∧ y < n) : X2_leadsTo l y (s.length : Int) h = some (br (itc s (s.length : Int) n y = s.length) 1 0, h) := by
  have hL := lp_inv (F := X2_leadsTo_L5 l (s.length : Int)) (fun t h' => h' = h ∧ ∃ k : Nat, t = (itc s (s.length : Int) k y, (k : Int)) ∧ k ≤ n ∧ (-1 ≤ itc s (s.length : Int) k y ∧ itc s (s.length : Int) k y < n)) (fun t => ((n : Int) - t.2).toNat) (fun r h' => h' = h ∧ r = itc s (s.length : Int) n y ∧ (-1 ≤ r ∧ r < n)) ?_ mo_N (y, 0) h ⟨rfl, 0, rfl, by omega, hy⟩ (by rw [mo_N_v]; dsimp only; omega)
  · obtain ⟨r, h', e1, rfl, rfl, hr2⟩ := hL
    by_cases c : itc s (s.length : Int) n y = s.length
    · rw [bc_t c]
      simp (disch := omega) only [X2_leadsTo, rr_p, rr_bp, rr_bb, rr_0, rr_lt, rr_blt, rr_le, rr_ble, rr_eq, rr_beq, rr_nl_n, rr_nl_s, rr_bnl_n, rr_bnl_s, rr_cond_t, rr_cond_f, rr_bcond_t, rr_bcond_f, rr_bon, rr_bcv, rr_cv, rr_g, rr_gr, rr_si, rr_sz, rr_sr, rr_al, rr_ld, rr_st, rr_rl, rr_rs, rr_ni, rr_nr, rr_z, rr_div, rr_rem, rr_lc, rr_mx, rr_mn, rr_ab, rr_no, gd_t, bc_t, bc_f, gd_tt, bc_tt, bc_ff, or_true, true_or, and_true, true_and, Nat.reduceAdd, mo_b_s e1]
    · rw [bc_f c]
      simp (disch := omega) only [X2_leadsTo, rr_p, rr_bp, rr_bb, rr_0, rr_lt, rr_blt, rr_le, rr_ble, rr_eq, rr_beq, rr_nl_n, rr_nl_s, rr_bnl_n, rr_bnl_s, rr_cond_t, rr_cond_f, rr_bcond_t, rr_bcond_f, rr_bon, rr_bcv, rr_cv, rr_g, rr_gr, rr_si, rr_sz, rr_sr, rr_al, rr_ld, rr_st, rr_rl, rr_rs, rr_ni, rr_nr, rr_z, rr_div, rr_rem, rr_lc, rr_mx, rr_mn, rr_ab, rr_no, gd_t, bc_t, bc_f, gd_tt, bc_tt, bc_ff, or_true, true_or, and_true, true_and, Nat.reduceAdd, mo_b_s e1]
  · rintro t h' ⟨rfl, k, rfl, kb, hv⟩
    by_cases ck : k < n
    · by_cases cv : 0 ≤ itc s (s.length : Int) k y ∧ itc s (s.length : Int) k y < s.length
      · left
        have e1 := ha _ cv.1 cv.2
        have e2 : itc s (s.length : Int) (k + 1) y = sv s (itc s (s.length : Int) k y) := by
          rw [itc_add, itc_i cv]; rfl
        refine ⟨(itc s (s.length : Int) (k + 1) y, ((k + 1 : Nat) : Int)), h', ?_, ⟨rfl, k + 1, rfl, by omega, by rw [e2]; exact hr _ cv.1 cv.2⟩, by dsimp only; omega⟩
        rw [e2]
        simp (disch := omega) only [X2_leadsTo_L5, rr_p, rr_bp, rr_bb, rr_0, rr_lt, rr_blt, rr_le, rr_ble, rr_eq, rr_beq, rr_nl_n, rr_nl_s, rr_bnl_n, rr_bnl_s, rr_cond_t, rr_cond_f, rr_bcond_t, rr_bcond_f, rr_bon, rr_bcv, rr_cv, rr_g, rr_gr, rr_si, rr_sz, rr_sr, rr_al, rr_ld, rr_st, rr_rl, rr_rs, rr_ni, rr_nr, rr_z, rr_div, rr_rem, rr_lc, rr_mx, rr_mn, rr_ab, rr_no, gd_t, bc_t, bc_f, gd_tt, bc_tt, bc_ff, or_true, true_or, and_true, true_and, Nat.reduceAdd, f0, p8, e1, Int.natCast_add, Int.natCast_one]
      · right
        have e3 := itc_stay cv (show k ≤ n by omega)
        refine ⟨itc s (s.length : Int) k y, h', ?_, rfl, e3.symm, hv⟩
        by_cases c0 : itc s (s.length : Int) k y < 0
        · simp (disch := omega) only [X2_leadsTo_L5, rr_p, rr_bp, rr_bb, rr_0, rr_lt, rr_blt, rr_le, rr_ble, rr_eq, rr_beq, rr_nl_n, rr_nl_s, rr_bnl_n, rr_bnl_s, rr_cond_t, rr_cond_f, rr_bcond_t, rr_bcond_f, rr_bon, rr_bcv, rr_cv, rr_g, rr_gr, rr_si, rr_sz, rr_sr, rr_al, rr_ld, rr_st, rr_rl, rr_rs, rr_ni, rr_nr, rr_z, rr_div, rr_rem, rr_lc, rr_mx, rr_mn, rr_ab, rr_no, gd_t, bc_t, bc_f, gd_tt, bc_tt, bc_ff, or_true, true_or, and_true, true_and, Nat.reduceAdd, f0]
        · simp (disch := omega) only [X2_leadsTo_L5, rr_p, rr_bp, rr_bb, rr_0, rr_lt, rr_blt, rr_le, rr_ble, rr_eq, rr_beq, rr_nl_n, rr_nl_s, rr_bnl_n, rr_bnl_s, rr_cond_t, rr_cond_f, rr_bcond_t, rr_bcond_f, rr_bon, rr_bcv, rr_cv, rr_g, rr_gr, rr_si, rr_sz, rr_sr, rr_al, rr_ld, rr_st, rr_rl, rr_rs, rr_ni, rr_nr, rr_z, rr_div, rr_rem, rr_lc, rr_mx, rr_mn, rr_ab, rr_no, gd_t, bc_t, bc_f, gd_tt, bc_tt, bc_ff, or_true, true_or, and_true, true_and, Nat.reduceAdd, f0]
    · right
      have : k = n := by omega
      subst this
      exact ⟨_, h', by simp (disch := omega) only [X2_leadsTo_L5, rr_p, rr_bp, rr_bb, rr_0, rr_lt, rr_blt, rr_le, rr_ble, rr_eq, rr_beq, rr_nl_n, rr_nl_s, rr_bnl_n, rr_bnl_s, rr_cond_t, rr_cond_f, rr_bcond_t, rr_bcond_f, rr_bon, rr_bcv, rr_cv, rr_g, rr_gr, rr_si, rr_sz, rr_sr, rr_al, rr_ld, rr_st, rr_rl, rr_rs, rr_ni, rr_nr, rr_z, rr_div, rr_rem, rr_lc, rr_mx, rr_mn, rr_ab, rr_no, gd_t, bc_t, bc_f, gd_tt, bc_tt, bc_ff, or_true, true_or, and_true, true_and, Nat.reduceAdd, f0], rfl, rfl, hv⟩
