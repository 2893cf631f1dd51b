theorem pt_set {Q : List (List HK)} {k : Nat} {W : List HK} (hk : k < Q.length) (i : Nat) : pt (Q.set k W) i = if i = k then W else pt Q i := by
  unfold pt
  simp only [List.getD_eq_getElem?_getD]
  by_cases h : i = k
  · subst h; rw [if_pos rfl, List.getElem?_set_self hk]; rfl
  · rw [if_neg h, List.getElem?_set_ne (by omega)]
/-- patch p is rewritten in its place -/
theorem KI_patch {h h' : AH} {x : Nat} {D : List Int} {V : List VR} {Q : List (List HK)} {d p : Nat} {A B : Nat → Nat} {W : List HK} (hK : KI h x (D, V, Q, d)) (hB : KB h x V Q d A B) (hp : p < Q.length) (f : FRM h h' (B p) (B p + 6)) (hP : kP h' (B p) 10 28 W) : KI h' x (D, V, Q.set p W, d) := by
  obtain ⟨hR, nD, hSc, -⟩ := hK
  obtain ⟨⟨o1, o2, o3, o4, o5, o6, o7, o8, o9⟩, ⟨f3, f5, f13⟩, hA, hQ, hM, hX⟩ := id hB
  have hb := hQ p hp
  refine ⟨kR_fr hR f (by omega), by rw [f.2.1]; exact nD, KSc_sm hSc (SM.fr f (by omega)) (SM.fr f (by omega)), A, B, ⟨?_, ⟨?_, ?_, ?_⟩, ?_, ?_, ?_, ?_⟩⟩
  · refine ⟨by rw [f.1]; exact o1, by rw [f.2.2.1]; exact o2, by rw [f.1]; exact o3, by rw [f.2.1]; exact o4, by rw [f.1]; exact o5, by rw [f.2.1]; exact o6, by rw [f.1]; exact o7, by rw [f.2.1]; exact o8, by rw [f.2.2.2.2.1]; exact o9⟩
  · rw [f.2.2.2.2.2.1 x (by omega)]; exact f3
  · rw [f.2.2.2.2.2.1 x (by omega)]; dsimp only; rw [List.length_set]; exact f5
  · rw [f.2.2.2.2.2.1 x (by omega)]; exact f13
  · intro v hv
    obtain ⟨y1, y2, y3, y4, y5⟩ := hA v hv
    have := hX.2.2 v p hv hp
    refine ⟨by rw [f.2.2.2.1]; exact y1, kV_sm y2 (SM.fr f (by omega)), y3, by rw [f.2.2.2.2.1]; exact y4, fun i hi => ?_⟩
    rw [f.2.2.2.2.2.2 (A v + 3) (by omega)]; exact y5 i hi
  · intro q hq
    dsimp only at hq ⊢
    rw [List.length_set] at hq
    obtain ⟨y1, y2, y3, y4⟩ := hQ q hq
    refine ⟨by rw [f.2.2.2.1]; exact y1, ?_, y3, by rw [f.2.2.2.2.1]; exact y4⟩
    rw [pt_set hp]
    by_cases c : q = p
    · subst c; rw [if_pos rfl]; exact hP
    · rw [if_neg c]
      have := hX.2.1 q p hq hp c
      exact kP_fr y2 f (by omega)
  · intro u v hu hv
    rw [f.2.2.2.2.2.2 (x + 7) (by omega)]; exact hM u v hu hv
  · dsimp only; rw [List.length_set]; exact hX
theorem sW_snoc {W : List HK} {q : HK} (h : sW W) (h0 : 0 ≤ q.1) (h1 : W = [] ∨ (hk W (W.length - 1)).1 + (hk W (W.length - 1)).2.1.length < q.1) : sW (W ++ [q]) := by
  refine ⟨fun i hi => ?_, fun i hi => ?_⟩
  · have hi : i < W.length + 1 := by simpa using hi
    by_cases c : i = W.length
    · rw [c, hk_last]; exact h0
    · rw [hk_app_l (by omega)]; exact h.1 i (by omega)
  · have hi : i + 1 < W.length + 1 := by simpa using hi
    by_cases c : i + 1 = W.length
    · rw [c, hk_last, hk_app_l (by omega)]
      rcases h1 with h1 | h1
      · subst h1; simp at c
      · rw [show W.length - 1 = i by omega] at h1; omega
    · rw [hk_app_l (by omega), hk_app_l (by omega)]; exact h.2 i (by omega)
theorem OP_snoc {b : Int} {W : List HK} {q : HK} (h : OP b W) (h0 : 0 ≤ q.1) (h1 : W = [] ∨ (hk W (W.length - 1)).1 + (hk W (W.length - 1)).2.1.length < q.1) (h2 : q.1 ≤ b) (h3 : wL q.2.1) (h4 : wL q.2.2) (h5 : W.length < 10) (h6 : (fG W).length + q.2.1.length ≤ 28) (h7 : (fC W).length + q.2.2.length ≤ 28) : OP b (W ++ [q]) := by
  refine ⟨sW_snoc h.1 h0 h1, by simp; omega, by rw [fG_app, fG_one, List.length_append]; omega, by rw [fC_app, fC_one, List.length_append]; omega, fun i hi => ?_⟩
  have hi : i < W.length + 1 := by simpa using hi
  by_cases c : i = W.length
  · rw [c, hk_last]; exact ⟨h3, h4, h2⟩
  · rw [hk_app_l (by omega)]; exact h.2.2.2.2 i (by omega)
theorem m_hunkAdd {h h' : AH} {m p : Nat} {D : List Int} {V : List VR} {Q : List (List HK)} {d : Nat} {a : Int} {g c : List Int} (hM : MI h m (D, V, Q, d)) (hb : ∀ q, q < Q.length → (pt Q q).length ≤ 10 ∧ (fG (pt Q q)).length ≤ 28 ∧ (fC (pt Q q)).length ≤ 28) (hp : p < Q.length) (n1 : (pt Q p).length < 10) (n2 : (fG (pt Q p)).length + g.length ≤ 28) (n3 : (fC (pt Q p)).length + c.length ≤ 28) (f : MF m 7 13 8 8 h h') (H7 : ∀ y, ah_I h' (m + 7) y = if y = (p : Int) then ((pt Q p).length : Int) + 1 else ah_I h (m + 7) y) (H8 : ∀ y, ah_I h' (m + 8) y = if y = 10 * (p : Int) + ((pt Q p).length : Int) then a else ah_I h (m + 8) y) (H9 : ∀ y, ah_I h' (m + 9) y = if y = 10 * (p : Int) + ((pt Q p).length : Int) then (g.length : Int) else ah_I h (m + 9) y) (H10 : ∀ y, ah_I h' (m + 10) y = if y = 10 * (p : Int) + ((pt Q p).length : Int) then (c.length : Int) else ah_I h (m + 10) y)
    (H11 : ∀ y, y < 28 * (p : Int) + ((fG (pt Q p)).length : Int) ∨ 28 * (p : Int) + ((fG (pt Q p)).length : Int) + g.length ≤ y → ah_I h' (m + 11) y = ah_I h (m + 11) y) (G11 : ∀ k : Nat, k < g.length → ah_I h' (m + 11) (28 * (p : Int) + ((fG (pt Q p)).length : Int) + (k : Int)) = g.getD k 0) (H12 : ∀ y, y < 28 * (p : Int) + ((fC (pt Q p)).length : Int) ∨ 28 * (p : Int) + ((fC (pt Q p)).length : Int) + c.length ≤ y → ah_I h' (m + 12) y = ah_I h (m + 12) y) (G12 : ∀ k : Nat, k < c.length → ah_I h' (m + 12) (28 * (p : Int) + ((fC (pt Q p)).length : Int) + (k : Int)) = c.getD k 0) : MI h' m (D, V, Q.set p (pt Q p ++ [(a, g, c)]), d) := by
  refine ⟨mS_fr hM.1 f, mDesk_fr hM.2.1 f (by omega), mVer_fr hM.2.2.1 f (by omega), ⟨?_, ?_⟩, by rw [f.2.2.2.2.2 15 (by omega)]; exact hM.2.2.2.2⟩
  · rw [f.2.2.2.2.2 8 (by omega)]; dsimp only; rw [List.length_set]; exact hM.2.2.2.1.1
  · intro q hq
    dsimp only at hq ⊢
    rw [List.length_set] at hq
    obtain ⟨y1, y2, y3, y4⟩ := hM.2.2.2.1.2 q hq
    dsimp only at y1 y2 y3 y4
    obtain ⟨b1, b2, b3⟩ := hb q hq
    rw [pt_set hp]
    by_cases e : q = p
    · subst e
      rw [if_pos rfl]
      refine ⟨?_, fun i hi => ?_, fun j hj => ?_, fun j hj => ?_⟩
      · rw [H7, if_pos rfl]; simp
      · have hi : i < (pt Q q).length + 1 := by simpa using hi
        rw [H8, H9, H10]
        by_cases e2 : i = (pt Q q).length
        · subst e2
          rw [if_pos rfl, if_pos rfl, if_pos rfl, hk_last]; exact ⟨rfl, rfl, rfl⟩
        · rw [if_neg (by omega), if_neg (by omega), if_neg (by omega), hk_app_l (by omega)]
          exact y2 i (by omega)
      · rw [fG_app, fG_one] at hj ⊢
        dsimp only at hj ⊢
        rw [List.length_append] at hj
        by_cases e2 : j < (fG (pt Q q)).length
        · rw [getD_app_l e2, H11 _ (Or.inl (by omega))]; exact y3 j e2
        · rw [getD_app_r (by omega)]
          have := G11 (j - (fG (pt Q q)).length) (by omega)
          rw [← this]; congr 1; omega
      · rw [fC_app, fC_one] at hj ⊢
        dsimp only at hj ⊢
        rw [List.length_append] at hj
        by_cases e2 : j < (fC (pt Q q)).length
        · rw [getD_app_l e2, H12 _ (Or.inl (by omega))]; exact y4 j e2
        · rw [getD_app_r (by omega)]
          have := G12 (j - (fC (pt Q q)).length) (by omega)
          rw [← this]; congr 1; omega
    · rw [if_neg e]
      refine ⟨?_, fun i hi => ?_, fun j hj => ?_, fun j hj => ?_⟩
      · rw [H7, if_neg (by omega)]; exact y1
      · rw [H8, H9, H10, if_neg (by omega), if_neg (by omega), if_neg (by omega)]; exact y2 i hi
      · rw [H11 _ (by omega)]; exact y3 j hj
      · rw [H12 _ (by omega)]; exact y4 j hj
def oneL (v : Int) : List Int := if v = -1 then [] else [v]
theorem oneL_wL {v : Int} (h : -1 ≤ v ∧ v ≤ 99) : wL (oneL v) := by
  unfold oneL; split
  · exact wL_nil
  · intro k hk
    have : k = 0 := by simpa using hk
    subst this
    exact ⟨by show 0 ≤ v; omega, by show v ≤ 99; omega⟩
theorem c_hunk (p a g c : Int) (hp : am_r p) (ha : am_r a) (hg : am_r g) (hc : am_r c) (s : SG) (ho : OKS s) : CJ (fun x => X6_hunk x p a g c) (fun m => X7_hunk m p a g c) s := by
  obtain ⟨D, V, Q, d⟩ := s
  obtain ⟨⟨hD1, hD2⟩, oV, oQ, od⟩ := id ho
  dsimp only at hD1 hD2 oV oQ od
  have oQ1 := oQ.1
  have hp2 := hp
  have ha2 := ha
  unfold am_r at hp ha hg hc
  by_cases c1 : 0 ≤ p ∧ p < Q.length
  · obtain ⟨pn, rfl⟩ := Int.eq_ofNat_of_zero_le c1.1
    have hpl : pn < Q.length := by omega
    have hOP := oQ.2 pn hpl
    have hb := OQ_b oQ pn hpl
    have hPV := OP_pV hOP (by omega)
    have hends : ∀ i : Nat, i < (pt Q pn).length → 0 ≤ (hk (pt Q pn) i).1 ∧ (hk (pt Q pn) i).1 ≤ 400 ∧ (hk (pt Q pn) i).2.1.length ≤ 28 := fun i hi => by
      have := hOP.1.1 i hi
      have := (hOP.2.2.2.2 i hi).2.2
      have s1 := @hgs_s (pt Q pn) i hi
      have s2 := @hgs_le (pt Q pn) (i + 1)
      omega
    -- in the class
    have kis : ∀ h, X6_isHunk a g c h = some (br ((0 ≤ a ∧ a ≤ 14) ∧ (-1 ≤ g ∧ g ≤ 99) ∧ (-1 ≤ c ∧ c ≤ 99) ∧ ¬ (g = -1 ∧ c = -1)) 1 0, h) := by
      intro h
      have il : ∀ v : Int, -2147483648 ≤ v ∧ v ≤ 2147483647 → ∀ h, X6_isLine v h = some (br (0 ≤ v ∧ v ≤ 99) 1 0, h) := by
        intro v hv h
        by_cases q1 : v < 0
        · rw [bc_f (by omega)]; simp (disch := omega) only [X6_isLine, rr_p, rr_bp, rr_bb, rr_0, rr_lt, rr_blt, rr_le, rr_ble, rr_eq, rr_beq, rr_nl_n, rr_nl_s, rr_bnl_n, rr_bnl_s, rr_cond_t, rr_cond_f, rr_bcond_t, rr_bcond_f, rr_bon, rr_bcv, rr_cv, rr_g, rr_gr, rr_si, rr_sz, rr_sr, rr_al, rr_ld, rr_st, rr_rl, rr_rs, rr_ni, rr_nr, rr_z, rr_div, rr_rem, rr_lc, rr_mx, rr_mn, rr_ab, rr_no, gd_t, bc_t, bc_f, gd_tt, bc_tt, bc_ff, or_true, true_or, and_true, true_and, Nat.reduceAdd]
        · by_cases q2 : v ≤ 99
          · rw [bc_t (by omega)]; simp (disch := omega) only [X6_isLine, rr_p, rr_bp, rr_bb, rr_0, rr_lt, rr_blt, rr_le, rr_ble, rr_eq, rr_beq, rr_nl_n, rr_nl_s, rr_bnl_n, rr_bnl_s, rr_cond_t, rr_cond_f, rr_bcond_t, rr_bcond_f, rr_bon, rr_bcv, rr_cv, rr_g, rr_gr, rr_si, rr_sz, rr_sr, rr_al, rr_ld, rr_st, rr_rl, rr_rs, rr_ni, rr_nr, rr_z, rr_div, rr_rem, rr_lc, rr_mx, rr_mn, rr_ab, rr_no, gd_t, bc_t, bc_f, gd_tt, bc_tt, bc_ff, or_true, true_or, and_true, true_and, Nat.reduceAdd]
          · rw [bc_f (by omega)]; simp (disch := omega) only [X6_isLine, rr_p, rr_bp, rr_bb, rr_0, rr_lt, rr_blt, rr_le, rr_ble, rr_eq, rr_beq, rr_nl_n, rr_nl_s, rr_bnl_n, rr_bnl_s, rr_cond_t, rr_cond_f, rr_bcond_t, rr_bcond_f, rr_bon, rr_bcv, rr_cv, rr_g, rr_gr, rr_si, rr_sz, rr_sr, rr_al, rr_ld, rr_st, rr_rl, rr_rs, rr_ni, rr_nr, rr_z, rr_div, rr_rem, rr_lc, rr_mx, rr_mn, rr_ab, rr_no, gd_t, bc_t, bc_f, gd_tt, bc_tt, bc_ff, or_true, true_or, and_true, true_and, Nat.reduceAdd]
      have ig := il g hg h
      have ic := il c hc h
      by_cases qg : g = -1
      · by_cases qc : c = -1
        · rw [bc_f (by omega)]
          by_cases qa : a < 0
          · simp (disch := omega) only [X6_isHunk, rr_p, rr_bp, rr_bb, rr_0, rr_lt, rr_blt, rr_le, rr_ble, rr_eq, rr_beq, rr_nl_n, rr_nl_s, rr_bnl_n, rr_bnl_s, rr_cond_t, rr_cond_f, rr_bcond_t, rr_bcond_f, rr_bon, rr_bcv, rr_cv, rr_g, rr_gr, rr_si, rr_sz, rr_sr, rr_al, rr_ld, rr_st, rr_rl, rr_rs, rr_ni, rr_nr, rr_z, rr_div, rr_rem, rr_lc, rr_mx, rr_mn, rr_ab, rr_no, gd_t, bc_t, bc_f, gd_tt, bc_tt, bc_ff, or_true, true_or, and_true, true_and, Nat.reduceAdd]
          · by_cases qb : a ≤ 14
            · simp (disch := omega) only [X6_isHunk, rr_p, rr_bp, rr_bb, rr_0, rr_lt, rr_blt, rr_le, rr_ble, rr_eq, rr_beq, rr_nl_n, rr_nl_s, rr_bnl_n, rr_bnl_s, rr_cond_t, rr_cond_f, rr_bcond_t, rr_bcond_f, rr_bon, rr_bcv, rr_cv, rr_g, rr_gr, rr_si, rr_sz, rr_sr, rr_al, rr_ld, rr_st, rr_rl, rr_rs, rr_ni, rr_nr, rr_z, rr_div, rr_rem, rr_lc, rr_mx, rr_mn, rr_ab, rr_no, gd_t, bc_t, bc_f, gd_tt, bc_tt, bc_ff, or_true, true_or, and_true, true_and, Nat.reduceAdd]
            · simp (disch := omega) only [X6_isHunk, rr_p, rr_bp, rr_bb, rr_0, rr_lt, rr_blt, rr_le, rr_ble, rr_eq, rr_beq, rr_nl_n, rr_nl_s, rr_bnl_n, rr_bnl_s, rr_cond_t, rr_cond_f, rr_bcond_t, rr_bcond_f, rr_bon, rr_bcv, rr_cv, rr_g, rr_gr, rr_si, rr_sz, rr_sr, rr_al, rr_ld, rr_st, rr_rl, rr_rs, rr_ni, rr_nr, rr_z, rr_div, rr_rem, rr_lc, rr_mx, rr_mn, rr_ab, rr_no, gd_t, bc_t, bc_f, gd_tt, bc_tt, bc_ff, or_true, true_or, and_true, true_and, Nat.reduceAdd]
        · by_cases q2 : 0 ≤ c ∧ c ≤ 99
          · rw [bc_t q2] at ic
            by_cases qa : a < 0
            · rw [bc_f (by omega)]; simp (disch := omega) only [X6_isHunk, rr_p, rr_bp, rr_bb, rr_0, rr_lt, rr_blt, rr_le, rr_ble, rr_eq, rr_beq, rr_nl_n, rr_nl_s, rr_bnl_n, rr_bnl_s, rr_cond_t, rr_cond_f, rr_bcond_t, rr_bcond_f, rr_bon, rr_bcv, rr_cv, rr_g, rr_gr, rr_si, rr_sz, rr_sr, rr_al, rr_ld, rr_st, rr_rl, rr_rs, rr_ni, rr_nr, rr_z, rr_div, rr_rem, rr_lc, rr_mx, rr_mn, rr_ab, rr_no, gd_t, bc_t, bc_f, gd_tt, bc_tt, bc_ff, or_true, true_or, and_true, true_and, Nat.reduceAdd, mo_b_s ic]
            · by_cases qb : a ≤ 14
              · rw [bc_t (by omega)]; simp (disch := omega) only [X6_isHunk, rr_p, rr_bp, rr_bb, rr_0, rr_lt, rr_blt, rr_le, rr_ble, rr_eq, rr_beq, rr_nl_n, rr_nl_s, rr_bnl_n, rr_bnl_s, rr_cond_t, rr_cond_f, rr_bcond_t, rr_bcond_f, rr_bon, rr_bcv, rr_cv, rr_g, rr_gr, rr_si, rr_sz, rr_sr, rr_al, rr_ld, rr_st, rr_rl, rr_rs, rr_ni, rr_nr, rr_z, rr_div, rr_rem, rr_lc, rr_mx, rr_mn, rr_ab, rr_no, gd_t, bc_t, bc_f, gd_tt, bc_tt, bc_ff, or_true, true_or, and_true, true_and, Nat.reduceAdd, mo_b_s ic]
              · rw [bc_f (by omega)]; simp (disch := omega) only [X6_isHunk, rr_p, rr_bp, rr_bb, rr_0, rr_lt, rr_blt, rr_le, rr_ble, rr_eq, rr_beq, rr_nl_n, rr_nl_s, rr_bnl_n, rr_bnl_s, rr_cond_t, rr_cond_f, rr_bcond_t, rr_bcond_f, rr_bon, rr_bcv, rr_cv, rr_g, rr_gr, rr_si, rr_sz, rr_sr, rr_al, rr_ld, rr_st, rr_rl, rr_rs, rr_ni, rr_nr, rr_z, rr_div, rr_rem, rr_lc, rr_mx, rr_mn, rr_ab, rr_no, gd_t, bc_t, bc_f, gd_tt, bc_tt, bc_ff, or_true, true_or, and_true, true_and, Nat.reduceAdd, mo_b_s ic]
          · rw [bc_f q2] at ic
            rw [bc_f (by omega)]
            by_cases qa : a < 0
            · simp (disch := omega) only [X6_isHunk, rr_p, rr_bp, rr_bb, rr_0, rr_lt, rr_blt, rr_le, rr_ble, rr_eq, rr_beq, rr_nl_n, rr_nl_s, rr_bnl_n, rr_bnl_s, rr_cond_t, rr_cond_f, rr_bcond_t, rr_bcond_f, rr_bon, rr_bcv, rr_cv, rr_g, rr_gr, rr_si, rr_sz, rr_sr, rr_al, rr_ld, rr_st, rr_rl, rr_rs, rr_ni, rr_nr, rr_z, rr_div, rr_rem, rr_lc, rr_mx, rr_mn, rr_ab, rr_no, gd_t, bc_t, bc_f, gd_tt, bc_tt, bc_ff, or_true, true_or, and_true, true_and, Nat.reduceAdd, mo_b_s ic]
            · by_cases qb : a ≤ 14
              · simp (disch := omega) only [X6_isHunk, rr_p, rr_bp, rr_bb, rr_0, rr_lt, rr_blt, rr_le, rr_ble, rr_eq, rr_beq, rr_nl_n, rr_nl_s, rr_bnl_n, rr_bnl_s, rr_cond_t, rr_cond_f, rr_bcond_t, rr_bcond_f, rr_bon, rr_bcv, rr_cv, rr_g, rr_gr, rr_si, rr_sz, rr_sr, rr_al, rr_ld, rr_st, rr_rl, rr_rs, rr_ni, rr_nr, rr_z, rr_div, rr_rem, rr_lc, rr_mx, rr_mn, rr_ab, rr_no, gd_t, bc_t, bc_f, gd_tt, bc_tt, bc_ff, or_true, true_or, and_true, true_and, Nat.reduceAdd, mo_b_s ic]
              · simp (disch := omega) only [X6_isHunk, rr_p, rr_bp, rr_bb, rr_0, rr_lt, rr_blt, rr_le, rr_ble, rr_eq, rr_beq, rr_nl_n, rr_nl_s, rr_bnl_n, rr_bnl_s, rr_cond_t, rr_cond_f, rr_bcond_t, rr_bcond_f, rr_bon, rr_bcv, rr_cv, rr_g, rr_gr, rr_si, rr_sz, rr_sr, rr_al, rr_ld, rr_st, rr_rl, rr_rs, rr_ni, rr_nr, rr_z, rr_div, rr_rem, rr_lc, rr_mx, rr_mn, rr_ab, rr_no, gd_t, bc_t, bc_f, gd_tt, bc_tt, bc_ff, or_true, true_or, and_true, true_and, Nat.reduceAdd, mo_b_s ic]
      · by_cases q1 : 0 ≤ g ∧ g ≤ 99
        · rw [bc_t q1] at ig
          by_cases qc : c = -1
          · by_cases qa : a < 0
            · rw [bc_f (by omega)]; simp (disch := omega) only [X6_isHunk, rr_p, rr_bp, rr_bb, rr_0, rr_lt, rr_blt, rr_le, rr_ble, rr_eq, rr_beq, rr_nl_n, rr_nl_s, rr_bnl_n, rr_bnl_s, rr_cond_t, rr_cond_f, rr_bcond_t, rr_bcond_f, rr_bon, rr_bcv, rr_cv, rr_g, rr_gr, rr_si, rr_sz, rr_sr, rr_al, rr_ld, rr_st, rr_rl, rr_rs, rr_ni, rr_nr, rr_z, rr_div, rr_rem, rr_lc, rr_mx, rr_mn, rr_ab, rr_no, gd_t, bc_t, bc_f, gd_tt, bc_tt, bc_ff, or_true, true_or, and_true, true_and, Nat.reduceAdd, mo_b_s ig]
            · by_cases qb : a ≤ 14
              · rw [bc_t (by omega)]; simp (disch := omega) only [X6_isHunk, rr_p, rr_bp, rr_bb, rr_0, rr_lt, rr_blt, rr_le, rr_ble, rr_eq, rr_beq, rr_nl_n, rr_nl_s, rr_bnl_n, rr_bnl_s, rr_cond_t, rr_cond_f, rr_bcond_t, rr_bcond_f, rr_bon, rr_bcv, rr_cv, rr_g, rr_gr, rr_si, rr_sz, rr_sr, rr_al, rr_ld, rr_st, rr_rl, rr_rs, rr_ni, rr_nr, rr_z, rr_div, rr_rem, rr_lc, rr_mx, rr_mn, rr_ab, rr_no, gd_t, bc_t, bc_f, gd_tt, bc_tt, bc_ff, or_true, true_or, and_true, true_and, Nat.reduceAdd, mo_b_s ig]
              · rw [bc_f (by omega)]; simp (disch := omega) only [X6_isHunk, rr_p, rr_bp, rr_bb, rr_0, rr_lt, rr_blt, rr_le, rr_ble, rr_eq, rr_beq, rr_nl_n, rr_nl_s, rr_bnl_n, rr_bnl_s, rr_cond_t, rr_cond_f, rr_bcond_t, rr_bcond_f, rr_bon, rr_bcv, rr_cv, rr_g, rr_gr, rr_si, rr_sz, rr_sr, rr_al, rr_ld, rr_st, rr_rl, rr_rs, rr_ni, rr_nr, rr_z, rr_div, rr_rem, rr_lc, rr_mx, rr_mn, rr_ab, rr_no, gd_t, bc_t, bc_f, gd_tt, bc_tt, bc_ff, or_true, true_or, and_true, true_and, Nat.reduceAdd, mo_b_s ig]
          · by_cases q2 : 0 ≤ c ∧ c ≤ 99
            · rw [bc_t q2] at ic
              by_cases qa : a < 0
              · rw [bc_f (by omega)]; simp (disch := omega) only [X6_isHunk, rr_p, rr_bp, rr_bb, rr_0, rr_lt, rr_blt, rr_le, rr_ble, rr_eq, rr_beq, rr_nl_n, rr_nl_s, rr_bnl_n, rr_bnl_s, rr_cond_t, rr_cond_f, rr_bcond_t, rr_bcond_f, rr_bon, rr_bcv, rr_cv, rr_g, rr_gr, rr_si, rr_sz, rr_sr, rr_al, rr_ld, rr_st, rr_rl, rr_rs, rr_ni, rr_nr, rr_z, rr_div, rr_rem, rr_lc, rr_mx, rr_mn, rr_ab, rr_no, gd_t, bc_t, bc_f, gd_tt, bc_tt, bc_ff, or_true, true_or, and_true, true_and, Nat.reduceAdd, mo_b_s ig, mo_b_s ic]
              · by_cases qb : a ≤ 14
                · rw [bc_t (by omega)]; simp (disch := omega) only [X6_isHunk, rr_p, rr_bp, rr_bb, rr_0, rr_lt, rr_blt, rr_le, rr_ble, rr_eq, rr_beq, rr_nl_n, rr_nl_s, rr_bnl_n, rr_bnl_s, rr_cond_t, rr_cond_f, rr_bcond_t, rr_bcond_f, rr_bon, rr_bcv, rr_cv, rr_g, rr_gr, rr_si, rr_sz, rr_sr, rr_al, rr_ld, rr_st, rr_rl, rr_rs, rr_ni, rr_nr, rr_z, rr_div, rr_rem, rr_lc, rr_mx, rr_mn, rr_ab, rr_no, gd_t, bc_t, bc_f, gd_tt, bc_tt, bc_ff, or_true, true_or, and_true, true_and, Nat.reduceAdd, mo_b_s ig, mo_b_s ic]
                · rw [bc_f (by omega)]; simp (disch := omega) only [X6_isHunk, rr_p, rr_bp, rr_bb, rr_0, rr_lt, rr_blt, rr_le, rr_ble, rr_eq, rr_beq, rr_nl_n, rr_nl_s, rr_bnl_n, rr_bnl_s, rr_cond_t, rr_cond_f, rr_bcond_t, rr_bcond_f, rr_bon, rr_bcv, rr_cv, rr_g, rr_gr, rr_si, rr_sz, rr_sr, rr_al, rr_ld, rr_st, rr_rl, rr_rs, rr_ni, rr_nr, rr_z, rr_div, rr_rem, rr_lc, rr_mx, rr_mn, rr_ab, rr_no, gd_t, bc_t, bc_f, gd_tt, bc_tt, bc_ff, or_true, true_or, and_true, true_and, Nat.reduceAdd, mo_b_s ig, mo_b_s ic]
            · rw [bc_f q2] at ic
              rw [bc_f (by omega)]
              by_cases qa : a < 0
              · simp (disch := omega) only [X6_isHunk, rr_p, rr_bp, rr_bb, rr_0, rr_lt, rr_blt, rr_le, rr_ble, rr_eq, rr_beq, rr_nl_n, rr_nl_s, rr_bnl_n, rr_bnl_s, rr_cond_t, rr_cond_f, rr_bcond_t, rr_bcond_f, rr_bon, rr_bcv, rr_cv, rr_g, rr_gr, rr_si, rr_sz, rr_sr, rr_al, rr_ld, rr_st, rr_rl, rr_rs, rr_ni, rr_nr, rr_z, rr_div, rr_rem, rr_lc, rr_mx, rr_mn, rr_ab, rr_no, gd_t, bc_t, bc_f, gd_tt, bc_tt, bc_ff, or_true, true_or, and_true, true_and, Nat.reduceAdd, mo_b_s ig, mo_b_s ic]
              · by_cases qb : a ≤ 14
                · simp (disch := omega) only [X6_isHunk, rr_p, rr_bp, rr_bb, rr_0, rr_lt, rr_blt, rr_le, rr_ble, rr_eq, rr_beq, rr_nl_n, rr_nl_s, rr_bnl_n, rr_bnl_s, rr_cond_t, rr_cond_f, rr_bcond_t, rr_bcond_f, rr_bon, rr_bcv, rr_cv, rr_g, rr_gr, rr_si, rr_sz, rr_sr, rr_al, rr_ld, rr_st, rr_rl, rr_rs, rr_ni, rr_nr, rr_z, rr_div, rr_rem, rr_lc, rr_mx, rr_mn, rr_ab, rr_no, gd_t, bc_t, bc_f, gd_tt, bc_tt, bc_ff, or_true, true_or, and_true, true_and, Nat.reduceAdd, mo_b_s ig, mo_b_s ic]
                · simp (disch := omega) only [X6_isHunk, rr_p, rr_bp, rr_bb, rr_0, rr_lt, rr_blt, rr_le, rr_ble, rr_eq, rr_beq, rr_nl_n, rr_nl_s, rr_bnl_n, rr_bnl_s, rr_cond_t, rr_cond_f, rr_bcond_t, rr_bcond_f, rr_bon, rr_bcv, rr_cv, rr_g, rr_gr, rr_si, rr_sz, rr_sr, rr_al, rr_ld, rr_st, rr_rl, rr_rs, rr_ni, rr_nr, rr_z, rr_div, rr_rem, rr_lc, rr_mx, rr_mn, rr_ab, rr_no, gd_t, bc_t, bc_f, gd_tt, bc_tt, bc_ff, or_true, true_or, and_true, true_and, Nat.reduceAdd, mo_b_s ig, mo_b_s ic]
        · rw [bc_f q1] at ig
          rw [bc_f (by omega)]
          by_cases qa : a < 0
          · simp (disch := omega) only [X6_isHunk, rr_p, rr_bp, rr_bb, rr_0, rr_lt, rr_blt, rr_le, rr_ble, rr_eq, rr_beq, rr_nl_n, rr_nl_s, rr_bnl_n, rr_bnl_s, rr_cond_t, rr_cond_f, rr_bcond_t, rr_bcond_f, rr_bon, rr_bcv, rr_cv, rr_g, rr_gr, rr_si, rr_sz, rr_sr, rr_al, rr_ld, rr_st, rr_rl, rr_rs, rr_ni, rr_nr, rr_z, rr_div, rr_rem, rr_lc, rr_mx, rr_mn, rr_ab, rr_no, gd_t, bc_t, bc_f, gd_tt, bc_tt, bc_ff, or_true, true_or, and_true, true_and, Nat.reduceAdd, mo_b_s ig]
          · by_cases qb : a ≤ 14
            · simp (disch := omega) only [X6_isHunk, rr_p, rr_bp, rr_bb, rr_0, rr_lt, rr_blt, rr_le, rr_ble, rr_eq, rr_beq, rr_nl_n, rr_nl_s, rr_bnl_n, rr_bnl_s, rr_cond_t, rr_cond_f, rr_bcond_t, rr_bcond_f, rr_bon, rr_bcv, rr_cv, rr_g, rr_gr, rr_si, rr_sz, rr_sr, rr_al, rr_ld, rr_st, rr_rl, rr_rs, rr_ni, rr_nr, rr_z, rr_div, rr_rem, rr_lc, rr_mx, rr_mn, rr_ab, rr_no, gd_t, bc_t, bc_f, gd_tt, bc_tt, bc_ff, or_true, true_or, and_true, true_and, Nat.reduceAdd, mo_b_s ig]
            · simp (disch := omega) only [X6_isHunk, rr_p, rr_bp, rr_bb, rr_0, rr_lt, rr_blt, rr_le, rr_ble, rr_eq, rr_beq, rr_nl_n, rr_nl_s, rr_bnl_n, rr_bnl_s, rr_cond_t, rr_cond_f, rr_bcond_t, rr_bcond_f, rr_bon, rr_bcv, rr_cv, rr_g, rr_gr, rr_si, rr_sz, rr_sr, rr_al, rr_ld, rr_st, rr_rl, rr_rs, rr_ni, rr_nr, rr_z, rr_div, rr_rem, rr_lc, rr_mx, rr_mn, rr_ab, rr_no, gd_t, bc_t, bc_f, gd_tt, bc_tt, bc_ff, or_true, true_or, and_true, true_and, Nat.reduceAdd, mo_b_s ig]
    -- in the model: whether it is behind the last one
    have mbe : ∀ m h, MI h m (D, V, Q, d) → mo_b (mo_eq ((pt Q pn).length : Int) 0 (mo_p (1 : Int)) (mo_b (op_gr 7 (some m) 10) fun t4 => mo_b (op_ld t4 (((10 * (pn : Int)) + ((pt Q pn).length : Int)) - 1)) fun t5 => mo_b (op_gr 7 (some m) 11) fun t6 => mo_b (op_ld t6 (((10 * (pn : Int)) + ((pt Q pn).length : Int)) - 1)) fun t7 => mo_le a (t5 + t7) (mo_p 0) (mo_p 1))) mo_p h = some (br (pt Q pn = [] ∨ (hk (pt Q pn) ((pt Q pn).length - 1)).1 + (hk (pt Q pn) ((pt Q pn).length - 1)).2.1.length < a) 1 0, h) := by
      intro m h hM
      have mT := hM.1.1
      obtain ⟨p8, t8, n8⟩ := ms8 hM.1
      obtain ⟨p9, t9, n9⟩ := ms9 hM.1
      by_cases q0 : (pt Q pn).length = 0
      · rw [bc_t (Or.inl (List.length_eq_zero_iff.mp q0))]
        simp (disch := omega) only [rr_p, rr_bp, rr_bb, rr_0, rr_lt, rr_blt, rr_le, rr_ble, rr_eq, rr_beq, rr_nl_n, rr_nl_s, rr_bnl_n, rr_bnl_s, rr_cond_t, rr_cond_f, rr_bcond_t, rr_bcond_f, rr_bon, rr_bcv, rr_cv, rr_g, rr_gr, rr_si, rr_sz, rr_sr, rr_al, rr_ld, rr_st, rr_rl, rr_rs, rr_ni, rr_nr, rr_z, rr_div, rr_rem, rr_lc, rr_mx, rr_mn, rr_ab, rr_no, gd_t, bc_t, bc_f, gd_tt, bc_tt, bc_ff, or_true, true_or, and_true, true_and, Nat.reduceAdd]
      · have hne : ¬ pt Q pn = [] := fun z => q0 (by rw [z]; rfl)
        obtain ⟨b1, b2, b3⟩ := mQ_a (MI_Q hM ho (p := pn) hpl) (i := ((pt Q pn).length : Int) - 1) (by omega) (by dsimp only; omega)
        dsimp only at b1 b2 b3
        rw [show 10 * (pn : Int) + (((pt Q pn).length : Int) - 1) = 10 * (pn : Int) + ((pt Q pn).length : Int) - 1 by omega, show (((pt Q pn).length : Int) - 1).toNat = (pt Q pn).length - 1 by omega] at b1 b2
        have hr := hends ((pt Q pn).length - 1) (by omega)
        by_cases q1 : a ≤ (hk (pt Q pn) ((pt Q pn).length - 1)).1 + ((hk (pt Q pn) ((pt Q pn).length - 1)).2.1.length : Int)
        · rw [bc_f (fun z => by rcases z with z | z <;> first | exact hne z | omega)]
          simp (disch := omega) only [rr_p, rr_bp, rr_bb, rr_0, rr_lt, rr_blt, rr_le, rr_ble, rr_eq, rr_beq, rr_nl_n, rr_nl_s, rr_bnl_n, rr_bnl_s, rr_cond_t, rr_cond_f, rr_bcond_t, rr_bcond_f, rr_bon, rr_bcv, rr_cv, rr_g, rr_gr, rr_si, rr_sz, rr_sr, rr_al, rr_ld, rr_st, rr_rl, rr_rs, rr_ni, rr_nr, rr_z, rr_div, rr_rem, rr_lc, rr_mx, rr_mn, rr_ab, rr_no, gd_t, bc_t, bc_f, gd_tt, bc_tt, bc_ff, or_true, true_or, and_true, true_and, Nat.reduceAdd, p8, p9, b1, b2]
        · rw [bc_t (Or.inr (by omega))]
          simp (disch := omega) only [rr_p, rr_bp, rr_bb, rr_0, rr_lt, rr_blt, rr_le, rr_ble, rr_eq, rr_beq, rr_nl_n, rr_nl_s, rr_bnl_n, rr_bnl_s, rr_cond_t, rr_cond_f, rr_bcond_t, rr_bcond_f, rr_bon, rr_bcv, rr_cv, rr_g, rr_gr, rr_si, rr_sz, rr_sr, rr_al, rr_ld, rr_st, rr_rl, rr_rs, rr_ni, rr_nr, rr_z, rr_div, rr_rem, rr_lc, rr_mx, rr_mn, rr_ab, rr_no, gd_t, bc_t, bc_f, gd_tt, bc_tt, bc_ff, or_true, true_or, and_true, true_and, Nat.reduceAdd, p8, p9, b1, b2]
    have mwi : ∀ h, (X7_within a 0 14 h = some (br (0 ≤ a ∧ a ≤ 14) 1 0, h)) ∧ (X7_within g (-1) 99 h = some (br (-1 ≤ g ∧ g ≤ 99) 1 0, h)) ∧ (X7_within c (-1) 99 h = some (br (-1 ≤ c ∧ c ≤ 99) 1 0, h)) := fun h =>
      ⟨q7_within ha2 (by unfold am_r; omega) (by unfold am_r; omega), q7_within (by unfold am_r; omega) (by unfold am_r; omega) (by unfold am_r; omega), q7_within (by unfold am_r; omega) (by unfold am_r; omega) (by unfold am_r; omega)⟩
    by_cases c2 : (0 ≤ a ∧ a ≤ 14) ∧ (-1 ≤ g ∧ g ≤ 99) ∧ (-1 ≤ c ∧ c ≤ 99) ∧ ¬ (g = -1 ∧ c = -1)
    · by_cases c3 : pt Q pn = [] ∨ (hk (pt Q pn) ((pt Q pn).length - 1)).1 + (hk (pt Q pn) ((pt Q pn).length - 1)).2.1.length < a
      · by_cases c4 : (pt Q pn).length < 10 ∧ (fG (pt Q pn)).length + (oneL g).length ≤ 28 ∧ (fC (pt Q pn)).length + (oneL c).length ≤ 28
        · have hOP2 := OP_snoc (q := (a, oneL g, oneL c)) hOP c2.1.1 c3 (by dsimp only; omega) (oneL_wL c2.2.1) (oneL_wL c2.2.2.1) c4.1 c4.2.1 c4.2.2
          refine ⟨((pt Q pn).length : Int) + 1, (D, V, Q.set pn (pt Q pn ++ [(a, oneL g, oneL c)]), d), ⟨⟨hD1, hD2⟩, oV, ⟨by rw [List.length_set]; exact oQ1, fun k hk => ?_⟩, od⟩, ?_, ?_⟩
          · rw [List.length_set] at hk
            rw [pt_set hpl]
            by_cases e : k = pn
            · rw [if_pos e, e]; exact hOP2
            · rw [if_neg e]; exact oQ.2 k hk
          · intro x h hK
            obtain ⟨hR, nD, hSc, A, B, hB⟩ := id hK
            obtain ⟨⟨o1, ⟨p0, p1, p2, p4, p6, p7, p8, p9, p10, p11, p12⟩, o3, o4, o5, o6, o7, o8, o9⟩, ⟨f3, f5, f13⟩, hA, hQ, hM, hX⟩ := id hB
            dsimp only at hR hB hA hQ hM hX f3 f5 f13
            have e1 := q6_patchOrNull hB oQ1 hp2
            rw [if_pos c1, Int.toNat_natCast] at e1
            obtain ⟨y1, y2, y3, y4⟩ := hQ pn hpl
            have t0 := y2.1.1.1
            have e2 := kis h
            rw [bc_t c2] at e2
            have e3 := q3_mayBeginNext y2 hPV (p := a) (by omega)
            rw [bc_t c3] at e3
            have e4 := q3_hunks y2
            have e5 := q3_allGoing y2
            have e6 := q3_allComing y2
            obtain ⟨h1, E1, r1, g1⟩ := q3_begin y2 (p := a) c4.1
            have t1 := r1.1.1.1
            unfold oneL at c4
            by_cases qg : g = -1
            · rw [if_pos qg] at c4
              have qc : ¬ c = -1 := fun z => c2.2.2.2 ⟨qg, z⟩
              rw [if_neg qc] at c4
              simp only [List.length_cons, List.length_nil] at c4
              obtain ⟨h2, E2, r2, g2⟩ := q3_addComing r1 (v := c) (by simp only [List.length_nil]; omega)
              have t2 := r2.1.1.1
              have e7 := q3_hunks r2
              rw [List.nil_append] at r2
              refine ⟨h2, ?_, KI_patch hK hB hpl (g1.tr g2 (Nat.le_refl _) (Nat.le_refl _) (Nat.le_refl _) (Nat.le_refl _)) ?_⟩
              · simp (disch := omega) only [X6_hunk, X6_isPatchSize, rr_p, rr_bp, rr_bb, rr_0, rr_lt, rr_blt, rr_le, rr_ble, rr_eq, rr_beq, rr_nl_n, rr_nl_s, rr_bnl_n, rr_bnl_s, rr_cond_t, rr_cond_f, rr_bcond_t, rr_bcond_f, rr_bon, rr_bcv, rr_cv, rr_g, rr_gr, rr_si, rr_sz, rr_sr, rr_al, rr_ld, rr_st, rr_rl, rr_rs, rr_ni, rr_nr, rr_z, rr_div, rr_rem, rr_lc, rr_mx, rr_mn, rr_ab, rr_no, gd_t, bc_t, bc_f, gd_tt, bc_tt, bc_ff, or_true, true_or, and_true, true_and, Nat.reduceAdd, mo_b_s e1, mo_b_s e2, mo_b_s e3, mo_b_s e4, mo_b_s e5, mo_b_s e6, mo_b_s E1, mo_b_s E2, mo_b_s e7]
                simp
              · unfold oneL; rw [if_pos qg, if_neg qc]; exact r2
            · rw [if_neg qg] at c4
              by_cases qc : c = -1
              · rw [if_pos qc] at c4
                simp only [List.length_cons, List.length_nil] at c4
                obtain ⟨h2, E2, r2, g2⟩ := q3_addGoing r1 (v := g) (by simp only [List.length_nil]; omega)
                have t2 := r2.1.1.1
                have e7 := q3_hunks r2
                rw [List.nil_append] at r2
                refine ⟨h2, ?_, KI_patch hK hB hpl (g1.tr g2 (Nat.le_refl _) (Nat.le_refl _) (Nat.le_refl _) (Nat.le_refl _)) ?_⟩
                · simp (disch := omega) only [X6_hunk, X6_isPatchSize, rr_p, rr_bp, rr_bb, rr_0, rr_lt, rr_blt, rr_le, rr_ble, rr_eq, rr_beq, rr_nl_n, rr_nl_s, rr_bnl_n, rr_bnl_s, rr_cond_t, rr_cond_f, rr_bcond_t, rr_bcond_f, rr_bon, rr_bcv, rr_cv, rr_g, rr_gr, rr_si, rr_sz, rr_sr, rr_al, rr_ld, rr_st, rr_rl, rr_rs, rr_ni, rr_nr, rr_z, rr_div, rr_rem, rr_lc, rr_mx, rr_mn, rr_ab, rr_no, gd_t, bc_t, bc_f, gd_tt, bc_tt, bc_ff, or_true, true_or, and_true, true_and, Nat.reduceAdd, mo_b_s e1, mo_b_s e2, mo_b_s e3, mo_b_s e4, mo_b_s e5, mo_b_s e6, mo_b_s E1, mo_b_s E2, mo_b_s e7]
                  simp
                · unfold oneL; rw [if_neg qg, if_pos qc]; exact r2
              · rw [if_neg qc] at c4
                simp only [List.length_cons, List.length_nil] at c4
                obtain ⟨h2, E2, r2, g2⟩ := q3_addGoing r1 (v := g) (by simp only [List.length_nil]; omega)
                have t2 := r2.1.1.1
                obtain ⟨h3, E3, r3, g3⟩ := q3_addComing r2 (v := c) (by simp only [List.length_nil]; omega)
                have t3 := r3.1.1.1
                have e7 := q3_hunks r3
                rw [List.nil_append, List.nil_append] at r3
                refine ⟨h3, ?_, KI_patch hK hB hpl ((g1.tr g2 (Nat.le_refl _) (Nat.le_refl _) (Nat.le_refl _) (Nat.le_refl _)).tr g3 (Nat.le_refl _) (Nat.le_refl _) (Nat.le_refl _) (Nat.le_refl _)) ?_⟩
                · simp (disch := omega) only [X6_hunk, X6_isPatchSize, rr_p, rr_bp, rr_bb, rr_0, rr_lt, rr_blt, rr_le, rr_ble, rr_eq, rr_beq, rr_nl_n, rr_nl_s, rr_bnl_n, rr_bnl_s, rr_cond_t, rr_cond_f, rr_bcond_t, rr_bcond_f, rr_bon, rr_bcv, rr_cv, rr_g, rr_gr, rr_si, rr_sz, rr_sr, rr_al, rr_ld, rr_st, rr_rl, rr_rs, rr_ni, rr_nr, rr_z, rr_div, rr_rem, rr_lc, rr_mx, rr_mn, rr_ab, rr_no, gd_t, bc_t, bc_f, gd_tt, bc_tt, bc_ff, or_true, true_or, and_true, true_and, Nat.reduceAdd, mo_b_s e1, mo_b_s e2, mo_b_s e3, mo_b_s e4, mo_b_s e5, mo_b_s e6, mo_b_s E1, mo_b_s E2, mo_b_s E3, mo_b_s e7]
                  simp
                · unfold oneL; rw [if_neg qg, if_neg qc]; exact r3
          · intro m h hM
            have mT := hM.1.1
            have hQ := MI_Q hM ho (p := pn) hpl
            have w1 := hQ.2.1.1
            dsimp only at w1
            obtain ⟨p7, t7, n7⟩ := ms7 hM.1
            obtain ⟨p8, t8, n8⟩ := ms8 hM.1
            obtain ⟨p9, t9, n9⟩ := ms9 hM.1
            obtain ⟨p10, t10, n10⟩ := ms10 hM.1
            obtain ⟨p11, t11, n11⟩ := ms11 hM.1
            obtain ⟨p12, t12, n12⟩ := ms12 hM.1
            have e1 := q7_isPatch hM oQ1 hp2
            dsimp only at e1
            rw [bc_t c1] at e1
            have e2 := mbe m h hM
            rw [bc_t c3, mo_bp] at e2
            obtain ⟨i1, i2, i3⟩ := mwi h
            rw [bc_t c2.1] at i1
            rw [bc_t c2.2.1] at i2
            rw [bc_t c2.2.2.1] at i3
            have e4 := q7_goesOf hQ
            have e5 := q7_comesOf hQ
            dsimp only at e4 e5
            by_cases qg : g = -1
            · have qc : ¬ c = -1 := fun z => c2.2.2.2 ⟨qg, z⟩
              have og : oneL g = [] := by unfold oneL; rw [if_pos qg]
              have oc : oneL c = [c] := by unfold oneL; rw [if_neg qc]
              rw [og, oc] at c4 ⊢
              simp only [List.length_cons, List.length_nil] at c4
              refine ⟨ah_sI (ah_sI (ah_sI (ah_sI (ah_sI h (m + 8) (10 * (pn : Int) + ((pt Q pn).length : Int)) a) (m + 9) (10 * (pn : Int) + ((pt Q pn).length : Int)) 0) (m + 10) (10 * (pn : Int) + ((pt Q pn).length : Int)) 1) (m + 12) (28 * (pn : Int) + ((fC (pt Q pn)).length : Int)) c) (m + 7) (pn : Int) (((pt Q pn).length : Int) + 1), ?_, m_hunkAdd hM (OQ_b oQ) hpl c4.1 (by simp only [List.length_nil]; omega) (by simp only [List.length_cons, List.length_nil]; omega) ?_ ?_ ?_ ?_ ?_ ?_ ?_ ?_ ?_⟩
              · simp (disch := omega) only [X7_hunk, rr_p, rr_bp, rr_bb, rr_0, rr_lt, rr_blt, rr_le, rr_ble, rr_eq, rr_beq, rr_nl_n, rr_nl_s, rr_bnl_n, rr_bnl_s, rr_cond_t, rr_cond_f, rr_bcond_t, rr_bcond_f, rr_bon, rr_bcv, rr_cv, rr_g, rr_gr, rr_si, rr_sz, rr_sr, rr_al, rr_ld, rr_st, rr_rl, rr_rs, rr_ni, rr_nr, rr_z, rr_div, rr_rem, rr_lc, rr_mx, rr_mn, rr_ab, rr_no, gd_t, bc_t, bc_f, gd_tt, bc_tt, bc_ff, or_true, true_or, and_true, true_and, Nat.reduceAdd, hl_T_sF, hl_N_sF, hl_P_sF, hl_I_sF, hl_R_sF, hl_S_sF, hl_T_sP, hl_N_sP, hl_F_sP, hl_I_sP, hl_R_sP, hl_S_sP, hl_T_sI, hl_N_sI, hl_F_sI, hl_P_sI, hl_R_sI, hl_S_sI, hl_T_sR, hl_N_sR, hl_F_sR, hl_P_sR, hl_I_sR, hl_S_sR, hl_T_wI, hl_N_wI, hl_F_wI, hl_P_wI, hl_R_wI, hl_S_wI, hl_F_sF_s, hl_F_sF_n, hl_P_sP_s, hl_P_sP_n, hl_I_sI_s, hl_I_sI_n, hl_R_sR_s, hl_R_sR_n, hl_I_wI_s, hl_I_wI_n, p7, p8, p9, p10, p11, p12, w1, mo_b_s e1, mo_b_s e2, mo_b_s i1, mo_b_s i2, mo_b_s i3, mo_b_s e4, mo_b_s e5]
              · refine ⟨rfl, rfl, rfl, rfl, fun k hk => ?_, fun k hk => rfl⟩
                funext y
                simp (disch := omega) only [hl_T_sF, hl_N_sF, hl_P_sF, hl_I_sF, hl_R_sF, hl_S_sF, hl_T_sP, hl_N_sP, hl_F_sP, hl_I_sP, hl_R_sP, hl_S_sP, hl_T_sI, hl_N_sI, hl_F_sI, hl_P_sI, hl_R_sI, hl_S_sI, hl_T_sR, hl_N_sR, hl_F_sR, hl_P_sR, hl_I_sR, hl_S_sR, hl_T_wI, hl_N_wI, hl_F_wI, hl_P_wI, hl_R_wI, hl_S_wI, hl_F_sF_s, hl_F_sF_n, hl_P_sP_s, hl_P_sP_n, hl_I_sI_s, hl_I_sI_n, hl_R_sR_s, hl_R_sR_n, hl_I_wI_s, hl_I_wI_n]
              · intro y; rw [hl_I_sI]; simp (disch := omega) only [hl_T_sF, hl_N_sF, hl_P_sF, hl_I_sF, hl_R_sF, hl_S_sF, hl_T_sP, hl_N_sP, hl_F_sP, hl_I_sP, hl_R_sP, hl_S_sP, hl_T_sI, hl_N_sI, hl_F_sI, hl_P_sI, hl_R_sI, hl_S_sI, hl_T_sR, hl_N_sR, hl_F_sR, hl_P_sR, hl_I_sR, hl_S_sR, hl_T_wI, hl_N_wI, hl_F_wI, hl_P_wI, hl_R_wI, hl_S_wI, hl_F_sF_s, hl_F_sF_n, hl_P_sP_s, hl_P_sP_n, hl_I_sI_s, hl_I_sI_n, hl_R_sR_s, hl_R_sR_n, hl_I_wI_s, hl_I_wI_n]; simp
              · intro y; simp (disch := omega) only [hl_T_sF, hl_N_sF, hl_P_sF, hl_I_sF, hl_R_sF, hl_S_sF, hl_T_sP, hl_N_sP, hl_F_sP, hl_I_sP, hl_R_sP, hl_S_sP, hl_T_sI, hl_N_sI, hl_F_sI, hl_P_sI, hl_R_sI, hl_S_sI, hl_T_sR, hl_N_sR, hl_F_sR, hl_P_sR, hl_I_sR, hl_S_sR, hl_T_wI, hl_N_wI, hl_F_wI, hl_P_wI, hl_R_wI, hl_S_wI, hl_F_sF_s, hl_F_sF_n, hl_P_sP_s, hl_P_sP_n, hl_I_sI_s, hl_I_sI_n, hl_R_sR_s, hl_R_sR_n, hl_I_wI_s, hl_I_wI_n]; rw [hl_I_sI]; simp
              · intro y; simp (disch := omega) only [hl_T_sF, hl_N_sF, hl_P_sF, hl_I_sF, hl_R_sF, hl_S_sF, hl_T_sP, hl_N_sP, hl_F_sP, hl_I_sP, hl_R_sP, hl_S_sP, hl_T_sI, hl_N_sI, hl_F_sI, hl_P_sI, hl_R_sI, hl_S_sI, hl_T_sR, hl_N_sR, hl_F_sR, hl_P_sR, hl_I_sR, hl_S_sR, hl_T_wI, hl_N_wI, hl_F_wI, hl_P_wI, hl_R_wI, hl_S_wI, hl_F_sF_s, hl_F_sF_n, hl_P_sP_s, hl_P_sP_n, hl_I_sI_s, hl_I_sI_n, hl_R_sR_s, hl_R_sR_n, hl_I_wI_s, hl_I_wI_n]; rw [hl_I_sI]; simp (disch := omega) only [hl_T_sF, hl_N_sF, hl_P_sF, hl_I_sF, hl_R_sF, hl_S_sF, hl_T_sP, hl_N_sP, hl_F_sP, hl_I_sP, hl_R_sP, hl_S_sP, hl_T_sI, hl_N_sI, hl_F_sI, hl_P_sI, hl_R_sI, hl_S_sI, hl_T_sR, hl_N_sR, hl_F_sR, hl_P_sR, hl_I_sR, hl_S_sR, hl_T_wI, hl_N_wI, hl_F_wI, hl_P_wI, hl_R_wI, hl_S_wI, hl_F_sF_s, hl_F_sF_n, hl_P_sP_s, hl_P_sP_n, hl_I_sI_s, hl_I_sI_n, hl_R_sR_s, hl_R_sR_n, hl_I_wI_s, hl_I_wI_n]; simp
              · intro y; simp (disch := omega) only [hl_T_sF, hl_N_sF, hl_P_sF, hl_I_sF, hl_R_sF, hl_S_sF, hl_T_sP, hl_N_sP, hl_F_sP, hl_I_sP, hl_R_sP, hl_S_sP, hl_T_sI, hl_N_sI, hl_F_sI, hl_P_sI, hl_R_sI, hl_S_sI, hl_T_sR, hl_N_sR, hl_F_sR, hl_P_sR, hl_I_sR, hl_S_sR, hl_T_wI, hl_N_wI, hl_F_wI, hl_P_wI, hl_R_wI, hl_S_wI, hl_F_sF_s, hl_F_sF_n, hl_P_sP_s, hl_P_sP_n, hl_I_sI_s, hl_I_sI_n, hl_R_sR_s, hl_R_sR_n, hl_I_wI_s, hl_I_wI_n]; rw [hl_I_sI]; simp (disch := omega) only [hl_T_sF, hl_N_sF, hl_P_sF, hl_I_sF, hl_R_sF, hl_S_sF, hl_T_sP, hl_N_sP, hl_F_sP, hl_I_sP, hl_R_sP, hl_S_sP, hl_T_sI, hl_N_sI, hl_F_sI, hl_P_sI, hl_R_sI, hl_S_sI, hl_T_sR, hl_N_sR, hl_F_sR, hl_P_sR, hl_I_sR, hl_S_sR, hl_T_wI, hl_N_wI, hl_F_wI, hl_P_wI, hl_R_wI, hl_S_wI, hl_F_sF_s, hl_F_sF_n, hl_P_sP_s, hl_P_sP_n, hl_I_sI_s, hl_I_sI_n, hl_R_sR_s, hl_R_sR_n, hl_I_wI_s, hl_I_wI_n]; simp
              · intro y hy; simp (disch := omega) only [hl_T_sF, hl_N_sF, hl_P_sF, hl_I_sF, hl_R_sF, hl_S_sF, hl_T_sP, hl_N_sP, hl_F_sP, hl_I_sP, hl_R_sP, hl_S_sP, hl_T_sI, hl_N_sI, hl_F_sI, hl_P_sI, hl_R_sI, hl_S_sI, hl_T_sR, hl_N_sR, hl_F_sR, hl_P_sR, hl_I_sR, hl_S_sR, hl_T_wI, hl_N_wI, hl_F_wI, hl_P_wI, hl_R_wI, hl_S_wI, hl_F_sF_s, hl_F_sF_n, hl_P_sP_s, hl_P_sP_n, hl_I_sI_s, hl_I_sI_n, hl_R_sR_s, hl_R_sR_n, hl_I_wI_s, hl_I_wI_n]
              · intro k hk; simp at hk
              · intro y hy; simp only [List.length_cons, List.length_nil] at hy; simp (disch := omega) only [hl_T_sF, hl_N_sF, hl_P_sF, hl_I_sF, hl_R_sF, hl_S_sF, hl_T_sP, hl_N_sP, hl_F_sP, hl_I_sP, hl_R_sP, hl_S_sP, hl_T_sI, hl_N_sI, hl_F_sI, hl_P_sI, hl_R_sI, hl_S_sI, hl_T_sR, hl_N_sR, hl_F_sR, hl_P_sR, hl_I_sR, hl_S_sR, hl_T_wI, hl_N_wI, hl_F_wI, hl_P_wI, hl_R_wI, hl_S_wI, hl_F_sF_s, hl_F_sF_n, hl_P_sP_s, hl_P_sP_n, hl_I_sI_s, hl_I_sI_n, hl_R_sR_s, hl_R_sR_n, hl_I_wI_s, hl_I_wI_n]
              · intro k hk
                have : k = 0 := by simpa using hk
                subst this
                rw [show 28 * (pn : Int) + ((fC (pt Q pn)).length : Int) + ((0 : Nat) : Int) = 28 * (pn : Int) + ((fC (pt Q pn)).length : Int) by omega]
                simp (disch := omega) only [hl_T_sF, hl_N_sF, hl_P_sF, hl_I_sF, hl_R_sF, hl_S_sF, hl_T_sP, hl_N_sP, hl_F_sP, hl_I_sP, hl_R_sP, hl_S_sP, hl_T_sI, hl_N_sI, hl_F_sI, hl_P_sI, hl_R_sI, hl_S_sI, hl_T_sR, hl_N_sR, hl_F_sR, hl_P_sR, hl_I_sR, hl_S_sR, hl_T_wI, hl_N_wI, hl_F_wI, hl_P_wI, hl_R_wI, hl_S_wI, hl_F_sF_s, hl_F_sF_n, hl_P_sP_s, hl_P_sP_n, hl_I_sI_s, hl_I_sI_n, hl_R_sR_s, hl_R_sR_n, hl_I_wI_s, hl_I_wI_n]; rfl
            · have og : oneL g = [g] := by unfold oneL; rw [if_neg qg]
              by_cases qc : c = -1
              · have oc : oneL c = [] := by unfold oneL; rw [if_pos qc]
                rw [og, oc] at c4 ⊢
                simp only [List.length_cons, List.length_nil] at c4
                refine ⟨ah_sI (ah_sI (ah_sI (ah_sI (ah_sI h (m + 8) (10 * (pn : Int) + ((pt Q pn).length : Int)) a) (m + 9) (10 * (pn : Int) + ((pt Q pn).length : Int)) 1) (m + 10) (10 * (pn : Int) + ((pt Q pn).length : Int)) 0) (m + 11) (28 * (pn : Int) + ((fG (pt Q pn)).length : Int)) g) (m + 7) (pn : Int) (((pt Q pn).length : Int) + 1), ?_, m_hunkAdd hM (OQ_b oQ) hpl c4.1 (by simp only [List.length_cons, List.length_nil]; omega) (by simp only [List.length_nil]; omega) ?_ ?_ ?_ ?_ ?_ ?_ ?_ ?_ ?_⟩
                · simp (disch := omega) only [X7_hunk, rr_p, rr_bp, rr_bb, rr_0, rr_lt, rr_blt, rr_le, rr_ble, rr_eq, rr_beq, rr_nl_n, rr_nl_s, rr_bnl_n, rr_bnl_s, rr_cond_t, rr_cond_f, rr_bcond_t, rr_bcond_f, rr_bon, rr_bcv, rr_cv, rr_g, rr_gr, rr_si, rr_sz, rr_sr, rr_al, rr_ld, rr_st, rr_rl, rr_rs, rr_ni, rr_nr, rr_z, rr_div, rr_rem, rr_lc, rr_mx, rr_mn, rr_ab, rr_no, gd_t, bc_t, bc_f, gd_tt, bc_tt, bc_ff, or_true, true_or, and_true, true_and, Nat.reduceAdd, hl_T_sF, hl_N_sF, hl_P_sF, hl_I_sF, hl_R_sF, hl_S_sF, hl_T_sP, hl_N_sP, hl_F_sP, hl_I_sP, hl_R_sP, hl_S_sP, hl_T_sI, hl_N_sI, hl_F_sI, hl_P_sI, hl_R_sI, hl_S_sI, hl_T_sR, hl_N_sR, hl_F_sR, hl_P_sR, hl_I_sR, hl_S_sR, hl_T_wI, hl_N_wI, hl_F_wI, hl_P_wI, hl_R_wI, hl_S_wI, hl_F_sF_s, hl_F_sF_n, hl_P_sP_s, hl_P_sP_n, hl_I_sI_s, hl_I_sI_n, hl_R_sR_s, hl_R_sR_n, hl_I_wI_s, hl_I_wI_n, p7, p8, p9, p10, p11, p12, w1, mo_b_s e1, mo_b_s e2, mo_b_s i1, mo_b_s i2, mo_b_s i3, mo_b_s e4, mo_b_s e5]
                · refine ⟨rfl, rfl, rfl, rfl, fun k hk => ?_, fun k hk => rfl⟩
                  funext y
                  simp (disch := omega) only [hl_T_sF, hl_N_sF, hl_P_sF, hl_I_sF, hl_R_sF, hl_S_sF, hl_T_sP, hl_N_sP, hl_F_sP, hl_I_sP, hl_R_sP, hl_S_sP, hl_T_sI, hl_N_sI, hl_F_sI, hl_P_sI, hl_R_sI, hl_S_sI, hl_T_sR, hl_N_sR, hl_F_sR, hl_P_sR, hl_I_sR, hl_S_sR, hl_T_wI, hl_N_wI, hl_F_wI, hl_P_wI, hl_R_wI, hl_S_wI, hl_F_sF_s, hl_F_sF_n, hl_P_sP_s, hl_P_sP_n, hl_I_sI_s, hl_I_sI_n, hl_R_sR_s, hl_R_sR_n, hl_I_wI_s, hl_I_wI_n]
                · intro y; rw [hl_I_sI]; simp (disch := omega) only [hl_T_sF, hl_N_sF, hl_P_sF, hl_I_sF, hl_R_sF, hl_S_sF, hl_T_sP, hl_N_sP, hl_F_sP, hl_I_sP, hl_R_sP, hl_S_sP, hl_T_sI, hl_N_sI, hl_F_sI, hl_P_sI, hl_R_sI, hl_S_sI, hl_T_sR, hl_N_sR, hl_F_sR, hl_P_sR, hl_I_sR, hl_S_sR, hl_T_wI, hl_N_wI, hl_F_wI, hl_P_wI, hl_R_wI, hl_S_wI, hl_F_sF_s, hl_F_sF_n, hl_P_sP_s, hl_P_sP_n, hl_I_sI_s, hl_I_sI_n, hl_R_sR_s, hl_R_sR_n, hl_I_wI_s, hl_I_wI_n]; simp
                · intro y; simp (disch := omega) only [hl_T_sF, hl_N_sF, hl_P_sF, hl_I_sF, hl_R_sF, hl_S_sF, hl_T_sP, hl_N_sP, hl_F_sP, hl_I_sP, hl_R_sP, hl_S_sP, hl_T_sI, hl_N_sI, hl_F_sI, hl_P_sI, hl_R_sI, hl_S_sI, hl_T_sR, hl_N_sR, hl_F_sR, hl_P_sR, hl_I_sR, hl_S_sR, hl_T_wI, hl_N_wI, hl_F_wI, hl_P_wI, hl_R_wI, hl_S_wI, hl_F_sF_s, hl_F_sF_n, hl_P_sP_s, hl_P_sP_n, hl_I_sI_s, hl_I_sI_n, hl_R_sR_s, hl_R_sR_n, hl_I_wI_s, hl_I_wI_n]; rw [hl_I_sI]; simp
                · intro y; simp (disch := omega) only [hl_T_sF, hl_N_sF, hl_P_sF, hl_I_sF, hl_R_sF, hl_S_sF, hl_T_sP, hl_N_sP, hl_F_sP, hl_I_sP, hl_R_sP, hl_S_sP, hl_T_sI, hl_N_sI, hl_F_sI, hl_P_sI, hl_R_sI, hl_S_sI, hl_T_sR, hl_N_sR, hl_F_sR, hl_P_sR, hl_I_sR, hl_S_sR, hl_T_wI, hl_N_wI, hl_F_wI, hl_P_wI, hl_R_wI, hl_S_wI, hl_F_sF_s, hl_F_sF_n, hl_P_sP_s, hl_P_sP_n, hl_I_sI_s, hl_I_sI_n, hl_R_sR_s, hl_R_sR_n, hl_I_wI_s, hl_I_wI_n]; rw [hl_I_sI]; simp (disch := omega) only [hl_T_sF, hl_N_sF, hl_P_sF, hl_I_sF, hl_R_sF, hl_S_sF, hl_T_sP, hl_N_sP, hl_F_sP, hl_I_sP, hl_R_sP, hl_S_sP, hl_T_sI, hl_N_sI, hl_F_sI, hl_P_sI, hl_R_sI, hl_S_sI, hl_T_sR, hl_N_sR, hl_F_sR, hl_P_sR, hl_I_sR, hl_S_sR, hl_T_wI, hl_N_wI, hl_F_wI, hl_P_wI, hl_R_wI, hl_S_wI, hl_F_sF_s, hl_F_sF_n, hl_P_sP_s, hl_P_sP_n, hl_I_sI_s, hl_I_sI_n, hl_R_sR_s, hl_R_sR_n, hl_I_wI_s, hl_I_wI_n]; simp
                · intro y; simp (disch := omega) only [hl_T_sF, hl_N_sF, hl_P_sF, hl_I_sF, hl_R_sF, hl_S_sF, hl_T_sP, hl_N_sP, hl_F_sP, hl_I_sP, hl_R_sP, hl_S_sP, hl_T_sI, hl_N_sI, hl_F_sI, hl_P_sI, hl_R_sI, hl_S_sI, hl_T_sR, hl_N_sR, hl_F_sR, hl_P_sR, hl_I_sR, hl_S_sR, hl_T_wI, hl_N_wI, hl_F_wI, hl_P_wI, hl_R_wI, hl_S_wI, hl_F_sF_s, hl_F_sF_n, hl_P_sP_s, hl_P_sP_n, hl_I_sI_s, hl_I_sI_n, hl_R_sR_s, hl_R_sR_n, hl_I_wI_s, hl_I_wI_n]; rw [hl_I_sI]; simp (disch := omega) only [hl_T_sF, hl_N_sF, hl_P_sF, hl_I_sF, hl_R_sF, hl_S_sF, hl_T_sP, hl_N_sP, hl_F_sP, hl_I_sP, hl_R_sP, hl_S_sP, hl_T_sI, hl_N_sI, hl_F_sI, hl_P_sI, hl_R_sI, hl_S_sI, hl_T_sR, hl_N_sR, hl_F_sR, hl_P_sR, hl_I_sR, hl_S_sR, hl_T_wI, hl_N_wI, hl_F_wI, hl_P_wI, hl_R_wI, hl_S_wI, hl_F_sF_s, hl_F_sF_n, hl_P_sP_s, hl_P_sP_n, hl_I_sI_s, hl_I_sI_n, hl_R_sR_s, hl_R_sR_n, hl_I_wI_s, hl_I_wI_n]; simp
                · intro y hy; simp only [List.length_cons, List.length_nil] at hy; simp (disch := omega) only [hl_T_sF, hl_N_sF, hl_P_sF, hl_I_sF, hl_R_sF, hl_S_sF, hl_T_sP, hl_N_sP, hl_F_sP, hl_I_sP, hl_R_sP, hl_S_sP, hl_T_sI, hl_N_sI, hl_F_sI, hl_P_sI, hl_R_sI, hl_S_sI, hl_T_sR, hl_N_sR, hl_F_sR, hl_P_sR, hl_I_sR, hl_S_sR, hl_T_wI, hl_N_wI, hl_F_wI, hl_P_wI, hl_R_wI, hl_S_wI, hl_F_sF_s, hl_F_sF_n, hl_P_sP_s, hl_P_sP_n, hl_I_sI_s, hl_I_sI_n, hl_R_sR_s, hl_R_sR_n, hl_I_wI_s, hl_I_wI_n]
                · intro k hk
                  have : k = 0 := by simpa using hk
                  subst this
                  rw [show 28 * (pn : Int) + ((fG (pt Q pn)).length : Int) + ((0 : Nat) : Int) = 28 * (pn : Int) + ((fG (pt Q pn)).length : Int) by omega]
                  simp (disch := omega) only [hl_T_sF, hl_N_sF, hl_P_sF, hl_I_sF, hl_R_sF, hl_S_sF, hl_T_sP, hl_N_sP, hl_F_sP, hl_I_sP, hl_R_sP, hl_S_sP, hl_T_sI, hl_N_sI, hl_F_sI, hl_P_sI, hl_R_sI, hl_S_sI, hl_T_sR, hl_N_sR, hl_F_sR, hl_P_sR, hl_I_sR, hl_S_sR, hl_T_wI, hl_N_wI, hl_F_wI, hl_P_wI, hl_R_wI, hl_S_wI, hl_F_sF_s, hl_F_sF_n, hl_P_sP_s, hl_P_sP_n, hl_I_sI_s, hl_I_sI_n, hl_R_sR_s, hl_R_sR_n, hl_I_wI_s, hl_I_wI_n]; rfl
                · intro y hy; simp (disch := omega) only [hl_T_sF, hl_N_sF, hl_P_sF, hl_I_sF, hl_R_sF, hl_S_sF, hl_T_sP, hl_N_sP, hl_F_sP, hl_I_sP, hl_R_sP, hl_S_sP, hl_T_sI, hl_N_sI, hl_F_sI, hl_P_sI, hl_R_sI, hl_S_sI, hl_T_sR, hl_N_sR, hl_F_sR, hl_P_sR, hl_I_sR, hl_S_sR, hl_T_wI, hl_N_wI, hl_F_wI, hl_P_wI, hl_R_wI, hl_S_wI, hl_F_sF_s, hl_F_sF_n, hl_P_sP_s, hl_P_sP_n, hl_I_sI_s, hl_I_sI_n, hl_R_sR_s, hl_R_sR_n, hl_I_wI_s, hl_I_wI_n]
                · intro k hk; simp at hk
              · have oc : oneL c = [c] := by unfold oneL; rw [if_neg qc]
                rw [og, oc] at c4 ⊢
                simp only [List.length_cons, List.length_nil] at c4
                refine ⟨ah_sI (ah_sI (ah_sI (ah_sI (ah_sI (ah_sI h (m + 8) (10 * (pn : Int) + ((pt Q pn).length : Int)) a) (m + 9) (10 * (pn : Int) + ((pt Q pn).length : Int)) 1) (m + 10) (10 * (pn : Int) + ((pt Q pn).length : Int)) 1) (m + 11) (28 * (pn : Int) + ((fG (pt Q pn)).length : Int)) g) (m + 12) (28 * (pn : Int) + ((fC (pt Q pn)).length : Int)) c) (m + 7) (pn : Int) (((pt Q pn).length : Int) + 1), ?_, m_hunkAdd hM (OQ_b oQ) hpl c4.1 (by simp only [List.length_cons, List.length_nil]; omega) (by simp only [List.length_cons, List.length_nil]; omega) ?_ ?_ ?_ ?_ ?_ ?_ ?_ ?_ ?_⟩
                · simp (disch := omega) only [X7_hunk, rr_p, rr_bp, rr_bb, rr_0, rr_lt, rr_blt, rr_le, rr_ble, rr_eq, rr_beq, rr_nl_n, rr_nl_s, rr_bnl_n, rr_bnl_s, rr_cond_t, rr_cond_f, rr_bcond_t, rr_bcond_f, rr_bon, rr_bcv, rr_cv, rr_g, rr_gr, rr_si, rr_sz, rr_sr, rr_al, rr_ld, rr_st, rr_rl, rr_rs, rr_ni, rr_nr, rr_z, rr_div, rr_rem, rr_lc, rr_mx, rr_mn, rr_ab, rr_no, gd_t, bc_t, bc_f, gd_tt, bc_tt, bc_ff, or_true, true_or, and_true, true_and, Nat.reduceAdd, hl_T_sF, hl_N_sF, hl_P_sF, hl_I_sF, hl_R_sF, hl_S_sF, hl_T_sP, hl_N_sP, hl_F_sP, hl_I_sP, hl_R_sP, hl_S_sP, hl_T_sI, hl_N_sI, hl_F_sI, hl_P_sI, hl_R_sI, hl_S_sI, hl_T_sR, hl_N_sR, hl_F_sR, hl_P_sR, hl_I_sR, hl_S_sR, hl_T_wI, hl_N_wI, hl_F_wI, hl_P_wI, hl_R_wI, hl_S_wI, hl_F_sF_s, hl_F_sF_n, hl_P_sP_s, hl_P_sP_n, hl_I_sI_s, hl_I_sI_n, hl_R_sR_s, hl_R_sR_n, hl_I_wI_s, hl_I_wI_n, p7, p8, p9, p10, p11, p12, w1, mo_b_s e1, mo_b_s e2, mo_b_s i1, mo_b_s i2, mo_b_s i3, mo_b_s e4, mo_b_s e5]
                · refine ⟨rfl, rfl, rfl, rfl, fun k hk => ?_, fun k hk => rfl⟩
                  funext y
                  simp (disch := omega) only [hl_T_sF, hl_N_sF, hl_P_sF, hl_I_sF, hl_R_sF, hl_S_sF, hl_T_sP, hl_N_sP, hl_F_sP, hl_I_sP, hl_R_sP, hl_S_sP, hl_T_sI, hl_N_sI, hl_F_sI, hl_P_sI, hl_R_sI, hl_S_sI, hl_T_sR, hl_N_sR, hl_F_sR, hl_P_sR, hl_I_sR, hl_S_sR, hl_T_wI, hl_N_wI, hl_F_wI, hl_P_wI, hl_R_wI, hl_S_wI, hl_F_sF_s, hl_F_sF_n, hl_P_sP_s, hl_P_sP_n, hl_I_sI_s, hl_I_sI_n, hl_R_sR_s, hl_R_sR_n, hl_I_wI_s, hl_I_wI_n]
                · intro y; rw [hl_I_sI]; simp (disch := omega) only [hl_T_sF, hl_N_sF, hl_P_sF, hl_I_sF, hl_R_sF, hl_S_sF, hl_T_sP, hl_N_sP, hl_F_sP, hl_I_sP, hl_R_sP, hl_S_sP, hl_T_sI, hl_N_sI, hl_F_sI, hl_P_sI, hl_R_sI, hl_S_sI, hl_T_sR, hl_N_sR, hl_F_sR, hl_P_sR, hl_I_sR, hl_S_sR, hl_T_wI, hl_N_wI, hl_F_wI, hl_P_wI, hl_R_wI, hl_S_wI, hl_F_sF_s, hl_F_sF_n, hl_P_sP_s, hl_P_sP_n, hl_I_sI_s, hl_I_sI_n, hl_R_sR_s, hl_R_sR_n, hl_I_wI_s, hl_I_wI_n]; simp
                · intro y; simp (disch := omega) only [hl_T_sF, hl_N_sF, hl_P_sF, hl_I_sF, hl_R_sF, hl_S_sF, hl_T_sP, hl_N_sP, hl_F_sP, hl_I_sP, hl_R_sP, hl_S_sP, hl_T_sI, hl_N_sI, hl_F_sI, hl_P_sI, hl_R_sI, hl_S_sI, hl_T_sR, hl_N_sR, hl_F_sR, hl_P_sR, hl_I_sR, hl_S_sR, hl_T_wI, hl_N_wI, hl_F_wI, hl_P_wI, hl_R_wI, hl_S_wI, hl_F_sF_s, hl_F_sF_n, hl_P_sP_s, hl_P_sP_n, hl_I_sI_s, hl_I_sI_n, hl_R_sR_s, hl_R_sR_n, hl_I_wI_s, hl_I_wI_n]; rw [hl_I_sI]; simp
                · intro y; simp (disch := omega) only [hl_T_sF, hl_N_sF, hl_P_sF, hl_I_sF, hl_R_sF, hl_S_sF, hl_T_sP, hl_N_sP, hl_F_sP, hl_I_sP, hl_R_sP, hl_S_sP, hl_T_sI, hl_N_sI, hl_F_sI, hl_P_sI, hl_R_sI, hl_S_sI, hl_T_sR, hl_N_sR, hl_F_sR, hl_P_sR, hl_I_sR, hl_S_sR, hl_T_wI, hl_N_wI, hl_F_wI, hl_P_wI, hl_R_wI, hl_S_wI, hl_F_sF_s, hl_F_sF_n, hl_P_sP_s, hl_P_sP_n, hl_I_sI_s, hl_I_sI_n, hl_R_sR_s, hl_R_sR_n, hl_I_wI_s, hl_I_wI_n]; rw [hl_I_sI]; simp (disch := omega) only [hl_T_sF, hl_N_sF, hl_P_sF, hl_I_sF, hl_R_sF, hl_S_sF, hl_T_sP, hl_N_sP, hl_F_sP, hl_I_sP, hl_R_sP, hl_S_sP, hl_T_sI, hl_N_sI, hl_F_sI, hl_P_sI, hl_R_sI, hl_S_sI, hl_T_sR, hl_N_sR, hl_F_sR, hl_P_sR, hl_I_sR, hl_S_sR, hl_T_wI, hl_N_wI, hl_F_wI, hl_P_wI, hl_R_wI, hl_S_wI, hl_F_sF_s, hl_F_sF_n, hl_P_sP_s, hl_P_sP_n, hl_I_sI_s, hl_I_sI_n, hl_R_sR_s, hl_R_sR_n, hl_I_wI_s, hl_I_wI_n]; simp
                · intro y; simp (disch := omega) only [hl_T_sF, hl_N_sF, hl_P_sF, hl_I_sF, hl_R_sF, hl_S_sF, hl_T_sP, hl_N_sP, hl_F_sP, hl_I_sP, hl_R_sP, hl_S_sP, hl_T_sI, hl_N_sI, hl_F_sI, hl_P_sI, hl_R_sI, hl_S_sI, hl_T_sR, hl_N_sR, hl_F_sR, hl_P_sR, hl_I_sR, hl_S_sR, hl_T_wI, hl_N_wI, hl_F_wI, hl_P_wI, hl_R_wI, hl_S_wI, hl_F_sF_s, hl_F_sF_n, hl_P_sP_s, hl_P_sP_n, hl_I_sI_s, hl_I_sI_n, hl_R_sR_s, hl_R_sR_n, hl_I_wI_s, hl_I_wI_n]; rw [hl_I_sI]; simp (disch := omega) only [hl_T_sF, hl_N_sF, hl_P_sF, hl_I_sF, hl_R_sF, hl_S_sF, hl_T_sP, hl_N_sP, hl_F_sP, hl_I_sP, hl_R_sP, hl_S_sP, hl_T_sI, hl_N_sI, hl_F_sI, hl_P_sI, hl_R_sI, hl_S_sI, hl_T_sR, hl_N_sR, hl_F_sR, hl_P_sR, hl_I_sR, hl_S_sR, hl_T_wI, hl_N_wI, hl_F_wI, hl_P_wI, hl_R_wI, hl_S_wI, hl_F_sF_s, hl_F_sF_n, hl_P_sP_s, hl_P_sP_n, hl_I_sI_s, hl_I_sI_n, hl_R_sR_s, hl_R_sR_n, hl_I_wI_s, hl_I_wI_n]; simp
                · intro y hy; simp only [List.length_cons, List.length_nil] at hy; simp (disch := omega) only [hl_T_sF, hl_N_sF, hl_P_sF, hl_I_sF, hl_R_sF, hl_S_sF, hl_T_sP, hl_N_sP, hl_F_sP, hl_I_sP, hl_R_sP, hl_S_sP, hl_T_sI, hl_N_sI, hl_F_sI, hl_P_sI, hl_R_sI, hl_S_sI, hl_T_sR, hl_N_sR, hl_F_sR, hl_P_sR, hl_I_sR, hl_S_sR, hl_T_wI, hl_N_wI, hl_F_wI, hl_P_wI, hl_R_wI, hl_S_wI, hl_F_sF_s, hl_F_sF_n, hl_P_sP_s, hl_P_sP_n, hl_I_sI_s, hl_I_sI_n, hl_R_sR_s, hl_R_sR_n, hl_I_wI_s, hl_I_wI_n]
                · intro k hk
                  have : k = 0 := by simpa using hk
                  subst this
                  rw [show 28 * (pn : Int) + ((fG (pt Q pn)).length : Int) + ((0 : Nat) : Int) = 28 * (pn : Int) + ((fG (pt Q pn)).length : Int) by omega]
                  simp (disch := omega) only [hl_T_sF, hl_N_sF, hl_P_sF, hl_I_sF, hl_R_sF, hl_S_sF, hl_T_sP, hl_N_sP, hl_F_sP, hl_I_sP, hl_R_sP, hl_S_sP, hl_T_sI, hl_N_sI, hl_F_sI, hl_P_sI, hl_R_sI, hl_S_sI, hl_T_sR, hl_N_sR, hl_F_sR, hl_P_sR, hl_I_sR, hl_S_sR, hl_T_wI, hl_N_wI, hl_F_wI, hl_P_wI, hl_R_wI, hl_S_wI, hl_F_sF_s, hl_F_sF_n, hl_P_sP_s, hl_P_sP_n, hl_I_sI_s, hl_I_sI_n, hl_R_sR_s, hl_R_sR_n, hl_I_wI_s, hl_I_wI_n]; rfl
                · intro y hy; simp only [List.length_cons, List.length_nil] at hy; simp (disch := omega) only [hl_T_sF, hl_N_sF, hl_P_sF, hl_I_sF, hl_R_sF, hl_S_sF, hl_T_sP, hl_N_sP, hl_F_sP, hl_I_sP, hl_R_sP, hl_S_sP, hl_T_sI, hl_N_sI, hl_F_sI, hl_P_sI, hl_R_sI, hl_S_sI, hl_T_sR, hl_N_sR, hl_F_sR, hl_P_sR, hl_I_sR, hl_S_sR, hl_T_wI, hl_N_wI, hl_F_wI, hl_P_wI, hl_R_wI, hl_S_wI, hl_F_sF_s, hl_F_sF_n, hl_P_sP_s, hl_P_sP_n, hl_I_sI_s, hl_I_sI_n, hl_R_sR_s, hl_R_sR_n, hl_I_wI_s, hl_I_wI_n]
                · intro k hk
                  have : k = 0 := by simpa using hk
                  subst this
                  rw [show 28 * (pn : Int) + ((fC (pt Q pn)).length : Int) + ((0 : Nat) : Int) = 28 * (pn : Int) + ((fC (pt Q pn)).length : Int) by omega]
                  simp (disch := omega) only [hl_T_sF, hl_N_sF, hl_P_sF, hl_I_sF, hl_R_sF, hl_S_sF, hl_T_sP, hl_N_sP, hl_F_sP, hl_I_sP, hl_R_sP, hl_S_sP, hl_T_sI, hl_N_sI, hl_F_sI, hl_P_sI, hl_R_sI, hl_S_sI, hl_T_sR, hl_N_sR, hl_F_sR, hl_P_sR, hl_I_sR, hl_S_sR, hl_T_wI, hl_N_wI, hl_F_wI, hl_P_wI, hl_R_wI, hl_S_wI, hl_F_sF_s, hl_F_sF_n, hl_P_sP_s, hl_P_sP_n, hl_I_sI_s, hl_I_sI_n, hl_R_sR_s, hl_R_sR_n, hl_I_wI_s, hl_I_wI_n]; rfl
        · refine CJ.same (-104) ho ?_ ?_
          · intro x h hK
            obtain ⟨hR, nD, hSc, A, B, hB⟩ := id hK
            obtain ⟨⟨o1, ⟨p0, p1, p2, p4, p6, p7, p8, p9, p10, p11, p12⟩, o3, o4, o5, o6, o7, o8, o9⟩, ⟨f3, f5, f13⟩, hA, hQ, hM, hX⟩ := id hB
            dsimp only at hB hQ f5
            have e1 := q6_patchOrNull hB oQ1 hp2
            rw [if_pos c1, Int.toNat_natCast] at e1
            obtain ⟨y1, y2, y3, y4⟩ := hQ pn hpl
            have t0 := y2.1.1.1
            have e2 := kis h
            rw [bc_t c2] at e2
            have e3 := q3_mayBeginNext y2 hPV (p := a) (by omega)
            rw [bc_t c3] at e3
            have e4 := q3_hunks y2
            have e5 := q3_allGoing y2
            have e6 := q3_allComing y2
            have hsz : ∀ t u : Int, t = (oneL g).length → u = (oneL c).length → X6_isPatchSize (((pt Q pn).length : Int) + 1) (((fG (pt Q pn)).length : Int) + t) (((fC (pt Q pn)).length : Int) + u) h = some (0, h) := by
              intro t u ht hu
              have := (oneL g).length
              have bo : (oneL g).length ≤ 1 ∧ (oneL c).length ≤ 1 := ⟨by unfold oneL; split <;> simp, by unfold oneL; split <;> simp⟩
              by_cases z1 : (pt Q pn).length < 10
              · by_cases z2 : (fG (pt Q pn)).length + (oneL g).length ≤ 28
                · have z3 : ¬ (fC (pt Q pn)).length + (oneL c).length ≤ 28 := fun z => c4 ⟨z1, z2, z⟩
                  simp (disch := omega) only [X6_isPatchSize, rr_p, rr_bp, rr_bb, rr_0, rr_lt, rr_blt, rr_le, rr_ble, rr_eq, rr_beq, rr_nl_n, rr_nl_s, rr_bnl_n, rr_bnl_s, rr_cond_t, rr_cond_f, rr_bcond_t, rr_bcond_f, rr_bon, rr_bcv, rr_cv, rr_g, rr_gr, rr_si, rr_sz, rr_sr, rr_al, rr_ld, rr_st, rr_rl, rr_rs, rr_ni, rr_nr, rr_z, rr_div, rr_rem, rr_lc, rr_mx, rr_mn, rr_ab, rr_no, gd_t, bc_t, bc_f, gd_tt, bc_tt, bc_ff, or_true, true_or, and_true, true_and, Nat.reduceAdd]
                · simp (disch := omega) only [X6_isPatchSize, rr_p, rr_bp, rr_bb, rr_0, rr_lt, rr_blt, rr_le, rr_ble, rr_eq, rr_beq, rr_nl_n, rr_nl_s, rr_bnl_n, rr_bnl_s, rr_cond_t, rr_cond_f, rr_bcond_t, rr_bcond_f, rr_bon, rr_bcv, rr_cv, rr_g, rr_gr, rr_si, rr_sz, rr_sr, rr_al, rr_ld, rr_st, rr_rl, rr_rs, rr_ni, rr_nr, rr_z, rr_div, rr_rem, rr_lc, rr_mx, rr_mn, rr_ab, rr_no, gd_t, bc_t, bc_f, gd_tt, bc_tt, bc_ff, or_true, true_or, and_true, true_and, Nat.reduceAdd]
              · simp (disch := omega) only [X6_isPatchSize, rr_p, rr_bp, rr_bb, rr_0, rr_lt, rr_blt, rr_le, rr_ble, rr_eq, rr_beq, rr_nl_n, rr_nl_s, rr_bnl_n, rr_bnl_s, rr_cond_t, rr_cond_f, rr_bcond_t, rr_bcond_f, rr_bon, rr_bcv, rr_cv, rr_g, rr_gr, rr_si, rr_sz, rr_sr, rr_al, rr_ld, rr_st, rr_rl, rr_rs, rr_ni, rr_nr, rr_z, rr_div, rr_rem, rr_lc, rr_mx, rr_mn, rr_ab, rr_no, gd_t, bc_t, bc_f, gd_tt, bc_tt, bc_ff, or_true, true_or, and_true, true_and, Nat.reduceAdd]
            by_cases qg : g = -1
            · have qc : ¬ c = -1 := fun z => c2.2.2.2 ⟨qg, z⟩
              have e7 := hsz 0 1 (by unfold oneL; rw [if_pos qg]; rfl) (by unfold oneL; rw [if_neg qc]; rfl)
              simp (disch := omega) only [X6_hunk, rr_p, rr_bp, rr_bb, rr_0, rr_lt, rr_blt, rr_le, rr_ble, rr_eq, rr_beq, rr_nl_n, rr_nl_s, rr_bnl_n, rr_bnl_s, rr_cond_t, rr_cond_f, rr_bcond_t, rr_bcond_f, rr_bon, rr_bcv, rr_cv, rr_g, rr_gr, rr_si, rr_sz, rr_sr, rr_al, rr_ld, rr_st, rr_rl, rr_rs, rr_ni, rr_nr, rr_z, rr_div, rr_rem, rr_lc, rr_mx, rr_mn, rr_ab, rr_no, gd_t, bc_t, bc_f, gd_tt, bc_tt, bc_ff, or_true, true_or, and_true, true_and, Nat.reduceAdd, mo_b_s e1, mo_b_s e2, mo_b_s e3, mo_b_s e4, mo_b_s e5, mo_b_s e6, mo_b_s e7]
            · by_cases qc : c = -1
              · have e7 := hsz 1 0 (by unfold oneL; rw [if_neg qg]; rfl) (by unfold oneL; rw [if_pos qc]; rfl)
                simp (disch := omega) only [X6_hunk, rr_p, rr_bp, rr_bb, rr_0, rr_lt, rr_blt, rr_le, rr_ble, rr_eq, rr_beq, rr_nl_n, rr_nl_s, rr_bnl_n, rr_bnl_s, rr_cond_t, rr_cond_f, rr_bcond_t, rr_bcond_f, rr_bon, rr_bcv, rr_cv, rr_g, rr_gr, rr_si, rr_sz, rr_sr, rr_al, rr_ld, rr_st, rr_rl, rr_rs, rr_ni, rr_nr, rr_z, rr_div, rr_rem, rr_lc, rr_mx, rr_mn, rr_ab, rr_no, gd_t, bc_t, bc_f, gd_tt, bc_tt, bc_ff, or_true, true_or, and_true, true_and, Nat.reduceAdd, mo_b_s e1, mo_b_s e2, mo_b_s e3, mo_b_s e4, mo_b_s e5, mo_b_s e6, mo_b_s e7]
              · have e7 := hsz 1 1 (by unfold oneL; rw [if_neg qg]; rfl) (by unfold oneL; rw [if_neg qc]; rfl)
                simp (disch := omega) only [X6_hunk, rr_p, rr_bp, rr_bb, rr_0, rr_lt, rr_blt, rr_le, rr_ble, rr_eq, rr_beq, rr_nl_n, rr_nl_s, rr_bnl_n, rr_bnl_s, rr_cond_t, rr_cond_f, rr_bcond_t, rr_bcond_f, rr_bon, rr_bcv, rr_cv, rr_g, rr_gr, rr_si, rr_sz, rr_sr, rr_al, rr_ld, rr_st, rr_rl, rr_rs, rr_ni, rr_nr, rr_z, rr_div, rr_rem, rr_lc, rr_mx, rr_mn, rr_ab, rr_no, gd_t, bc_t, bc_f, gd_tt, bc_tt, bc_ff, or_true, true_or, and_true, true_and, Nat.reduceAdd, mo_b_s e1, mo_b_s e2, mo_b_s e3, mo_b_s e4, mo_b_s e5, mo_b_s e6, mo_b_s e7]
          · intro m h hM
            have mT := hM.1.1
            have hQ := MI_Q hM ho (p := pn) hpl
            have w1 := hQ.2.1.1
            dsimp only at w1
            obtain ⟨p7, t7, n7⟩ := ms7 hM.1
            have e1 := q7_isPatch hM oQ1 hp2
            dsimp only at e1
            rw [bc_t c1] at e1
            have e2 := mbe m h hM
            rw [bc_t c3, mo_bp] at e2
            obtain ⟨i1, i2, i3⟩ := mwi h
            rw [bc_t c2.1] at i1
            rw [bc_t c2.2.1] at i2
            rw [bc_t c2.2.2.1] at i3
            have e4 := q7_goesOf hQ
            have e5 := q7_comesOf hQ
            dsimp only at e4 e5
            unfold oneL at c4
            by_cases qg : g = -1
            · have qc : ¬ c = -1 := fun z => c2.2.2.2 ⟨qg, z⟩
              rw [if_pos qg, if_neg qc] at c4
              simp only [List.length_cons, List.length_nil] at c4
              by_cases z1 : (pt Q pn).length = 10
              · simp (disch := omega) only [X7_hunk, rr_p, rr_bp, rr_bb, rr_0, rr_lt, rr_blt, rr_le, rr_ble, rr_eq, rr_beq, rr_nl_n, rr_nl_s, rr_bnl_n, rr_bnl_s, rr_cond_t, rr_cond_f, rr_bcond_t, rr_bcond_f, rr_bon, rr_bcv, rr_cv, rr_g, rr_gr, rr_si, rr_sz, rr_sr, rr_al, rr_ld, rr_st, rr_rl, rr_rs, rr_ni, rr_nr, rr_z, rr_div, rr_rem, rr_lc, rr_mx, rr_mn, rr_ab, rr_no, gd_t, bc_t, bc_f, gd_tt, bc_tt, bc_ff, or_true, true_or, and_true, true_and, Nat.reduceAdd, p7, w1, mo_b_s e1, mo_b_s e2, mo_b_s i1, mo_b_s i2, mo_b_s i3, mo_b_s e4, mo_b_s e5]
              · simp (disch := omega) only [X7_hunk, rr_p, rr_bp, rr_bb, rr_0, rr_lt, rr_blt, rr_le, rr_ble, rr_eq, rr_beq, rr_nl_n, rr_nl_s, rr_bnl_n, rr_bnl_s, rr_cond_t, rr_cond_f, rr_bcond_t, rr_bcond_f, rr_bon, rr_bcv, rr_cv, rr_g, rr_gr, rr_si, rr_sz, rr_sr, rr_al, rr_ld, rr_st, rr_rl, rr_rs, rr_ni, rr_nr, rr_z, rr_div, rr_rem, rr_lc, rr_mx, rr_mn, rr_ab, rr_no, gd_t, bc_t, bc_f, gd_tt, bc_tt, bc_ff, or_true, true_or, and_true, true_and, Nat.reduceAdd, p7, w1, mo_b_s e1, mo_b_s e2, mo_b_s i1, mo_b_s i2, mo_b_s i3, mo_b_s e4, mo_b_s e5]
            · by_cases qc : c = -1
              · rw [if_neg qg, if_pos qc] at c4
                simp only [List.length_cons, List.length_nil] at c4
                by_cases z1 : (pt Q pn).length = 10
                · simp (disch := omega) only [X7_hunk, rr_p, rr_bp, rr_bb, rr_0, rr_lt, rr_blt, rr_le, rr_ble, rr_eq, rr_beq, rr_nl_n, rr_nl_s, rr_bnl_n, rr_bnl_s, rr_cond_t, rr_cond_f, rr_bcond_t, rr_bcond_f, rr_bon, rr_bcv, rr_cv, rr_g, rr_gr, rr_si, rr_sz, rr_sr, rr_al, rr_ld, rr_st, rr_rl, rr_rs, rr_ni, rr_nr, rr_z, rr_div, rr_rem, rr_lc, rr_mx, rr_mn, rr_ab, rr_no, gd_t, bc_t, bc_f, gd_tt, bc_tt, bc_ff, or_true, true_or, and_true, true_and, Nat.reduceAdd, p7, w1, mo_b_s e1, mo_b_s e2, mo_b_s i1, mo_b_s i2, mo_b_s i3, mo_b_s e4, mo_b_s e5]
                · simp (disch := omega) only [X7_hunk, rr_p, rr_bp, rr_bb, rr_0, rr_lt, rr_blt, rr_le, rr_ble, rr_eq, rr_beq, rr_nl_n, rr_nl_s, rr_bnl_n, rr_bnl_s, rr_cond_t, rr_cond_f, rr_bcond_t, rr_bcond_f, rr_bon, rr_bcv, rr_cv, rr_g, rr_gr, rr_si, rr_sz, rr_sr, rr_al, rr_ld, rr_st, rr_rl, rr_rs, rr_ni, rr_nr, rr_z, rr_div, rr_rem, rr_lc, rr_mx, rr_mn, rr_ab, rr_no, gd_t, bc_t, bc_f, gd_tt, bc_tt, bc_ff, or_true, true_or, and_true, true_and, Nat.reduceAdd, p7, w1, mo_b_s e1, mo_b_s e2, mo_b_s i1, mo_b_s i2, mo_b_s i3, mo_b_s e4, mo_b_s e5]
              · rw [if_neg qg, if_neg qc] at c4
                simp only [List.length_cons, List.length_nil] at c4
                by_cases z1 : (pt Q pn).length = 10
                · simp (disch := omega) only [X7_hunk, rr_p, rr_bp, rr_bb, rr_0, rr_lt, rr_blt, rr_le, rr_ble, rr_eq, rr_beq, rr_nl_n, rr_nl_s, rr_bnl_n, rr_bnl_s, rr_cond_t, rr_cond_f, rr_bcond_t, rr_bcond_f, rr_bon, rr_bcv, rr_cv, rr_g, rr_gr, rr_si, rr_sz, rr_sr, rr_al, rr_ld, rr_st, rr_rl, rr_rs, rr_ni, rr_nr, rr_z, rr_div, rr_rem, rr_lc, rr_mx, rr_mn, rr_ab, rr_no, gd_t, bc_t, bc_f, gd_tt, bc_tt, bc_ff, or_true, true_or, and_true, true_and, Nat.reduceAdd, p7, w1, mo_b_s e1, mo_b_s e2, mo_b_s i1, mo_b_s i2, mo_b_s i3, mo_b_s e4, mo_b_s e5]
                · by_cases z2 : (fG (pt Q pn)).length = 28
                  · simp (disch := omega) only [X7_hunk, rr_p, rr_bp, rr_bb, rr_0, rr_lt, rr_blt, rr_le, rr_ble, rr_eq, rr_beq, rr_nl_n, rr_nl_s, rr_bnl_n, rr_bnl_s, rr_cond_t, rr_cond_f, rr_bcond_t, rr_bcond_f, rr_bon, rr_bcv, rr_cv, rr_g, rr_gr, rr_si, rr_sz, rr_sr, rr_al, rr_ld, rr_st, rr_rl, rr_rs, rr_ni, rr_nr, rr_z, rr_div, rr_rem, rr_lc, rr_mx, rr_mn, rr_ab, rr_no, gd_t, bc_t, bc_f, gd_tt, bc_tt, bc_ff, or_true, true_or, and_true, true_and, Nat.reduceAdd, p7, w1, mo_b_s e1, mo_b_s e2, mo_b_s i1, mo_b_s i2, mo_b_s i3, mo_b_s e4, mo_b_s e5]
                  · simp (disch := omega) only [X7_hunk, rr_p, rr_bp, rr_bb, rr_0, rr_lt, rr_blt, rr_le, rr_ble, rr_eq, rr_beq, rr_nl_n, rr_nl_s, rr_bnl_n, rr_bnl_s, rr_cond_t, rr_cond_f, rr_bcond_t, rr_bcond_f, rr_bon, rr_bcv, rr_cv, rr_g, rr_gr, rr_si, rr_sz, rr_sr, rr_al, rr_ld, rr_st, rr_rl, rr_rs, rr_ni, rr_nr, rr_z, rr_div, rr_rem, rr_lc, rr_mx, rr_mn, rr_ab, rr_no, gd_t, bc_t, bc_f, gd_tt, bc_tt, bc_ff, or_true, true_or, and_true, true_and, Nat.reduceAdd, p7, w1, mo_b_s e1, mo_b_s e2, mo_b_s i1, mo_b_s i2, mo_b_s i3, mo_b_s e4, mo_b_s e5]
      · refine CJ.same (-102) ho ?_ ?_
        · intro x h hK
          obtain ⟨hR, nD, hSc, A, B, hB⟩ := id hK
          obtain ⟨⟨o1, ⟨p0, p1, p2, p4, p6, p7, p8, p9, p10, p11, p12⟩, o3, o4, o5, o6, o7, o8, o9⟩, ⟨f3, f5, f13⟩, hA, hQ, hM, hX⟩ := id hB
          dsimp only at hB hQ f5
          have e1 := q6_patchOrNull hB oQ1 hp2
          rw [if_pos c1, Int.toNat_natCast] at e1
          obtain ⟨y1, y2, y3, y4⟩ := hQ pn hpl
          have t0 := y2.1.1.1
          have e2 := kis h
          rw [bc_t c2] at e2
          have e3 := q3_mayBeginNext y2 hPV (p := a) (by omega)
          rw [bc_f c3] at e3
          simp (disch := omega) only [X6_hunk, rr_p, rr_bp, rr_bb, rr_0, rr_lt, rr_blt, rr_le, rr_ble, rr_eq, rr_beq, rr_nl_n, rr_nl_s, rr_bnl_n, rr_bnl_s, rr_cond_t, rr_cond_f, rr_bcond_t, rr_bcond_f, rr_bon, rr_bcv, rr_cv, rr_g, rr_gr, rr_si, rr_sz, rr_sr, rr_al, rr_ld, rr_st, rr_rl, rr_rs, rr_ni, rr_nr, rr_z, rr_div, rr_rem, rr_lc, rr_mx, rr_mn, rr_ab, rr_no, gd_t, bc_t, bc_f, gd_tt, bc_tt, bc_ff, or_true, true_or, and_true, true_and, Nat.reduceAdd, mo_b_s e1, mo_b_s e2, mo_b_s e3]
        · intro m h hM
          have mT := hM.1.1
          have hQ := MI_Q hM ho (p := pn) hpl
          have w1 := hQ.2.1.1
          dsimp only at w1
          obtain ⟨p7, t7, n7⟩ := ms7 hM.1
          have e1 := q7_isPatch hM oQ1 hp2
          dsimp only at e1
          rw [bc_t c1] at e1
          have e2 := mbe m h hM
          rw [bc_f c3, mo_bp] at e2
          obtain ⟨i1, i2, i3⟩ := mwi h
          rw [bc_t c2.1] at i1
          rw [bc_t c2.2.1] at i2
          rw [bc_t c2.2.2.1] at i3
          by_cases qg : g = -1
          · have qc : ¬ c = -1 := fun z => c2.2.2.2 ⟨qg, z⟩
            simp (disch := omega) only [X7_hunk, rr_p, rr_bp, rr_bb, rr_0, rr_lt, rr_blt, rr_le, rr_ble, rr_eq, rr_beq, rr_nl_n, rr_nl_s, rr_bnl_n, rr_bnl_s, rr_cond_t, rr_cond_f, rr_bcond_t, rr_bcond_f, rr_bon, rr_bcv, rr_cv, rr_g, rr_gr, rr_si, rr_sz, rr_sr, rr_al, rr_ld, rr_st, rr_rl, rr_rs, rr_ni, rr_nr, rr_z, rr_div, rr_rem, rr_lc, rr_mx, rr_mn, rr_ab, rr_no, gd_t, bc_t, bc_f, gd_tt, bc_tt, bc_ff, or_true, true_or, and_true, true_and, Nat.reduceAdd, p7, w1, mo_b_s e1, mo_b_s e2, mo_b_s i1, mo_b_s i2, mo_b_s i3]
          · simp (disch := omega) only [X7_hunk, rr_p, rr_bp, rr_bb, rr_0, rr_lt, rr_blt, rr_le, rr_ble, rr_eq, rr_beq, rr_nl_n, rr_nl_s, rr_bnl_n, rr_bnl_s, rr_cond_t, rr_cond_f, rr_bcond_t, rr_bcond_f, rr_bon, rr_bcv, rr_cv, rr_g, rr_gr, rr_si, rr_sz, rr_sr, rr_al, rr_ld, rr_st, rr_rl, rr_rs, rr_ni, rr_nr, rr_z, rr_div, rr_rem, rr_lc, rr_mx, rr_mn, rr_ab, rr_no, gd_t, bc_t, bc_f, gd_tt, bc_tt, bc_ff, or_true, true_or, and_true, true_and, Nat.reduceAdd, p7, w1, mo_b_s e1, mo_b_s e2, mo_b_s i1, mo_b_s i2, mo_b_s i3]
    · refine CJ.same (-102) ho ?_ ?_
      · intro x h hK
        obtain ⟨hR, nD, hSc, A, B, hB⟩ := id hK
        obtain ⟨⟨o1, ⟨p0, p1, p2, p4, p6, p7, p8, p9, p10, p11, p12⟩, o3, o4, o5, o6, o7, o8, o9⟩, ⟨f3, f5, f13⟩, hA, hQ, hM, hX⟩ := id hB
        dsimp only at hB hQ f5
        have e1 := q6_patchOrNull hB oQ1 hp2
        rw [if_pos c1, Int.toNat_natCast] at e1
        have e2 := kis h
        rw [bc_f c2] at e2
        simp (disch := omega) only [X6_hunk, rr_p, rr_bp, rr_bb, rr_0, rr_lt, rr_blt, rr_le, rr_ble, rr_eq, rr_beq, rr_nl_n, rr_nl_s, rr_bnl_n, rr_bnl_s, rr_cond_t, rr_cond_f, rr_bcond_t, rr_bcond_f, rr_bon, rr_bcv, rr_cv, rr_g, rr_gr, rr_si, rr_sz, rr_sr, rr_al, rr_ld, rr_st, rr_rl, rr_rs, rr_ni, rr_nr, rr_z, rr_div, rr_rem, rr_lc, rr_mx, rr_mn, rr_ab, rr_no, gd_t, bc_t, bc_f, gd_tt, bc_tt, bc_ff, or_true, true_or, and_true, true_and, Nat.reduceAdd, mo_b_s e1, mo_b_s e2]
      · intro m h hM
        have mT := hM.1.1
        have hQ := MI_Q hM ho (p := pn) hpl
        have w1 := hQ.2.1.1
        dsimp only at w1
        obtain ⟨p7, t7, n7⟩ := ms7 hM.1
        have e1 := q7_isPatch hM oQ1 hp2
        dsimp only at e1
        rw [bc_t c1] at e1
        have e2 := mbe m h hM
        rw [mo_bp] at e2
        obtain ⟨i1, i2, i3⟩ := mwi h
        have hbe : br (pt Q pn = [] ∨ (hk (pt Q pn) ((pt Q pn).length - 1)).1 + (hk (pt Q pn) ((pt Q pn).length - 1)).2.1.length < a) (1 : Int) 0 = 0 ∨ br (pt Q pn = [] ∨ (hk (pt Q pn) ((pt Q pn).length - 1)).1 + (hk (pt Q pn) ((pt Q pn).length - 1)).2.1.length < a) (1 : Int) 0 = 1 := br_01
        by_cases z1 : 0 ≤ a ∧ a ≤ 14
        · rw [bc_t z1] at i1
          by_cases z2 : -1 ≤ g ∧ g ≤ 99
          · rw [bc_t z2] at i2
            by_cases z3 : -1 ≤ c ∧ c ≤ 99
            · rw [bc_t z3] at i3
              have qg : g = -1 := by omega
              have qc : c = -1 := by omega
              simp (disch := omega) only [X7_hunk, rr_p, rr_bp, rr_bb, rr_0, rr_lt, rr_blt, rr_le, rr_ble, rr_eq, rr_beq, rr_nl_n, rr_nl_s, rr_bnl_n, rr_bnl_s, rr_cond_t, rr_cond_f, rr_bcond_t, rr_bcond_f, rr_bon, rr_bcv, rr_cv, rr_g, rr_gr, rr_si, rr_sz, rr_sr, rr_al, rr_ld, rr_st, rr_rl, rr_rs, rr_ni, rr_nr, rr_z, rr_div, rr_rem, rr_lc, rr_mx, rr_mn, rr_ab, rr_no, gd_t, bc_t, bc_f, gd_tt, bc_tt, bc_ff, or_true, true_or, and_true, true_and, Nat.reduceAdd, p7, w1, mo_b_s e1, mo_b_s e2, mo_b_s i1, mo_b_s i2, mo_b_s i3]
            · rw [bc_f z3] at i3
              simp (disch := omega) only [X7_hunk, rr_p, rr_bp, rr_bb, rr_0, rr_lt, rr_blt, rr_le, rr_ble, rr_eq, rr_beq, rr_nl_n, rr_nl_s, rr_bnl_n, rr_bnl_s, rr_cond_t, rr_cond_f, rr_bcond_t, rr_bcond_f, rr_bon, rr_bcv, rr_cv, rr_g, rr_gr, rr_si, rr_sz, rr_sr, rr_al, rr_ld, rr_st, rr_rl, rr_rs, rr_ni, rr_nr, rr_z, rr_div, rr_rem, rr_lc, rr_mx, rr_mn, rr_ab, rr_no, gd_t, bc_t, bc_f, gd_tt, bc_tt, bc_ff, or_true, true_or, and_true, true_and, Nat.reduceAdd, p7, w1, mo_b_s e1, mo_b_s e2, mo_b_s i1, mo_b_s i2, mo_b_s i3]
          · rw [bc_f z2] at i2
            simp (disch := omega) only [X7_hunk, rr_p, rr_bp, rr_bb, rr_0, rr_lt, rr_blt, rr_le, rr_ble, rr_eq, rr_beq, rr_nl_n, rr_nl_s, rr_bnl_n, rr_bnl_s, rr_cond_t, rr_cond_f, rr_bcond_t, rr_bcond_f, rr_bon, rr_bcv, rr_cv, rr_g, rr_gr, rr_si, rr_sz, rr_sr, rr_al, rr_ld, rr_st, rr_rl, rr_rs, rr_ni, rr_nr, rr_z, rr_div, rr_rem, rr_lc, rr_mx, rr_mn, rr_ab, rr_no, gd_t, bc_t, bc_f, gd_tt, bc_tt, bc_ff, or_true, true_or, and_true, true_and, Nat.reduceAdd, p7, w1, mo_b_s e1, mo_b_s e2, mo_b_s i1, mo_b_s i2]
        · rw [bc_f z1] at i1
          simp (disch := omega) only [X7_hunk, rr_p, rr_bp, rr_bb, rr_0, rr_lt, rr_blt, rr_le, rr_ble, rr_eq, rr_beq, rr_nl_n, rr_nl_s, rr_bnl_n, rr_bnl_s, rr_cond_t, rr_cond_f, rr_bcond_t, rr_bcond_f, rr_bon, rr_bcv, rr_cv, rr_g, rr_gr, rr_si, rr_sz, rr_sr, rr_al, rr_ld, rr_st, rr_rl, rr_rs, rr_ni, rr_nr, rr_z, rr_div, rr_rem, rr_lc, rr_mx, rr_mn, rr_ab, rr_no, gd_t, bc_t, bc_f, gd_tt, bc_tt, bc_ff, or_true, true_or, and_true, true_and, Nat.reduceAdd, p7, w1, mo_b_s e1, mo_b_s e2, mo_b_s i1]
  · refine CJ.same (-101) ho ?_ ?_
    · intro x h hK
      obtain ⟨hR, nD, hSc, A, B, hB⟩ := id hK
      obtain ⟨⟨o1, ⟨p0, p1, p2, p4, p6, p7, p8, p9, p10, p11, p12⟩, o3, o4, o5, o6, o7, o8, o9⟩, ⟨f3, f5, f13⟩, hA, hQ, hM, hX⟩ := id hB
      dsimp only at hB hQ f5
      have e1 := q6_patchOrNull hB oQ1 hp2
      rw [if_neg c1] at e1
      simp (disch := omega) only [X6_hunk, rr_p, rr_bp, rr_bb, rr_0, rr_lt, rr_blt, rr_le, rr_ble, rr_eq, rr_beq, rr_nl_n, rr_nl_s, rr_bnl_n, rr_bnl_s, rr_cond_t, rr_cond_f, rr_bcond_t, rr_bcond_f, rr_bon, rr_bcv, rr_cv, rr_g, rr_gr, rr_si, rr_sz, rr_sr, rr_al, rr_ld, rr_st, rr_rl, rr_rs, rr_ni, rr_nr, rr_z, rr_div, rr_rem, rr_lc, rr_mx, rr_mn, rr_ab, rr_no, gd_t, bc_t, bc_f, gd_tt, bc_tt, bc_ff, or_true, true_or, and_true, true_and, Nat.reduceAdd, mo_b_s e1]
    · intro m h hM
      have mT := hM.1.1
      have e1 := q7_isPatch hM oQ1 hp2
      dsimp only at e1
      rw [bc_f c1] at e1
      simp (disch := omega) only [X7_hunk, rr_p, rr_bp, rr_bb, rr_0, rr_lt, rr_blt, rr_le, rr_ble, rr_eq, rr_beq, rr_nl_n, rr_nl_s, rr_bnl_n, rr_bnl_s, rr_cond_t, rr_cond_f, rr_bcond_t, rr_bcond_f, rr_bon, rr_bcv, rr_cv, rr_g, rr_gr, rr_si, rr_sz, rr_sr, rr_al, rr_ld, rr_st, rr_rl, rr_rs, rr_ni, rr_nr, rr_z, rr_div, rr_rem, rr_lc, rr_mx, rr_mn, rr_ab, rr_no, gd_t, bc_t, bc_f, gd_tt, bc_tt, bc_ff, or_true, true_or, and_true, true_and, Nat.reduceAdd, mo_b_s e1]
