def sep : Int → List HK → Prop
  | _, [] => True
  | p, q :: W => p ≤ q.1 ∧ sep (q.1 + (q.2.1.length : Int) + 1) W
theorem sep_mono {p p2 : Int} {W : List HK} (h : sep p W) (hp : p2 ≤ p) : sep p2 W := by
  cases W with
  | nil => trivial
  | cons q W => exact ⟨by have := h.1; omega, h.2⟩
theorem sep_sW : ∀ {W : List HK} {p : Int}, sep p W → (∀ i : Nat, i < W.length → p ≤ (hk W i).1) ∧ ∀ i : Nat, i + 1 < W.length → (hk W i).1 + (hk W i).2.1.length + 1 ≤ (hk W (i + 1)).1 := by
  intro W
  induction W with
  | nil => intro p _; exact ⟨fun i hi => by simp at hi, fun i hi => by simp at hi⟩
  | cons q W ih =>
    intro p h
    obtain ⟨h1, h2⟩ := h
    obtain ⟨i1, i2⟩ := ih h2
    refine ⟨fun i hi => ?_, fun i hi => ?_⟩
    · cases i with
      | zero => exact h1
      | succ i =>
        have := i1 i (by simpa using hi)
        show p ≤ (hk W i).1
        omega
    · cases i with
      | zero => exact i1 0 (by simp at hi; omega)
      | succ i => exact i2 i (by simp at hi; omega)
/-- a hunk that fits xs -/
def hF (xs : List Int) (q : HK) : Prop := 0 ≤ q.1 ∧ q.1 + (q.2.1.length : Int) ≤ xs.length ∧ (∀ k : Nat, k < q.2.1.length → xs.getD (q.1.toNat + k) 0 = q.2.1.getD k 0) ∧ wL q.2.1 ∧ wL q.2.2
theorem hmo_hF {xs ys : List Int} {gf cf i n : Nat} (hx : wL xs) (hy : wL ys) (hi : i ≤ xs.length) (hg : gf ≤ i) : ∀ q ∈ hmo xs ys gf cf i n, hF xs q := by
  intro q hq
  unfold hmo at hq
  by_cases hc : gf < i ∨ cf < n
  · rw [if_pos hc] at hq
    have hq : q = ((gf : Int), (xs.take i).drop gf, (ys.take n).drop cf) := by simpa using hq
    subst hq
    refine ⟨by dsimp only; omega, by simp only [List.length_drop, List.length_take]; omega, ?_, wL_drop (wL_take hx _) _, wL_drop (wL_take hy _) _⟩
    intro k hk
    simp only [List.length_drop, List.length_take] at hk
    rw [getD_drop, getD_take (by omega), Int.toNat_natCast]
  · rw [if_neg hc] at hq; simp at hq
theorem hm_f {xs ys : List Int} (hx : wL xs) (hy : wL ys) : ∀ (e i j gf cf : Nat), i + e = xs.length → gf ≤ i → cf ≤ j → j ≤ ys.length → 3 * (hm xs ys (trc (xs.drop i) (ys.drop j) (j : Int)) i gf cf).length + gf + cf ≤ xs.length + ys.length + 2 ∧ (fG (hm xs ys (trc (xs.drop i) (ys.drop j) (j : Int)) i gf cf)).length + gf ≤ xs.length ∧ (fC (hm xs ys (trc (xs.drop i) (ys.drop j) (j : Int)) i gf cf)).length + cf ≤ ys.length ∧ sep (gf : Int) (hm xs ys (trc (xs.drop i) (ys.drop j) (j : Int)) i gf cf) ∧ ∀ q ∈ hm xs ys (trc (xs.drop i) (ys.drop j) (j : Int)) i gf cf, hF xs q := by
  intro e
  induction e with
  | zero =>
    intro i j gf cf h1 h2 h3 h4
    rw [List.drop_eq_nil_of_le (show xs.length ≤ i by omega), trc, hm]
    have c1 := hmo_3 xs ys gf cf i ys.length h2 (by omega)
    have c2 := hmo_fG xs ys gf cf i ys.length
    have c3 := hmo_fC xs ys gf cf i ys.length
    refine ⟨by omega, by omega, by omega, ?_, hmo_hF hx hy (by omega) h2⟩
    unfold hmo
    split
    · exact ⟨Int.le_refl _, trivial⟩
    · trivial
  | succ e ih =>
    intro i j gf cf h1 h2 h3 h4
    obtain ⟨j3, q1, q2, q3 | ⟨q3, q4, q5⟩⟩ := trc_step (xs := xs) (ys := ys) (i := i) (by omega) (ys.length - j) j (by omega)
    · rw [q3, hm, if_pos rfl]
      exact ih (i + 1) j3 gf cf (by omega) (by omega) (by omega) q2
    · rw [q5, hm, if_neg (by omega), Int.toNat_natCast]
      obtain ⟨g1, g2, g3, g4, g5⟩ := ih (i + 1) (j3 + 1) (i + 1) (j3 + 1) (by omega) (by omega) (by omega) (by omega)
      have c1 := hmo_3 xs ys gf cf i j3 h2 (by omega)
      have c2 := hmo_fG xs ys gf cf i j3
      have c3 := hmo_fC xs ys gf cf i j3
      refine ⟨by rw [List.length_append]; omega, by rw [fG_app, List.length_append]; omega, by rw [fC_app, List.length_append]; omega, ?_, ?_⟩
      · unfold hmo
        split
        · refine ⟨Int.le_refl _, ?_⟩
          dsimp only
          refine sep_mono g4 ?_
          simp only [List.length_drop, List.length_take]; omega
        · exact sep_mono g4 (by omega)
      · intro q hq
        rcases List.mem_append.mp hq with h | h
        · exact hmo_hF hx hy (by omega) h2 q h
        · exact g5 q h
theorem hk_mem {W : List HK} {i : Nat} (h : i < W.length) : hk W i ∈ W := by
  unfold hk; rw [List.getD_eq_getElem?_getD, List.getElem?_eq_getElem h]; exact List.getElem_mem h
theorem dW_f {xs ys : List Int} (hx : wL xs) (hy : wL ys) : 3 * (dW xs ys).length ≤ xs.length + ys.length + 2 ∧ (fG (dW xs ys)).length ≤ xs.length ∧ (fC (dW xs ys)).length ≤ ys.length ∧ sW (dW xs ys) ∧ ∀ i : Nat, i < (dW xs ys).length → hF xs (hk (dW xs ys) i) := by
  obtain ⟨g1, g2, g3, g4, g5⟩ := hm_f hx hy xs.length 0 0 0 0 (by omega) (by omega) (by omega) (by omega)
  exact ⟨g1, g2, g3, sep_sW g4, fun i hi => g5 _ (hk_mem hi)⟩
theorem dW_OP {xs ys : List Int} (hx : wL xs) (hy : wL ys) (lx : xs.length ≤ 14) (ly : ys.length ≤ 14) {b : Int} (hb : 14 ≤ b) : OP b (dW xs ys) := by
  obtain ⟨g1, g2, g3, g4, g5⟩ := dW_f hx hy
  refine ⟨g4, by omega, by omega, by omega, fun i hi => ?_⟩
  obtain ⟨y1, y2, y3, y4, y5⟩ := g5 i hi
  exact ⟨y4, y5, by omega⟩
theorem OP_pV {b : Int} {W : List HK} (h : OP b W) (hb : b ≤ 1000) : pV W := by
  intro i
  by_cases hi : i < W.length
  · obtain ⟨g1, g2, g3⟩ := h.2.2.2.2 i hi
    have := h.1.1 i hi
    exact ⟨by omega, wL_pL g1, wL_pL g2⟩
  · have e : hk W i = (0, [], []) := by unfold hk; rw [List.getD_eq_getElem?_getD, List.getElem?_eq_none (by omega)]; rfl
    rw [e]; exact ⟨by dsimp only; omega, pL_nil, pL_nil⟩
theorem pt_app_l {Q : List (List HK)} {W : List HK} {i : Nat} (h : i < Q.length) : pt (Q ++ [W]) i = pt Q i := by
  unfold pt; simp only [List.getD_eq_getElem?_getD]; rw [List.getElem?_append_left h]
theorem pt_last {Q : List (List HK)} {W : List HK} : pt (Q ++ [W]) Q.length = W := by
  unfold pt; simp
theorem OQ_add {Q : List (List HK)} {W : List HK} (h : OQ Q) (hl : Q.length < 12) (hW : OP (14 + 28 * ((Q.length : Int) + 1)) W) : OQ (Q ++ [W]) := by
  refine ⟨by simp; omega, fun k hk => ?_⟩
  have hk : k < Q.length + 1 := by simpa using hk
  by_cases h2 : k = Q.length
  · subst h2; rw [pt_last]; exact hW
  · rw [pt_app_l (by omega)]; exact h.2 k (by omega)
/-! the class: a difference, a new patch -/
theorem q6_writeDifference {h : AH} {x t ml a b : Nat} {W : List HK} {u v : VR} (hT : ah_T h x = 16) (hp : ah_P h x 7 = some (x + 8)) (hD : kDs h (x + 8)) (hP : kP h t 10 ml W) (hU : kV h a u) (hV : kV h b v) (hml : 14 ≤ ml) (ht : x + 11 ≤ t) (ha : x + 38 ≤ a) (hb : x + 38 ≤ b) (hta : t + 6 ≤ a ∨ a + 4 ≤ t) (htb : t + 6 ≤ b ∨ b + 4 ≤ t) (lu : u.1.length ≤ 14) (lv : v.1.length ≤ 14) (wu : wL u.1) (wv : wL v.1) : ∃ h1 h', X6_writeDifference x (some a) (some b) (some t) h = some ((), h') ∧ kP h' t 10 ml (dW u.1 v.1) ∧ FRM h h1 (x + 8) (x + 8 + 3) ∧ FRM h1 h' t (t + 6) := by
  obtain ⟨u1, u2, u3, u4, u5, u6, u7, u8, u9, u10⟩ := hU
  obtain ⟨v1, v2, v3, v4, v5, v6, v7, v8, v9, v10⟩ := hV
  obtain ⟨h1, e1, m1, f1⟩ := q1_find hD u9 v9 (by omega) (by omega) (wL_pL wu) (wL_pL wv) lu lv
  have hP1 := kP_fr hP f1 (by omega)
  have hU1 := kR_fr u9 f1 (by omega)
  have hV1 := kR_fr v9 f1 (by omega)
  have hD1 := kDs_fr hD f1
  obtain ⟨h2, e2, r2, f2⟩ := q1_writeHunks hD1 hU1 hV1 hP1 (by omega) (by omega) (by omega) lu lv hml m1
  have td := hD.1
  have td1 := hD1.1
  have tx1 : ah_T h1 x = 16 := by rw [f1.1]; exact hT
  have ta1 : ah_T h1 a = 15 := by rw [f1.1]; exact u1
  have tb1 : ah_T h1 b = 15 := by rw [f1.1]; exact v1
  have px1 : ah_P h1 x 7 = some (x + 8) := by rw [f1.2.2.1]; exact hp
  have pa1 : ah_P h1 a 0 = some (a + 1) := by rw [f1.2.2.1]; exact u2
  have pb1 : ah_P h1 b 0 = some (b + 1) := by rw [f1.2.2.1]; exact v2
  exact ⟨h1, h2, by simp (disch := omega) only [X6_writeDifference, rr_p, rr_bp, rr_bb, rr_0, rr_lt, rr_blt, rr_le, rr_ble, rr_eq, rr_beq, rr_nl_n, rr_nl_s, rr_bnl_n, rr_bnl_s, rr_cond_t, rr_cond_f, rr_bcond_t, rr_bcond_f, rr_bon, rr_bcv, rr_cv, rr_g, rr_gr, rr_si, rr_sz, rr_sr, rr_al, rr_ld, rr_st, rr_rl, rr_rs, rr_ni, rr_nr, rr_z, rr_div, rr_rem, rr_lc, rr_mx, rr_mn, rr_ab, rr_no, gd_t, bc_t, bc_f, gd_tt, bc_tt, bc_ff, or_true, true_or, and_true, true_and, Nat.reduceAdd, hp, u2, v2, px1, pa1, pb1, mo_b_s e1, mo_b_s e2], r2, f1, f2⟩
theorem q6_newPatch {h : AH} : ∃ h', X6_newPatch h = some (some (ah_S h), h') ∧ kP h' (ah_S h) 10 28 [] ∧ SM h h' 0 (ah_S h) ∧ ah_S h' = ah_S h + 6 := by
  obtain ⟨h', e, r, s, z⟩ := q3_init (h := ah_nO h 3) (a := ah_S h) (mh := 10) (ml := 28) (hn_T_nO_s rfl) (by rw [hn_F_nO_s rfl]) rfl (by omega) (by omega)
  refine ⟨h', ?_, r, SM.tr (SM.nO (Nat.le_refl _)) s, z⟩
  have e : X3_init (ah_S h) 10 28 (ah_nO h 3) = some ((), h') := e
  unfold X6_newPatch
  rw [rr_no, rr_bon, mo_b_s e]; rfl
theorem q6_addPatch {h : AH} {x d b : Nat} {V : List VR} {Q : List (List HK)} {W : List HK} {A B : Nat → Nat} (hK : KB h x V Q d A B) (hl : Q.length < 12) (hP : kP h b 10 28 W) (hb : x + 38 ≤ b) (hb2 : b + 6 ≤ ah_S h) (hbA : ∀ v, v < V.length → A v + 4 ≤ b) (hbB : ∀ p, p < Q.length → B p + 6 ≤ b) : ∃ h', X6_addPatch x (some b) h = some ((Q.length : Int), h') ∧ KB h' x V (Q ++ [W]) d A (fun p => if p = Q.length then b else B p) ∧ (∀ lo hi, (x < lo ∧ hi ≤ x + 6) ∨ x + 6 < lo → SM h h' lo hi) ∧ ah_S h' = ah_S h ∧ ah_T h' = ah_T h ∧ ah_P h' = ah_P h := by
  obtain ⟨⟨o1, ⟨p0, p1, p2, p4, p6, p7, p8, p9, p10, p11, p12⟩, o3, o4, o5, o6, o7, o8, o9⟩, ⟨f3, f5, f13⟩, hA, hQ, hM, hX⟩ := id hK
  have tb := hP.1.1.1
  have hs : ∀ lo hi, (x < lo ∧ hi ≤ x + 6) ∨ x + 6 < lo → SM h (ah_sF (ah_sR h (x + 6) (Q.length : Int) (some b)) x 5 ((Q.length : Int) + 1)) lo hi := fun lo hi q => SM.tr (SM.sR (by omega)) (SM.sF (by omega))
  have e1 : (Q.length : Int) + 1 - 1 = (Q.length : Int) := by omega
  refine ⟨ah_sF (ah_sR h (x + 6) (Q.length : Int) (some b)) x 5 ((Q.length : Int) + 1), ?_, ?_, hs, rfl, rfl, rfl⟩
  · simp (disch := omega) only [X6_addPatch, rr_p, rr_bp, rr_bb, rr_0, rr_lt, rr_blt, rr_le, rr_ble, rr_eq, rr_beq, rr_nl_n, rr_nl_s, rr_bnl_n, rr_bnl_s, rr_cond_t, rr_cond_f, rr_bcond_t, rr_bcond_f, rr_bon, rr_bcv, rr_cv, rr_g, rr_gr, rr_si, rr_sz, rr_sr, rr_al, rr_ld, rr_st, rr_rl, rr_rs, rr_ni, rr_nr, rr_z, rr_div, rr_rem, rr_lc, rr_mx, rr_mn, rr_ab, rr_no, gd_t, bc_t, bc_f, gd_tt, bc_tt, bc_ff, or_true, true_or, and_true, true_and, Nat.reduceAdd, hl_T_sF, hl_N_sF, hl_P_sF, hl_I_sF, hl_R_sF, hl_S_sF, hl_T_sP, hl_N_sP, hl_F_sP, hl_I_sP, hl_R_sP, hl_S_sP, hl_T_sI, hl_N_sI, hl_F_sI, hl_P_sI, hl_R_sI, hl_S_sI, hl_T_sR, hl_N_sR, hl_F_sR, hl_P_sR, hl_I_sR, hl_S_sR, hl_T_wI, hl_N_wI, hl_F_wI, hl_P_wI, hl_R_wI, hl_S_wI, hl_F_sF_s, hl_F_sF_n, hl_P_sP_s, hl_P_sP_n, hl_I_sI_s, hl_I_sI_n, hl_R_sR_s, hl_R_sR_n, hl_I_wI_s, hl_I_wI_n, f5, p4, e1]
  · refine ⟨⟨o1, ⟨p0, p1, p2, p4, p6, p7, p8, p9, p10, p11, p12⟩, o3, o4, o5, o6, o7, o8, o9⟩, ⟨?_, ?_, ?_⟩, ?_, ?_, ?_, ?_⟩
    · simp (disch := omega) only [hl_T_sF, hl_N_sF, hl_P_sF, hl_I_sF, hl_R_sF, hl_S_sF, hl_T_sP, hl_N_sP, hl_F_sP, hl_I_sP, hl_R_sP, hl_S_sP, hl_T_sI, hl_N_sI, hl_F_sI, hl_P_sI, hl_R_sI, hl_S_sI, hl_T_sR, hl_N_sR, hl_F_sR, hl_P_sR, hl_I_sR, hl_S_sR, hl_T_wI, hl_N_wI, hl_F_wI, hl_P_wI, hl_R_wI, hl_S_wI, hl_F_sF_s, hl_F_sF_n, hl_P_sP_s, hl_P_sP_n, hl_I_sI_s, hl_I_sI_n, hl_R_sR_s, hl_R_sR_n, hl_I_wI_s, hl_I_wI_n]; exact f3
    · simp (disch := omega) only [hl_T_sF, hl_N_sF, hl_P_sF, hl_I_sF, hl_R_sF, hl_S_sF, hl_T_sP, hl_N_sP, hl_F_sP, hl_I_sP, hl_R_sP, hl_S_sP, hl_T_sI, hl_N_sI, hl_F_sI, hl_P_sI, hl_R_sI, hl_S_sI, hl_T_sR, hl_N_sR, hl_F_sR, hl_P_sR, hl_I_sR, hl_S_sR, hl_T_wI, hl_N_wI, hl_F_wI, hl_P_wI, hl_R_wI, hl_S_wI, hl_F_sF_s, hl_F_sF_n, hl_P_sP_s, hl_P_sP_n, hl_I_sI_s, hl_I_sI_n, hl_R_sR_s, hl_R_sR_n, hl_I_wI_s, hl_I_wI_n]; simp
    · simp (disch := omega) only [hl_T_sF, hl_N_sF, hl_P_sF, hl_I_sF, hl_R_sF, hl_S_sF, hl_T_sP, hl_N_sP, hl_F_sP, hl_I_sP, hl_R_sP, hl_S_sP, hl_T_sI, hl_N_sI, hl_F_sI, hl_P_sI, hl_R_sI, hl_S_sI, hl_T_sR, hl_N_sR, hl_F_sR, hl_P_sR, hl_I_sR, hl_S_sR, hl_T_wI, hl_N_wI, hl_F_wI, hl_P_wI, hl_R_wI, hl_S_wI, hl_F_sF_s, hl_F_sF_n, hl_P_sP_s, hl_P_sP_n, hl_I_sI_s, hl_I_sI_n, hl_R_sR_s, hl_R_sR_n, hl_I_wI_s, hl_I_wI_n]; exact f13
    · intro v hv
      obtain ⟨y1, y2, y3, y4, y5⟩ := hA v hv
      refine ⟨?_, kV_sm y2 (hs _ _ (by omega)), y3, y4, y5⟩
      rw [hl_R_sF, hl_R_sR_n (Or.inl (by omega))]; exact y1
    · intro p hp
      have hp : p < Q.length + 1 := by simpa using hp
      by_cases h2 : p = Q.length
      · subst h2
        simp only [if_true]
        rw [pt_last]
        exact ⟨by rw [hl_R_sF, hl_R_sR_s], kP_sm hP (hs _ _ (by omega)), hb, hb2⟩
      · obtain ⟨y1, y2, y3, y4⟩ := hQ p (by omega)
        simp only [if_neg h2]
        rw [pt_app_l (by omega)]
        refine ⟨?_, kP_sm y2 (hs _ _ (by omega)), y3, y4⟩
        rw [hl_R_sF, hl_R_sR_n (Or.inr (by omega))]; exact y1
    · exact hM
    · obtain ⟨x1, x2, x3⟩ := hX
      refine ⟨x1, ?_, ?_⟩
      · intro p q hp hq hpq
        rw [List.length_append] at hp hq
        simp only [List.length_cons, List.length_nil] at hp hq
        dsimp only
        by_cases c1 : p = Q.length
        · rw [if_pos c1, if_neg (by omega)]
          have := hbB q (by omega); omega
        · rw [if_neg c1]
          by_cases c2 : q = Q.length
          · rw [if_pos c2]
            have := hbB p (by omega); omega
          · rw [if_neg c2]; exact x2 p q (by omega) (by omega) hpq
      · intro v p hv hp
        rw [List.length_append] at hp
        simp only [List.length_cons, List.length_nil] at hp
        dsimp only
        by_cases c1 : p = Q.length
        · rw [if_pos c1]; have := hbA v hv; omega
        · rw [if_neg c1]; exact x3 v p hv (by omega)
