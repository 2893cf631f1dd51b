/-- a loop that lets the lines l go -/
theorem lp_goes {F : Int → MO (Int ⊕ Unit)} {h : AH} {m : Nat} {W : List HK} {p : Int} {g c : List Int} (l : List Int) (hS : mS h m) (hW : mW h m (W ++ [(p, g, c)])) (hl : (fG W).length + g.length + l.length ≤ 120) (hw : W.length < 40) (step : ∀ (k : Nat) (h1 h2 : AH), k < l.length → MF m 13 18 16 23 h h1 → X7_goes m (l.getD k 0) h1 = some ((), h2) → F (k : Int) h1 = some (.inl ((k : Int) + 1), h2)) (ex : ∀ h1 : AH, MF m 13 18 16 23 h h1 → F (l.length : Int) h1 = some (.inr (), h1)) : ∃ h', mo_lp mo_N F 0 h = some ((), h') ∧ mW h' m (W ++ [(p, g ++ l, c)]) ∧ MF m 13 18 16 23 h h' := by
  have hL := lp_inv (F := F) (fun k h' => ∃ n : Nat, k = (n : Int) ∧ n ≤ l.length ∧ mW h' m (W ++ [(p, g ++ l.take n, c)]) ∧ MF m 13 18 16 23 h h') (fun k => ((l.length : Int) - k).toNat) (fun _ h' => mW h' m (W ++ [(p, g ++ l, c)]) ∧ MF m 13 18 16 23 h h') ?_ mo_N 0 h ⟨0, rfl, by omega, by rw [List.take_zero, List.append_nil]; exact hW, MF.rf⟩ (by rw [mo_N_v]; omega)
  · obtain ⟨_, h', e, q⟩ := hL; exact ⟨h', e, q⟩
  · rintro k h' ⟨n, rfl, n1, n2, n3⟩
    by_cases hn : n < l.length
    · left
      obtain ⟨h2, e2, w2, f2⟩ := q7_goes (mS_fr hS n3) n2 (v := l.getD n 0) (by rw [List.length_append, List.length_take]; omega) hw
      refine ⟨(n : Int) + 1, h2, step n h' h2 hn n3 e2, ⟨n + 1, by simp, by omega, ?_, n3.tr f2 (by omega)⟩, by omega⟩
      rw [take_s hn, ← List.append_assoc]; exact w2
    · right
      have : n = l.length := by omega
      subst this
      rw [List.take_length] at n2
      exact ⟨(), h', ex h' n3, n2, n3⟩
theorem lp_comes {F : Int → MO (Int ⊕ Unit)} {h : AH} {m : Nat} {W : List HK} {p : Int} {g c : List Int} (l : List Int) (hS : mS h m) (hW : mW h m (W ++ [(p, g, c)])) (hl : (fC W).length + c.length + l.length ≤ 120) (hw : W.length < 40) (step : ∀ (k : Nat) (h1 h2 : AH), k < l.length → MF m 13 18 16 23 h h1 → X7_comes m (l.getD k 0) h1 = some ((), h2) → F (k : Int) h1 = some (.inl ((k : Int) + 1), h2)) (ex : ∀ h1 : AH, MF m 13 18 16 23 h h1 → F (l.length : Int) h1 = some (.inr (), h1)) : ∃ h', mo_lp mo_N F 0 h = some ((), h') ∧ mW h' m (W ++ [(p, g, c ++ l)]) ∧ MF m 13 18 16 23 h h' := by
  have hL := lp_inv (F := F) (fun k h' => ∃ n : Nat, k = (n : Int) ∧ n ≤ l.length ∧ mW h' m (W ++ [(p, g, c ++ l.take n)]) ∧ MF m 13 18 16 23 h h') (fun k => ((l.length : Int) - k).toNat) (fun _ h' => mW h' m (W ++ [(p, g, c ++ l)]) ∧ MF m 13 18 16 23 h h') ?_ mo_N 0 h ⟨0, rfl, by omega, by rw [List.take_zero, List.append_nil]; exact hW, MF.rf⟩ (by rw [mo_N_v]; omega)
  · obtain ⟨_, h', e, q⟩ := hL; exact ⟨h', e, q⟩
  · rintro k h' ⟨n, rfl, n1, n2, n3⟩
    by_cases hn : n < l.length
    · left
      obtain ⟨h2, e2, w2, f2⟩ := q7_comes (mS_fr hS n3) n2 (v := l.getD n 0) (by rw [List.length_append, List.length_take]; omega) hw
      refine ⟨(n : Int) + 1, h2, step n h' h2 hn n3 e2, ⟨n + 1, by simp, by omega, ?_, n3.tr f2 (by omega)⟩, by omega⟩
      rw [take_s hn, ← List.append_assoc]; exact w2
    · right
      have : n = l.length := by omega
      subst this
      rw [List.take_length] at n2
      exact ⟨(), h', ex h' n3, n2, n3⟩
theorem q7_turnW {h : AH} {m p : Nat} {W : List HK} (hQ : mQ h m p W) (hW : mW h m []) : ∃ h', mo_lp mo_N (X7_turn_L31 m (p : Int)) (0, 0) h = some ((), h') ∧ mW h' m (turnW W) ∧ MF m 13 18 16 23 h h' := by
  obtain ⟨hS, hPt, hp, l1, l2, l3⟩ := id hQ
  have hL := lp_inv (F := X7_turn_L31 m (p : Int)) (fun s h' => ∃ n : Nat, s = ((hcs W n : Int) - (hgs W n : Int), (n : Int)) ∧ n ≤ W.length ∧ mW h' m ((List.range n).map (fun i => (hB W i, (hk W i).2.2, (hk W i).2.1))) ∧ MF m 13 18 16 23 h h') (fun s => ((W.length : Int) - s.2).toNat) (fun _ h' => mW h' m (turnW W) ∧ MF m 13 18 16 23 h h') ?_ mo_N (0, 0) h ⟨0, rfl, by omega, hW, MF.rf⟩ (by rw [mo_N_v]; show ((W.length : Int) - 0).toNat < 200000; omega)
  · obtain ⟨_, h', e, q⟩ := hL; exact ⟨h', e, q⟩
  · rintro s h' ⟨n, rfl, n1, n2, n3⟩
    have hQ' := mQ_fr hQ n3 (by omega)
    have mT := hQ'.1.1
    have w1 := hQ'.2.1.1
    obtain ⟨p7, t7, n7⟩ := ms7 hQ'.1
    obtain ⟨p8, t8, n8⟩ := ms8 hQ'.1
    obtain ⟨p9, t9, n9⟩ := ms9 hQ'.1
    obtain ⟨p10, t10, n10⟩ := ms10 hQ'.1
    by_cases hn : n < W.length
    · left
      obtain ⟨b1, b2, b3⟩ := mQ_a hQ' (i := (n : Int)) (by omega) (by omega)
      rw [Int.toNat_natCast] at b1 b2 b3
      have s1 := @hgs_s W n hn
      have s2 := @hgs_le W (n + 1)
      have s3 := @hcs_s W n hn
      have s4 := @hcs_le W (n + 1)
      have t1 := turn_fG (V := W) (k := n) (by omega)
      have t2 := turn_fC (V := W) (k := n) (by omega)
      have hB1 : (hk W n).1 + ((hcs W n : Int) - (hgs W n : Int)) = hB W n := rfl
      obtain ⟨h1, e1, v1, f1⟩ := q7_newHunk hQ'.1 n2 (p := hB W n) (by simp; omega)
      have hQ1 := mQ_fr hQ' f1 (by omega)
      obtain ⟨h2, e2, v2, f2⟩ := lp_goes (F := X7_turn_L87 m (p : Int) (n : Int)) (hk W n).2.2 hQ1.1 v1 (by rw [t1]; simp only [List.length_nil]; omega) (by simp; omega) (by
          intro k g1 g2 hk1 hf hg
          have hQg := mQ_fr hQ1 hf (by omega)
          have mTg := hQg.1.1
          obtain ⟨p10, t10, n10⟩ := ms10 hQg.1
          obtain ⟨p12, t12, n12⟩ := ms12 hQg.1
          obtain ⟨c1, c2, c3⟩ := mQ_a hQg (i := (n : Int)) (by omega) (by omega)
          rw [Int.toNat_natCast] at c1 c2 c3
          have e3 := q7_comeFrom hQg (i := n) (by omega)
          have a3 := mQ_cl hQg hn hk1
          simp (disch := omega) only [X7_turn_L87, rr_p, rr_bp, rr_bb, rr_0, rr_lt, rr_blt, rr_le, rr_ble, rr_eq, rr_beq, rr_nl_n, rr_nl_s, rr_bnl_n, rr_bnl_s, rr_cond_t, rr_cond_f, rr_bcond_t, rr_bcond_f, rr_bon, rr_bcv, rr_cv, rr_g, rr_gr, rr_si, rr_sz, rr_sr, rr_al, rr_ld, rr_st, rr_rl, rr_rs, rr_ni, rr_nr, rr_z, rr_div, rr_rem, rr_lc, rr_mx, rr_mn, rr_ab, rr_no, gd_t, bc_t, bc_f, gd_tt, bc_tt, bc_ff, or_true, true_or, and_true, true_and, Nat.reduceAdd, p10, p12, c3, mo_b_s e3, a3, mo_b_s hg]) (by
          intro g1 hf
          have hQg := mQ_fr hQ1 hf (by omega)
          have mTg := hQg.1.1
          obtain ⟨p10, t10, n10⟩ := ms10 hQg.1
          obtain ⟨c1, c2, c3⟩ := mQ_a hQg (i := (n : Int)) (by omega) (by omega)
          rw [Int.toNat_natCast] at c1 c2 c3
          simp (disch := omega) only [X7_turn_L87, rr_p, rr_bp, rr_bb, rr_0, rr_lt, rr_blt, rr_le, rr_ble, rr_eq, rr_beq, rr_nl_n, rr_nl_s, rr_bnl_n, rr_bnl_s, rr_cond_t, rr_cond_f, rr_bcond_t, rr_bcond_f, rr_bon, rr_bcv, rr_cv, rr_g, rr_gr, rr_si, rr_sz, rr_sr, rr_al, rr_ld, rr_st, rr_rl, rr_rs, rr_ni, rr_nr, rr_z, rr_div, rr_rem, rr_lc, rr_mx, rr_mn, rr_ab, rr_no, gd_t, bc_t, bc_f, gd_tt, bc_tt, bc_ff, or_true, true_or, and_true, true_and, Nat.reduceAdd, p10, c3])
      have hQ2 := mQ_fr hQ1 f2 (by omega)
      obtain ⟨h3, e3, v3, f3⟩ := lp_comes (F := X7_turn_L130 m (p : Int) (n : Int)) (hk W n).2.1 hQ2.1 v2 (by rw [t2]; simp only [List.length_nil]; omega) (by simp; omega) (by
          intro k g1 g2 hk1 hf hg
          have hQg := mQ_fr hQ2 hf (by omega)
          have mTg := hQg.1.1
          obtain ⟨p9, t9, n9⟩ := ms9 hQg.1
          obtain ⟨p11, t11, n11⟩ := ms11 hQg.1
          obtain ⟨c1, c2, c3⟩ := mQ_a hQg (i := (n : Int)) (by omega) (by omega)
          rw [Int.toNat_natCast] at c1 c2 c3
          have e3 := q7_goFrom hQg (i := n) (by omega)
          have a3 := mQ_gl hQg hn hk1
          simp (disch := omega) only [X7_turn_L130, rr_p, rr_bp, rr_bb, rr_0, rr_lt, rr_blt, rr_le, rr_ble, rr_eq, rr_beq, rr_nl_n, rr_nl_s, rr_bnl_n, rr_bnl_s, rr_cond_t, rr_cond_f, rr_bcond_t, rr_bcond_f, rr_bon, rr_bcv, rr_cv, rr_g, rr_gr, rr_si, rr_sz, rr_sr, rr_al, rr_ld, rr_st, rr_rl, rr_rs, rr_ni, rr_nr, rr_z, rr_div, rr_rem, rr_lc, rr_mx, rr_mn, rr_ab, rr_no, gd_t, bc_t, bc_f, gd_tt, bc_tt, bc_ff, or_true, true_or, and_true, true_and, Nat.reduceAdd, p9, p11, c2, mo_b_s e3, a3, mo_b_s hg]) (by
          intro g1 hf
          have hQg := mQ_fr hQ2 hf (by omega)
          have mTg := hQg.1.1
          obtain ⟨p9, t9, n9⟩ := ms9 hQg.1
          obtain ⟨c1, c2, c3⟩ := mQ_a hQg (i := (n : Int)) (by omega) (by omega)
          rw [Int.toNat_natCast] at c1 c2 c3
          simp (disch := omega) only [X7_turn_L130, rr_p, rr_bp, rr_bb, rr_0, rr_lt, rr_blt, rr_le, rr_ble, rr_eq, rr_beq, rr_nl_n, rr_nl_s, rr_bnl_n, rr_bnl_s, rr_cond_t, rr_cond_f, rr_bcond_t, rr_bcond_f, rr_bon, rr_bcv, rr_cv, rr_g, rr_gr, rr_si, rr_sz, rr_sr, rr_al, rr_ld, rr_st, rr_rl, rr_rs, rr_ni, rr_nr, rr_z, rr_div, rr_rem, rr_lc, rr_mx, rr_mn, rr_ab, rr_no, gd_t, bc_t, bc_f, gd_tt, bc_tt, bc_ff, or_true, true_or, and_true, true_and, Nat.reduceAdd, p9, c2])
      have mT1 := hQ1.1.1
      obtain ⟨pp9, tt9, nn9⟩ := ms9 hQ1.1
      obtain ⟨pp10, tt10, nn10⟩ := ms10 hQ1.1
      obtain ⟨d1, d2, d3⟩ := mQ_a hQ1 (i := (n : Int)) (by omega) (by omega)
      rw [Int.toNat_natCast] at d1 d2 d3
      refine ⟨((hcs W (n + 1) : Int) - (hgs W (n + 1) : Int), ((n + 1 : Nat) : Int)), h3, ?_, ⟨n + 1, rfl, by omega, ?_, (n3.tr f1 (a3 := 13) (b3 := 18) (c3 := 16) (d3 := 23) (by omega)).tr (f2.tr f3 (a3 := 13) (b3 := 18) (c3 := 16) (d3 := 23) (by omega)) (by omega)⟩, by dsimp only; omega⟩
      · rw [show ((hcs W (n + 1) : Nat) : Int) - ((hgs W (n + 1) : Nat) : Int) = (hcs W n : Int) - (hgs W n : Int) + (((hk W n).2.2.length : Int) - ((hk W n).2.1.length : Int)) by omega, Int.natCast_add, Int.natCast_one]
        simp (disch := omega) only [X7_turn_L31, rr_p, rr_bp, rr_bb, rr_0, rr_lt, rr_blt, rr_le, rr_ble, rr_eq, rr_beq, rr_nl_n, rr_nl_s, rr_bnl_n, rr_bnl_s, rr_cond_t, rr_cond_f, rr_bcond_t, rr_bcond_f, rr_bon, rr_bcv, rr_cv, rr_g, rr_gr, rr_si, rr_sz, rr_sr, rr_al, rr_ld, rr_st, rr_rl, rr_rs, rr_ni, rr_nr, rr_z, rr_div, rr_rem, rr_lc, rr_mx, rr_mn, rr_ab, rr_no, gd_t, bc_t, bc_f, gd_tt, bc_tt, bc_ff, or_true, true_or, and_true, true_and, Nat.reduceAdd, p7, p8, w1, b1, hB1, mo_b_s e1, pp9, pp10, d2, d3, mo_b_s e2, mo_b_s e3]
      · rw [turnW_s]
        rw [List.nil_append, List.nil_append] at v3
        exact v3
    · right
      have : n = W.length := by omega
      subst this
      exact ⟨(), h', by simp (disch := omega) only [X7_turn_L31, rr_p, rr_bp, rr_bb, rr_0, rr_lt, rr_blt, rr_le, rr_ble, rr_eq, rr_beq, rr_nl_n, rr_nl_s, rr_bnl_n, rr_bnl_s, rr_cond_t, rr_cond_f, rr_bcond_t, rr_bcond_f, rr_bon, rr_bcv, rr_cv, rr_g, rr_gr, rr_si, rr_sz, rr_sr, rr_al, rr_ld, rr_st, rr_rl, rr_rs, rr_ni, rr_nr, rr_z, rr_div, rr_rem, rr_lc, rr_mx, rr_mn, rr_ab, rr_no, gd_t, bc_t, bc_f, gd_tt, bc_tt, bc_ff, or_true, true_or, and_true, true_and, Nat.reduceAdd, p7, w1], n2, n3⟩
theorem turnW_hk {W : List HK} {i : Nat} (hi : i < W.length) : hk (turnW W) i = (hB W i, (hk W i).2.2, (hk W i).2.1) := by
  have e : hk (turnW W) i = (turnW W).getD i (0, [], []) := rfl
  rw [e]; unfold turnW
  rw [List.getD_eq_getElem?_getD, List.getElem?_map, List.getElem?_range hi]; rfl
/-- the lines that go before hunk i are all ahead of it -/
theorem hgs_at {W : List HK} (hs : sW W) : ∀ i : Nat, i < W.length → (hgs W i : Int) + i ≤ (hk W i).1 := by
  intro i
  induction i with
  | zero => intro hi; rw [hgs_0]; have := hs.1 0 hi; omega
  | succ i ih =>
    intro hi
    have h1 := ih (by omega)
    have h2 := hs.2 i hi
    have h3 := @hgs_s W i (by omega)
    omega
theorem hB_s {W : List HK} {i : Nat} (hs : sW W) (hi : i + 1 < W.length) : hB W i + ((hk W i).2.2.length : Int) + 1 ≤ hB W (i + 1) := by
  have h2 := hs.2 i hi
  have h3 := @hgs_s W i (by omega)
  have h4 := @hcs_s W i (by omega)
  unfold hB; omega
theorem hB_0 {W : List HK} {i : Nat} (hs : sW W) (hi : i < W.length) : 0 ≤ hB W i := by
  have h1 := hgs_at hs i hi
  unfold hB; omega
theorem turnW_OP {b : Int} {W : List HK} (h : OP b W) : OP (b + 28) (turnW W) := by
  have hl : (turnW W).length = W.length := by simp [turnW]
  have t1 := turn_fG (V := W) (k := W.length) (Nat.le_refl _)
  have t2 := turn_fC (V := W) (k := W.length) (Nat.le_refl _)
  rw [hcs_all] at t1
  rw [hgs_all] at t2
  refine ⟨⟨fun i hi => ?_, fun i hi => ?_⟩, by rw [hl]; exact h.2.1, by have := h.2.2.2.1; unfold turnW; omega, by have := h.2.2.1; unfold turnW; omega, fun i hi => ?_⟩
  · rw [hl] at hi; rw [turnW_hk hi]; exact hB_0 h.1 hi
  · rw [hl] at hi; rw [turnW_hk hi, turnW_hk (by omega)]; exact hB_s h.1 hi
  · rw [hl] at hi
    rw [turnW_hk hi]
    obtain ⟨g1, g2, g3⟩ := h.2.2.2.2 i hi
    refine ⟨g2, g1, ?_⟩
    have := @hcs_le W i
    have := h.2.2.2.1
    show hB W i ≤ b + 28
    unfold hB; omega
theorem OP_mono {b b2 : Int} {W : List HK} (h : OP b W) (hb : b ≤ b2) : OP b2 W := ⟨h.1, h.2.1, h.2.2.1, h.2.2.2.1, fun i hi => by
  obtain ⟨g1, g2, g3⟩ := h.2.2.2.2 i hi
  exact ⟨g1, g2, by omega⟩⟩
theorem c_turn (p : Int) (hp : am_r p) (s : SG) (ho : OKS s) : CJ (fun x => X6_turn x p) (fun m => X7_turn m p) s := by
  obtain ⟨D, V, Q, d⟩ := s
  obtain ⟨⟨hD1, hD2⟩, oV, oQ, od⟩ := id ho
  dsimp only at hD1 hD2 oV oQ od
  have oQ1 := oQ.1
  have hp2 := hp
  unfold am_r at hp
  by_cases c1 : 0 ≤ p ∧ p < Q.length
  · obtain ⟨pn, rfl⟩ := Int.eq_ofNat_of_zero_le c1.1
    have hpl : pn < Q.length := by omega
    have hOP := oQ.2 pn hpl
    by_cases cq : Q.length < 12
    · have hOT := OP_mono (turnW_OP hOP) (b2 := 14 + 28 * ((Q.length : Int) + 1)) (by omega)
      refine ⟨(Q.length : Int), (D, V, Q ++ [turnW (pt Q pn)], d), ⟨⟨hD1, hD2⟩, oV, OQ_add oQ cq hOT, od⟩, ?_, ?_⟩
      · intro x h hK
        obtain ⟨hR, nD, hSc, A, B, hB⟩ := id hK
        obtain ⟨⟨o1, ⟨p0, p1, p2, p4, p6, p7, p8, p9, p10, p11, p12⟩, o3, o4, o5, o6, o7, o8, o9⟩, ⟨f3, f5, f13⟩, hA, hQ, hM, hX⟩ := id hB
        dsimp only at hR hB hA hQ hM hX f3 f5 f13
        have e1 := q6_patchOrNull hB oQ1 hp2
        rw [if_pos c1, Int.toNat_natCast] at e1
        obtain ⟨y1, y2, y3, y4⟩ := hQ pn hpl
        have e3 := q6_hasRoom hB oQ1 (n := 1) (by omega)
        rw [bc_t (by omega)] at e3
        obtain ⟨h1, e4, r4, s4, z4⟩ := q6_newPatch (h := h)
        have hSc1 := KSc_sm hSc (s4.mono (by omega) (by omega)) (s4.mono (by omega) (by omega))
        obtain ⟨h2, e5, r5, g5⟩ := q3_becomeTurned r4 (kP_sm y2 (s4.mono (by omega) (by omega))) (by omega) hOP.2.1 hOP.2.2.1 hOP.2.2.2.1
        have tn := r4.1.1.1
        have cx := s4 x (by omega) (by omega)
        have tx2 : ah_T h2 x = 16 := by rw [g5.1, cx.1]; exact o1
        obtain ⟨h4, e6, K4⟩ := k_added (D := D) hB cq ((s4.mono (by omega) (by omega)).tr (SM.fr g5 (by omega))) ((s4.mono (by omega) (by omega)).tr (SM.fr g5 (by omega))) ((s4.mono (by omega) (by omega)).tr (SM.fr g5 (by omega))) (by rw [g5.2.2.2.2.1]; omega) (kR_sm hR ((s4.mono (by omega) (by omega)).tr (SM.fr g5 (by omega)))) (by rw [g5.2.1, (s4 (x + 2) (by omega) (by omega)).2.1]; exact nD) (KSc_sm hSc1 (SM.fr g5 (by omega)) (SM.fr g5 (by omega))) r5
        exact ⟨h4, by simp (disch := omega) only [X6_turn, rr_p, rr_bp, rr_bb, rr_0, rr_lt, rr_blt, rr_le, rr_ble, rr_eq, rr_beq, rr_nl_n, rr_nl_s, rr_bnl_n, rr_bnl_s, rr_cond_t, rr_cond_f, rr_bcond_t, rr_bcond_f, rr_bon, rr_bcv, rr_cv, rr_g, rr_gr, rr_si, rr_sz, rr_sr, rr_al, rr_ld, rr_st, rr_rl, rr_rs, rr_ni, rr_nr, rr_z, rr_div, rr_rem, rr_lc, rr_mx, rr_mn, rr_ab, rr_no, gd_t, bc_t, bc_f, gd_tt, bc_tt, bc_ff, or_true, true_or, and_true, true_and, Nat.reduceAdd, mo_b_s e1, mo_b_s e3, mo_b_s e4, mo_b_s e5, mo_b_s e6], K4⟩
      · intro m h hM
        have mT := hM.1.1
        have e1 := q7_isPatch hM oQ1 hp2
        dsimp only at e1
        rw [bc_t c1] at e1
        have f8 := hM.2.2.2.1.1
        dsimp only at f8
        obtain ⟨h1, e3, w3, f3⟩ := q7_newWork hM.1
        have hM1 := MI_fr hM f3 (by omega)
        have mT1 := hM1.1.1
        have hQ1 := MI_Q hM1 ho (p := pn) hpl
        dsimp only at hQ1
        obtain ⟨h2, e4, w4, f4⟩ := q7_turnW hQ1 w3
        have hM2 := MI_fr hM1 f4 (by omega)
        have mT2 := hM2.1.1
        obtain ⟨h3, e5, M5, f5⟩ := q7_storeWork hM2 w4 cq hOT.2.1 hOT.2.2.1 hOT.2.2.2.1 (OQ_b oQ)
        exact ⟨h3, by simp (disch := omega) only [X7_turn, rr_p, rr_bp, rr_bb, rr_0, rr_lt, rr_blt, rr_le, rr_ble, rr_eq, rr_beq, rr_nl_n, rr_nl_s, rr_bnl_n, rr_bnl_s, rr_cond_t, rr_cond_f, rr_bcond_t, rr_bcond_f, rr_bon, rr_bcv, rr_cv, rr_g, rr_gr, rr_si, rr_sz, rr_sr, rr_al, rr_ld, rr_st, rr_rl, rr_rs, rr_ni, rr_nr, rr_z, rr_div, rr_rem, rr_lc, rr_mx, rr_mn, rr_ab, rr_no, gd_t, bc_t, bc_f, gd_tt, bc_tt, bc_ff, or_true, true_or, and_true, true_and, Nat.reduceAdd, f8, mo_b_s e1, mo_b_s e3, mo_b_s e4, mo_b_s e5], M5⟩
    · refine CJ.same (-104) ho ?_ ?_
      · intro x h hK
        obtain ⟨hR, nD, hSc, A, B, hB⟩ := id hK
        obtain ⟨⟨o1, ⟨p0, p1, p2, p4, p6, p7, p8, p9, p10, p11, p12⟩, o3, o4, o5, o6, o7, o8, o9⟩, ⟨f3, f5, f13⟩, hA, hQ, hM, hX⟩ := id hB
        dsimp only at hB f5
        have e1 := q6_patchOrNull hB oQ1 hp2
        rw [if_pos c1] at e1
        have e3 := q6_hasRoom hB oQ1 (n := 1) (by omega)
        rw [bc_f (by omega)] at e3
        simp (disch := omega) only [X6_turn, rr_p, rr_bp, rr_bb, rr_0, rr_lt, rr_blt, rr_le, rr_ble, rr_eq, rr_beq, rr_nl_n, rr_nl_s, rr_bnl_n, rr_bnl_s, rr_cond_t, rr_cond_f, rr_bcond_t, rr_bcond_f, rr_bon, rr_bcv, rr_cv, rr_g, rr_gr, rr_si, rr_sz, rr_sr, rr_al, rr_ld, rr_st, rr_rl, rr_rs, rr_ni, rr_nr, rr_z, rr_div, rr_rem, rr_lc, rr_mx, rr_mn, rr_ab, rr_no, gd_t, bc_t, bc_f, gd_tt, bc_tt, bc_ff, or_true, true_or, and_true, true_and, Nat.reduceAdd, mo_b_s e1, mo_b_s e3]
      · intro m h hM
        have mT := hM.1.1
        have e1 := q7_isPatch hM oQ1 hp2
        dsimp only at e1
        rw [bc_t c1] at e1
        have f8 := hM.2.2.2.1.1
        dsimp only at f8
        simp (disch := omega) only [X7_turn, rr_p, rr_bp, rr_bb, rr_0, rr_lt, rr_blt, rr_le, rr_ble, rr_eq, rr_beq, rr_nl_n, rr_nl_s, rr_bnl_n, rr_bnl_s, rr_cond_t, rr_cond_f, rr_bcond_t, rr_bcond_f, rr_bon, rr_bcv, rr_cv, rr_g, rr_gr, rr_si, rr_sz, rr_sr, rr_al, rr_ld, rr_st, rr_rl, rr_rs, rr_ni, rr_nr, rr_z, rr_div, rr_rem, rr_lc, rr_mx, rr_mn, rr_ab, rr_no, gd_t, bc_t, bc_f, gd_tt, bc_tt, bc_ff, or_true, true_or, and_true, true_and, Nat.reduceAdd, f8, mo_b_s e1]
  · refine CJ.same (-101) ho ?_ ?_
    · intro x h hK
      obtain ⟨hR, nD, hSc, A, B, hB⟩ := id hK
      obtain ⟨⟨o1, ⟨p0, p1, p2, p4, p6, p7, p8, p9, p10, p11, p12⟩, o3, o4, o5, o6, o7, o8, o9⟩, ⟨f3, f5, f13⟩, hA, hQ, hM, hX⟩ := id hB
      have e1 := q6_patchOrNull hB oQ1 hp2
      rw [if_neg c1] at e1
      simp (disch := omega) only [X6_turn, rr_p, rr_bp, rr_bb, rr_0, rr_lt, rr_blt, rr_le, rr_ble, rr_eq, rr_beq, rr_nl_n, rr_nl_s, rr_bnl_n, rr_bnl_s, rr_cond_t, rr_cond_f, rr_bcond_t, rr_bcond_f, rr_bon, rr_bcv, rr_cv, rr_g, rr_gr, rr_si, rr_sz, rr_sr, rr_al, rr_ld, rr_st, rr_rl, rr_rs, rr_ni, rr_nr, rr_z, rr_div, rr_rem, rr_lc, rr_mx, rr_mn, rr_ab, rr_no, gd_t, bc_t, bc_f, gd_tt, bc_tt, bc_ff, or_true, true_or, and_true, true_and, Nat.reduceAdd, mo_b_s e1]
    · intro m h hM
      have mT := hM.1.1
      have e1 := q7_isPatch hM oQ1 hp2
      dsimp only at e1
      rw [bc_f c1] at e1
      simp (disch := omega) only [X7_turn, rr_p, rr_bp, rr_bb, rr_0, rr_lt, rr_blt, rr_le, rr_ble, rr_eq, rr_beq, rr_nl_n, rr_nl_s, rr_bnl_n, rr_bnl_s, rr_cond_t, rr_cond_f, rr_bcond_t, rr_bcond_f, rr_bon, rr_bcv, rr_cv, rr_g, rr_gr, rr_si, rr_sz, rr_sr, rr_al, rr_ld, rr_st, rr_rl, rr_rs, rr_ni, rr_nr, rr_z, rr_div, rr_rem, rr_lc, rr_mx, rr_mn, rr_ab, rr_no, gd_t, bc_t, bc_f, gd_tt, bc_tt, bc_ff, or_true, true_or, and_true, true_and, Nat.reduceAdd, mo_b_s e1]
