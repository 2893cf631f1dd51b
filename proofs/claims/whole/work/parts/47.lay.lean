theorem getD_app_l {x y : List Int} {k : Nat} (h : k < x.length) : (x ++ y).getD k 0 = x.getD k 0 := by
  simp only [List.getD_eq_getElem?_getD]; rw [List.getElem?_append_left h]
theorem getD_app_r {x y : List Int} {k : Nat} (h : x.length ≤ k) : (x ++ y).getD k 0 = y.getD (k - x.length) 0 := by
  simp only [List.getD_eq_getElem?_getD]; rw [List.getElem?_append_right h]
theorem getD_big {x : List Int} {k : Nat} (h : x.length ≤ k) : x.getD k 0 = 0 := by
  simp only [List.getD_eq_getElem?_getD]; rw [List.getElem?_eq_none h]; rfl
theorem getD_drop {x : List Int} {k n : Nat} : (x.drop n).getD k 0 = x.getD (n + k) 0 := by
  simp only [List.getD_eq_getElem?_getD, List.getElem?_drop]
theorem getD_take {x : List Int} {k n : Nat} (h : k < n) : (x.take n).getD k 0 = x.getD k 0 := by
  simp only [List.getD_eq_getElem?_getD]; rw [List.getElem?_take_of_lt h]
theorem pL_app {x y : List Int} (hx : pL x) (hy : pL y) : pL (x ++ y) := by
  intro k
  by_cases h : k < x.length
  · rw [getD_app_l h]; exact hx k
  · rw [getD_app_r (by omega)]; exact hy _
theorem pL_drop {x : List Int} (hx : pL x) (n : Nat) : pL (x.drop n) := fun k => by rw [getD_drop]; exact hx _
theorem pL_take {x : List Int} (hx : pL x) (n : Nat) : pL (x.take n) := fun k => by
  by_cases h : k < n
  · rw [getD_take h]; exact hx k
  · rw [getD_big (by simp; omega)]; omega
theorem pL_nil : pL [] := fun k => by rw [getD_big (by simp)]; omega
/-- n lines from p on are replaced by c -/
def rpl (xs : List Int) (p : Int) (n : Nat) (c : List Int) : List Int := xs.take p.toNat ++ c ++ xs.drop (p.toNat + n)
theorem rpl_len {xs c : List Int} {p : Int} {n : Nat} (h : p.toNat + n ≤ xs.length) : (rpl xs p n c).length + n = xs.length + c.length := by
  simp [rpl]; omega
theorem pL_rpl {xs c : List Int} {p : Int} {n : Nat} (hx : pL xs) (hc : pL c) : pL (rpl xs p n c) := pL_app (pL_app (pL_take hx _) hc) (pL_drop hx _)
theorem ldel_rpl {xs : List Int} {p : Int} {k : Nat} (h0 : 0 ≤ p) (h : p.toNat + k < xs.length) : ldel (rpl xs p k []) p = rpl xs p (k + 1) [] := by
  have hl : (xs.take p.toNat).length = p.toNat := by rw [List.length_take]; omega
  unfold ldel rpl
  simp only [List.append_nil]
  rw [List.take_append_of_le_length (by omega), List.take_of_length_le (by omega)]
  congr 1
  rw [List.drop_append, hl, List.drop_eq_nil_of_le (by omega), List.nil_append, List.drop_drop]
  congr 1; omega
theorem lins_rpl {xs c : List Int} {p v : Int} {n : Nat} (h0 : 0 ≤ p) (h : p.toNat + n ≤ xs.length) : lins (rpl xs p n c) (p + c.length) v = rpl xs p n (c ++ [v]) := by
  have hl : (xs.take p.toNat).length = p.toNat := by rw [List.length_take]; omega
  unfold lins rpl
  have e : (p + (c.length : Int)).toNat = p.toNat + c.length := by omega
  have hl2 : (xs.take p.toNat ++ c).length = p.toNat + c.length := by rw [List.length_append, hl]
  rw [e, List.take_append_of_le_length (by omega), List.take_of_length_le (by omega), List.drop_append, List.drop_eq_nil_of_le (by omega), hl2, Nat.sub_self]
  simp
theorem q3_replace {h : AH} {a mh ml b : Nat} {W : List HK} {xs : List Int} (hP : kP h a mh ml W) (hX : kR h b xs) (hab : a + 6 ≤ b ∨ b + 2 ≤ a) {i p : Int} (h0 : 0 ≤ i) (h1 : i < W.length) (hp0 : 0 ≤ p) (hp1 : p + (hk W i.toNat).2.1.length ≤ xs.length) (hN : (xs.length : Int) + (hk W i.toNat).2.2.length ≤ (ah_N h (b + 1) : Int) + (hk W i.toNat).2.1.length) : ∃ h', X3_replace a (some b) i p h = some ((), h') ∧ kR h' b (rpl xs p (hk W i.toNat).2.1.length (hk W i.toNat).2.2) ∧ FRM h h' b (b + 2) := by
  have hl := hP.2.2.1
  have hm := hP.1.2.2.2
  have hgl := @hgs_le W (i.toNat + 1)
  have hgs := @hgs_s W i.toNat (by omega)
  have hcl := @hcs_le W (i.toNat + 1)
  have hcs := @hcs_s W i.toNat (by omega)
  have hNx := hX.2.2.2.2.2.1
  have hlx := hX.2.2.2.2.1
  have hL1 := lp_inv (F := X3_replace_L3 a (some b) i p) (fun k h' => 0 ≤ k ∧ k ≤ (hk W i.toNat).2.1.length ∧ kR h' b (rpl xs p k.toNat []) ∧ FRM h h' b (b + 2)) (fun k => (((hk W i.toNat).2.1.length : Int) - k).toNat) (fun _ h' => kR h' b (rpl xs p (hk W i.toNat).2.1.length []) ∧ FRM h h' b (b + 2)) ?_ mo_N 0 h ⟨by omega, by omega, ?_, FRM.rf⟩ (by rw [mo_N_v]; omega)
  · obtain ⟨_, h1', e1, r1, f1⟩ := hL1
    have hP1 := kP_fr hP f1 (by omega)
    have hL2 := lp_inv (F := X3_replace_L27 a (some b) i p) (fun k h' => 0 ≤ k ∧ k ≤ (hk W i.toNat).2.2.length ∧ kR h' b (rpl xs p (hk W i.toNat).2.1.length ((hk W i.toNat).2.2.take k.toNat)) ∧ FRM h h' b (b + 2)) (fun k => (((hk W i.toNat).2.2.length : Int) - k).toNat) (fun _ h' => kR h' b (rpl xs p (hk W i.toNat).2.1.length (hk W i.toNat).2.2) ∧ FRM h h' b (b + 2)) ?_ mo_N 0 h1' ⟨by omega, by omega, r1, f1⟩ (by rw [mo_N_v]; omega)
    · obtain ⟨_, h2', e2, r2, f2⟩ := hL2
      exact ⟨h2', by simp (disch := omega) only [X3_replace, rr_p, rr_bp, rr_bb, rr_0, rr_lt, rr_blt, rr_le, rr_ble, rr_eq, rr_beq, rr_nl_n, rr_nl_s, rr_bnl_n, rr_bnl_s, rr_cond_t, rr_cond_f, rr_bcond_t, rr_bcond_f, rr_bon, rr_bcv, rr_cv, rr_g, rr_gr, rr_si, rr_sz, rr_sr, rr_al, rr_ld, rr_st, rr_rl, rr_rs, rr_ni, rr_nr, rr_z, rr_div, rr_rem, rr_lc, rr_mx, rr_mn, rr_ab, rr_no, gd_t, bc_t, bc_f, gd_tt, bc_tt, bc_ff, or_true, true_or, and_true, true_and, Nat.reduceAdd, mo_b_s e1, mo_b_s e2], r2, f2⟩
    · intro k h' ⟨k1, k2, k3, k4⟩
      have hP' := kP_fr hP k4 (by omega)
      have eg := q3_coming hP' h0 h1
      have tb := k3.1
      have ta := hP'.1.1.1
      by_cases hkk : k < (hk W i.toNat).2.2.length
      · left
        have ev := q3_comingLine hP' (i := i) (k := k) h0 h1 (by omega)
        rw [if_pos (by omega)] at ev
        have hlen := @rpl_len xs ((hk W i.toNat).2.2.take k.toNat) p (hk W i.toNat).2.1.length (by omega)
        rw [List.length_take] at hlen
        obtain ⟨h2, e2, r2, f2⟩ := q4_insert k3 (i := p + k) (v := (hk W i.toNat).2.2.getD k.toNat 0) (by omega) (by omega) (by rw [k4.2.1]; omega)
        refine ⟨k + 1, h2, ?_, ⟨by omega, by omega, ?_, k4.tr f2 (Nat.le_refl _) (Nat.le_refl _) (Nat.le_refl _) (Nat.le_refl _)⟩, by omega⟩
        · simp (disch := omega) only [X3_replace_L27, rr_p, rr_bp, rr_bb, rr_0, rr_lt, rr_blt, rr_le, rr_ble, rr_eq, rr_beq, rr_nl_n, rr_nl_s, rr_bnl_n, rr_bnl_s, rr_cond_t, rr_cond_f, rr_bcond_t, rr_bcond_f, rr_bon, rr_bcv, rr_cv, rr_g, rr_gr, rr_si, rr_sz, rr_sr, rr_al, rr_ld, rr_st, rr_rl, rr_rs, rr_ni, rr_nr, rr_z, rr_div, rr_rem, rr_lc, rr_mx, rr_mn, rr_ab, rr_no, gd_t, bc_t, bc_f, gd_tt, bc_tt, bc_ff, or_true, true_or, and_true, true_and, Nat.reduceAdd, mo_b_s eg, mo_b_s ev, mo_b_s e2]
        · have e3 := @lins_rpl xs ((hk W i.toNat).2.2.take k.toNat) p ((hk W i.toNat).2.2.getD k.toNat 0) (hk W i.toNat).2.1.length hp0 (by omega)
          rw [show (((hk W i.toNat).2.2.take k.toNat).length : Int) = k by rw [List.length_take]; omega] at e3
          rw [e3] at r2
          rw [show (k + 1).toNat = k.toNat + 1 by omega, take_s (by omega)]
          exact r2
      · right
        refine ⟨(), h', by simp (disch := omega) only [X3_replace_L27, rr_p, rr_bp, rr_bb, rr_0, rr_lt, rr_blt, rr_le, rr_ble, rr_eq, rr_beq, rr_nl_n, rr_nl_s, rr_bnl_n, rr_bnl_s, rr_cond_t, rr_cond_f, rr_bcond_t, rr_bcond_f, rr_bon, rr_bcv, rr_cv, rr_g, rr_gr, rr_si, rr_sz, rr_sr, rr_al, rr_ld, rr_st, rr_rl, rr_rs, rr_ni, rr_nr, rr_z, rr_div, rr_rem, rr_lc, rr_mx, rr_mn, rr_ab, rr_no, gd_t, bc_t, bc_f, gd_tt, bc_tt, bc_ff, or_true, true_or, and_true, true_and, Nat.reduceAdd, mo_b_s eg], ?_, k4⟩
        rw [List.take_of_length_le (by omega)] at k3
        exact k3
  · intro k h' ⟨k1, k2, k3, k4⟩
    have hP' := kP_fr hP k4 (by omega)
    have eg := q3_going hP' h0 h1
    have tb := k3.1
    have ta := hP'.1.1.1
    by_cases hkk : k < (hk W i.toNat).2.1.length
    · left
      have hlen := @rpl_len xs [] p k.toNat (by omega)
      obtain ⟨h2, e2, r2, f2⟩ := q4_remove k3 (i := p) (by omega) (by simp at hlen; omega)
      refine ⟨k + 1, h2, ?_, ⟨by omega, by omega, ?_, k4.tr f2 (Nat.le_refl _) (Nat.le_refl _) (Nat.le_refl _) (Nat.le_refl _)⟩, by omega⟩
      · simp (disch := omega) only [X3_replace_L3, rr_p, rr_bp, rr_bb, rr_0, rr_lt, rr_blt, rr_le, rr_ble, rr_eq, rr_beq, rr_nl_n, rr_nl_s, rr_bnl_n, rr_bnl_s, rr_cond_t, rr_cond_f, rr_bcond_t, rr_bcond_f, rr_bon, rr_bcv, rr_cv, rr_g, rr_gr, rr_si, rr_sz, rr_sr, rr_al, rr_ld, rr_st, rr_rl, rr_rs, rr_ni, rr_nr, rr_z, rr_div, rr_rem, rr_lc, rr_mx, rr_mn, rr_ab, rr_no, gd_t, bc_t, bc_f, gd_tt, bc_tt, bc_ff, or_true, true_or, and_true, true_and, Nat.reduceAdd, mo_b_s eg, mo_b_s e2]
      · rw [show (k + 1).toNat = k.toNat + 1 by omega, ← ldel_rpl hp0 (by omega)]
        exact r2
    · right
      refine ⟨(), h', by simp (disch := omega) only [X3_replace_L3, rr_p, rr_bp, rr_bb, rr_0, rr_lt, rr_blt, rr_le, rr_ble, rr_eq, rr_beq, rr_nl_n, rr_nl_s, rr_bnl_n, rr_bnl_s, rr_cond_t, rr_cond_f, rr_bcond_t, rr_bcond_f, rr_bon, rr_bcv, rr_cv, rr_g, rr_gr, rr_si, rr_sz, rr_sr, rr_al, rr_ld, rr_st, rr_rl, rr_rs, rr_ni, rr_nr, rr_z, rr_div, rr_rem, rr_lc, rr_mx, rr_mn, rr_ab, rr_no, gd_t, bc_t, bc_f, gd_tt, bc_tt, bc_ff, or_true, true_or, and_true, true_and, Nat.reduceAdd, mo_b_s eg], ?_, k4⟩
      rw [show k.toNat = (hk W i.toNat).2.1.length by omega] at k3
      exact k3
  · have e : rpl xs p (0 : Int).toNat [] = xs := by simp [rpl]
    rw [e]; exact hX
/-- places 0 and above, and a line at least between two hunks -/
def sW (W : List HK) : Prop := (∀ i : Nat, i < W.length → 0 ≤ (hk W i).1) ∧ ∀ i : Nat, i + 1 < W.length → (hk W i).1 + (hk W i).2.1.length + 1 ≤ (hk W (i + 1)).1
/-- the row that comes of xs from n on -/
def layW (xs : List Int) : Int → List HK → List Int
  | n, [] => xs.drop n.toNat
  | n, q :: W => (xs.take q.1.toNat).drop n.toNat ++ q.2.2 ++ layW xs (q.1 + q.2.1.length) W
theorem hkd_s {W : List HK} {k : Nat} (h : k < W.length) : W.drop k = hk W k :: W.drop (k + 1) := by
  rw [hk, List.getD_eq_getElem?_getD, List.getElem?_eq_getElem h]; exact List.drop_eq_getElem_cons h
def nxt (W : List HK) (k : Nat) : Int := if k = 0 then 0 else (hk W (k - 1)).1 + (hk W (k - 1)).2.1.length
theorem q3_layOn {h : AH} {a mh ml b r : Nat} {W : List HK} {xs ys : List Int} (hP : kP h a mh ml W) (hX : kR h b xs) (hY : kR h r ys) (hab : a + 6 ≤ b ∨ b + 2 ≤ a) (har : a + 6 ≤ r ∨ r + 2 ≤ a) (hbr : b + 2 ≤ r ∨ r + 2 ≤ b) (hs : sW W) (hf : ∀ i : Nat, i < W.length → (hk W i).1 + (hk W i).2.1.length ≤ xs.length) (hN : (xs.length : Int) + (fC W).length ≤ ah_N h (r + 1)) : ∃ h', X3_layOn a (some b) (some r) h = some ((), h') ∧ kR h' r (layW xs 0 W) ∧ FRM h h' r (r + 2) := by
  have hl := hP.2.2.1
  have hm := hP.1.2.2.2
  have f5 := hP.2.1
  have ta := hP.1.1.1
  have tr := hY.1
  have tb := hX.1
  have hlx := hX.2.2.2.2.1
  have hNx := hX.2.2.2.2.2.1
  obtain ⟨h0, e0, r0, f0⟩ := q4_clear hY
  have hL := lp_inv (F := X3_layOn_L9 a (some b) (some r)) (fun s h' => ∃ acc, 0 ≤ s.2 ∧ s.2 ≤ W.length ∧ s.1 = nxt W s.2.toNat ∧ kR h' r acc ∧ acc ++ layW xs s.1 (W.drop s.2.toNat) = layW xs 0 W ∧ (acc.length : Int) ≤ s.1 + hcs W s.2.toNat ∧ FRM h h' r (r + 2)) (fun s => ((W.length : Int) - s.2).toNat) (fun n h' => ∃ acc, 0 ≤ n ∧ n ≤ xs.length ∧ kR h' r acc ∧ acc ++ xs.drop n.toNat = layW xs 0 W ∧ (acc.length : Int) ≤ n + (fC W).length ∧ FRM h h' r (r + 2)) ?_ mo_N (0, 0) h0 ⟨[], by simp, by simp, rfl, r0, by simp, by simp, f0⟩ (by rw [mo_N_v]; show ((W.length : Int) - 0).toNat < 200000; omega)
  · obtain ⟨n, h1, e1, acc, n0, n1, r1, ea, la, f1⟩ := hL
    have hX1 := kR_fr hX f1 (by omega)
    have es := q4_size hX1
    obtain ⟨h2, e2, r2, f2⟩ := q4_addPart r1 hX1 (by omega) (i := n) (e := (xs.length : Int)) n0 n1 (by omega) (by rw [f1.2.1]; omega)
    have tr1 := r1.1
    have tb1 := hX1.1
    refine ⟨h2, ?_, ?_, f1.tr f2 (Nat.le_refl _) (Nat.le_refl _) (Nat.le_refl _) (Nat.le_refl _)⟩
    · simp (disch := omega) only [X3_layOn, rr_p, rr_bp, rr_bb, rr_0, rr_lt, rr_blt, rr_le, rr_ble, rr_eq, rr_beq, rr_nl_n, rr_nl_s, rr_bnl_n, rr_bnl_s, rr_cond_t, rr_cond_f, rr_bcond_t, rr_bcond_f, rr_bon, rr_bcv, rr_cv, rr_g, rr_gr, rr_si, rr_sz, rr_sr, rr_al, rr_ld, rr_st, rr_rl, rr_rs, rr_ni, rr_nr, rr_z, rr_div, rr_rem, rr_lc, rr_mx, rr_mn, rr_ab, rr_no, gd_t, bc_t, bc_f, gd_tt, bc_tt, bc_ff, or_true, true_or, and_true, true_and, Nat.reduceAdd, mo_b_s e0, mo_b_s e1, mo_b_s es, mo_b_s e2]
    · rw [Int.toNat_natCast, List.take_length, ea] at r2
      exact r2
  · rintro ⟨y1, y2⟩ h' ⟨acc, k1, k2, kn, k3, ke, kl, k4⟩
    dsimp only at k1 k2 kn ke kl ⊢
    have hP' := kP_fr hP k4 (by omega)
    have hX' := kR_fr hX k4 (by omega)
    have f5' := hP'.2.1
    have ta' := hP'.1.1.1
    have tr' := k3.1
    by_cases hkk : y2 < W.length
    · left
      have eb := q3_begins hP' (i := y2) k1 hkk
      have ee := q3_ends hP' (i := y2) k1 hkk
      have b0 := hs.1 y2.toNat (by omega)
      have bf := hf y2.toNat (by omega)
      have s1 := @hcs_s W y2.toNat (by omega)
      have s2 := @hcs_le W (y2.toNat + 1)
      have hn0 : 0 ≤ y1 ∧ y1 ≤ (hk W y2.toNat).1 := by
        rw [kn]; unfold nxt
        by_cases hz : y2.toNat = 0
        · rw [if_pos hz]; omega
        · rw [if_neg hz]
          have q1 := hs.1 (y2.toNat - 1) (by omega)
          have q2 := hs.2 (y2.toNat - 1) (by omega)
          rw [show y2.toNat - 1 + 1 = y2.toNat by omega] at q2
          omega
      obtain ⟨h1, e1, r1, f1⟩ := q4_addPart k3 hX' (by omega) (i := y1) (e := (hk W y2.toNat).1) hn0.1 hn0.2 (by omega) (by rw [k4.2.1]; omega)
      have f01 := k4.tr f1 (Nat.le_refl _) (Nat.le_refl _) (Nat.le_refl _) (Nat.le_refl _)
      have hlen1 : ((xs.take (hk W y2.toNat).1.toNat).drop y1.toNat).length = (hk W y2.toNat).1.toNat - y1.toNat := by simp; omega
      have hL2 := lp_inv (F := X3_layOn_L33 a (some r) y2) (fun k h'' => 0 ≤ k ∧ k ≤ (hk W y2.toNat).2.2.length ∧ kR h'' r (acc ++ (xs.take (hk W y2.toNat).1.toNat).drop y1.toNat ++ (hk W y2.toNat).2.2.take k.toNat) ∧ FRM h h'' r (r + 2)) (fun k => (((hk W y2.toNat).2.2.length : Int) - k).toNat) (fun _ h'' => kR h'' r (acc ++ (xs.take (hk W y2.toNat).1.toNat).drop y1.toNat ++ (hk W y2.toNat).2.2) ∧ FRM h h'' r (r + 2)) ?_ mo_N 0 h1 ⟨by omega, by omega, by simpa using r1, f01⟩ (by rw [mo_N_v]; omega)
      · obtain ⟨_, h2, e2, r2, f2⟩ := hL2
        have hP2 := kP_fr hP f2 (by omega)
        have ee2 := q3_ends hP2 (i := y2) k1 hkk
        have ta2 := hP2.1.1.1
        refine ⟨((hk W y2.toNat).1 + ((hk W y2.toNat).2.1.length : Int), y2 + 1), h2, ?_, ⟨_, by omega, by omega, ?_, r2, ?_, ?_, f2⟩, by omega⟩
        · simp (disch := omega) only [X3_layOn_L9, rr_p, rr_bp, rr_bb, rr_0, rr_lt, rr_blt, rr_le, rr_ble, rr_eq, rr_beq, rr_nl_n, rr_nl_s, rr_bnl_n, rr_bnl_s, rr_cond_t, rr_cond_f, rr_bcond_t, rr_bcond_f, rr_bon, rr_bcv, rr_cv, rr_g, rr_gr, rr_si, rr_sz, rr_sr, rr_al, rr_ld, rr_st, rr_rl, rr_rs, rr_ni, rr_nr, rr_z, rr_div, rr_rem, rr_lc, rr_mx, rr_mn, rr_ab, rr_no, gd_t, bc_t, bc_f, gd_tt, bc_tt, bc_ff, or_true, true_or, and_true, true_and, Nat.reduceAdd, f5', mo_b_s eb, mo_b_s e1, mo_b_s e2, mo_b_s ee2]
        · dsimp only
          unfold nxt
          rw [show (y2 + 1).toNat = y2.toNat + 1 by omega, if_neg (by omega), Nat.add_sub_cancel]
        · dsimp only
          rw [← ke, hkd_s (show y2.toNat < W.length by omega), show (y2 + 1).toNat = y2.toNat + 1 by omega]
          show _ = acc ++ ((xs.take (hk W y2.toNat).1.toNat).drop y1.toNat ++ (hk W y2.toNat).2.2 ++ layW xs ((hk W y2.toNat).1 + (hk W y2.toNat).2.1.length) (W.drop (y2.toNat + 1)))
          simp only [List.append_assoc]
        · dsimp only
          rw [show (y2 + 1).toNat = y2.toNat + 1 by omega]
          simp only [List.length_append, hlen1]
          omega
      · intro k h'' ⟨q1, q2, q3, q4⟩
        have hP2 := kP_fr hP q4 (by omega)
        have eg := q3_coming hP2 (i := y2) k1 hkk
        have ta2 := hP2.1.1.1
        have tr2 := q3.1
        by_cases hk2 : k < (hk W y2.toNat).2.2.length
        · left
          have ev := q3_comingLine hP2 (i := y2) (k := k) k1 hkk (by omega)
          rw [if_pos (by omega)] at ev
          obtain ⟨h2, e2, r2, f2⟩ := q4_add q3 (v := (hk W y2.toNat).2.2.getD k.toNat 0) (by rw [q4.2.1]; simp only [List.length_append, hlen1, List.length_take]; omega)
          refine ⟨k + 1, h2, ?_, ⟨by omega, by omega, ?_, q4.tr f2 (Nat.le_refl _) (Nat.le_refl _) (Nat.le_refl _) (Nat.le_refl _)⟩, by omega⟩
          · simp (disch := omega) only [X3_layOn_L33, rr_p, rr_bp, rr_bb, rr_0, rr_lt, rr_blt, rr_le, rr_ble, rr_eq, rr_beq, rr_nl_n, rr_nl_s, rr_bnl_n, rr_bnl_s, rr_cond_t, rr_cond_f, rr_bcond_t, rr_bcond_f, rr_bon, rr_bcv, rr_cv, rr_g, rr_gr, rr_si, rr_sz, rr_sr, rr_al, rr_ld, rr_st, rr_rl, rr_rs, rr_ni, rr_nr, rr_z, rr_div, rr_rem, rr_lc, rr_mx, rr_mn, rr_ab, rr_no, gd_t, bc_t, bc_f, gd_tt, bc_tt, bc_ff, or_true, true_or, and_true, true_and, Nat.reduceAdd, mo_b_s eg, mo_b_s ev, mo_b_s e2]
          · rw [show (k + 1).toNat = k.toNat + 1 by omega, take_s (by omega), ← List.append_assoc]
            exact r2
        · right
          refine ⟨(), h'', by simp (disch := omega) only [X3_layOn_L33, rr_p, rr_bp, rr_bb, rr_0, rr_lt, rr_blt, rr_le, rr_ble, rr_eq, rr_beq, rr_nl_n, rr_nl_s, rr_bnl_n, rr_bnl_s, rr_cond_t, rr_cond_f, rr_bcond_t, rr_bcond_f, rr_bon, rr_bcv, rr_cv, rr_g, rr_gr, rr_si, rr_sz, rr_sr, rr_al, rr_ld, rr_st, rr_rl, rr_rs, rr_ni, rr_nr, rr_z, rr_div, rr_rem, rr_lc, rr_mx, rr_mn, rr_ab, rr_no, gd_t, bc_t, bc_f, gd_tt, bc_tt, bc_ff, or_true, true_or, and_true, true_and, Nat.reduceAdd, mo_b_s eg], ?_, q4⟩
          rw [show (hk W y2.toNat).2.2.take k.toNat = (hk W y2.toNat).2.2 from List.take_of_length_le (by omega)] at q3
          exact q3
    · right
      have hy : y2.toNat = W.length := by omega
      have hn0 : 0 ≤ y1 ∧ y1 ≤ xs.length := by
        rw [kn]; unfold nxt
        by_cases hz : y2.toNat = 0
        · rw [if_pos hz]; omega
        · rw [if_neg hz]
          have q1 := hs.1 (y2.toNat - 1) (by omega)
          have q2 := hf (y2.toNat - 1) (by omega)
          omega
      refine ⟨y1, h', by simp (disch := omega) only [X3_layOn_L9, rr_p, rr_bp, rr_bb, rr_0, rr_lt, rr_blt, rr_le, rr_ble, rr_eq, rr_beq, rr_nl_n, rr_nl_s, rr_bnl_n, rr_bnl_s, rr_cond_t, rr_cond_f, rr_bcond_t, rr_bcond_f, rr_bon, rr_bcv, rr_cv, rr_g, rr_gr, rr_si, rr_sz, rr_sr, rr_al, rr_ld, rr_st, rr_rl, rr_rs, rr_ni, rr_nr, rr_z, rr_div, rr_rem, rr_lc, rr_mx, rr_mn, rr_ab, rr_no, gd_t, bc_t, bc_f, gd_tt, bc_tt, bc_ff, or_true, true_or, and_true, true_and, Nat.reduceAdd, f5'], acc, hn0.1, hn0.2, k3, ?_, ?_, k4⟩
      · rw [hy, List.drop_length] at ke; exact ke
      · rw [hy, hcs_all] at kl; exact kl
