def mE (h : AH) (m : Nat) (E : SE) : Prop := mS h m ∧ (∀ i k : Int, 0 ≤ i → i < E.1 → 0 ≤ k → k < E.1 → ah_I h (m + 25) (6 * i + k) = if i = k then E.2.1 i (-1) else E.2.1 i k) ∧ ∀ i : Nat, i < E.1 → ah_I h (m + 6) (i : Int) = E.2.2.1 i
theorem mE_fr {m al ah_ fl fh : Nat} {h h' : AH} {E : SE} (hE : mE h m E) (f : MF m al ah_ fl fh h h') (q : 26 ≤ al) : mE h' m E := by
  obtain ⟨h1, h2, h3⟩ := hE
  refine ⟨mS_fr h1 f, ?_, ?_⟩
  · rw [f.2.2.2.2.1 25 (by omega)]; exact h2
  · rw [f.2.2.2.2.1 6 (by omega)]; exact h3
theorem mE_w {h : AH} {m : Nat} {E : SE} (hE : mE h m E) {i : Int} (h0 : 0 ≤ i) (h1 : i < E.1) : ah_I h (m + 25) (7 * i) = E.2.1 i (-1) := by
  have := hE.2.1 i i h0 h1 h0 h1
  rw [if_pos rfl, show 6 * i + i = 7 * i by omega] at this; exact this
theorem mE_p {h : AH} {m : Nat} {E : SE} (hE : mE h m E) {i k : Int} (h0 : 0 ≤ i) (h1 : i < E.1) (h2 : 0 ≤ k) (h3 : k < E.1) (hne : k ≠ i) : ah_I h (m + 25) (6 * i + k) = E.2.1 i k := by
  have := hE.2.1 i k h0 h1 h2 h3
  rw [if_neg (fun z => hne z.symm)] at this; exact this
theorem fg_z (i f : Nat) : fg i f = if (f : Int) = 0 then -1 else if (f : Int) - 1 < (i : Int) then (f : Int) - 1 else (f : Int) := by
  by_cases z : f = 0
  · have a : fg i f = -1 := by unfold fg; rw [if_pos z]
    rw [a, if_pos (by omega)]
  · by_cases z2 : f - 1 < i
    · have a : fg i f = ((f - 1 : Nat) : Int) := by unfold fg; rw [if_neg z, if_pos z2]
      rw [a, if_neg (by omega), if_pos (by omega)]; omega
    · have a : fg i f = (f : Int) := by unfold fg; rw [if_neg z, if_neg z2]
      rw [a, if_neg (by omega), if_neg (by omega)]
theorem q7_layCode {h : AH} {m n c : Nat} (hS : mS h m) (hn : 1 ≤ n ∧ n ≤ 6) (hc : c < n ^ n) (hc2 : c < 100000) : ∃ h', X7_layCode m (c : Int) (n : Int) h = some ((), h') ∧ (∀ j : Int, 0 ≤ j → j < n → ah_I h' (m + 26) j = sv (dc n n 0 c) j) ∧ MF m 26 27 35 35 h h' := by
  have hL := lp_inv (F := X7_layCode_L7 m (n : Int)) (fun t h' => ∃ i : Nat, t = (((c / n ^ (n - i) : Nat) : Int), (i : Int) - 1) ∧ i ≤ n ∧ MF m 26 27 35 35 h h' ∧ ∀ k : Nat, i ≤ k → k < n → ah_I h' (m + 26) (k : Int) = fg k ((c / n ^ (n - 1 - k)) % n)) (fun t => (t.2 + 1).toNat) (fun _ h' => MF m 26 27 35 35 h h' ∧ ∀ k : Nat, k < n → ah_I h' (m + 26) (k : Int) = fg k ((c / n ^ (n - 1 - k)) % n)) ?_ mo_N ((c : Int), (n : Int) - 1) h ⟨n, by rw [Nat.sub_self, Nat.pow_zero, Nat.div_one], by omega, MF.rf, fun k k1 k2 => by omega⟩ (by rw [mo_N_v]; dsimp only; omega)
  · obtain ⟨_, h', e1, q1, q2⟩ := hL
    refine ⟨h', by simp (disch := omega) only [X7_layCode, rr_p, rr_bp, rr_bb, rr_0, rr_lt, rr_blt, rr_le, rr_ble, rr_eq, rr_beq, rr_nl_n, rr_nl_s, rr_bnl_n, rr_bnl_s, rr_cond_t, rr_cond_f, rr_bcond_t, rr_bcond_f, rr_bon, rr_bcv, rr_cv, rr_g, rr_gr, rr_si, rr_sz, rr_sr, rr_al, rr_ld, rr_st, rr_rl, rr_rs, rr_ni, rr_nr, rr_z, rr_div, rr_rem, rr_lc, rr_mx, rr_mn, rr_ab, rr_no, gd_t, bc_t, bc_f, gd_tt, bc_tt, bc_ff, or_true, true_or, and_true, true_and, Nat.reduceAdd, mo_b_s e1], fun j j0 j1 => ?_, q1⟩
    obtain ⟨k, rfl⟩ := Int.eq_ofNat_of_zero_le j0
    have e2 := q2 k (by omega)
    unfold sv
    rw [Int.toNat_natCast, dc_at hn.1 n 0 c k (by omega) hc, Nat.zero_add]; exact e2
  · rintro t h' ⟨i, rfl, hi, g1, hk⟩
    have hS' := mS_fr hS g1
    have mT := hS'.1
    obtain ⟨p26, t26, n26⟩ := ms26 hS'
    cases i with
    | zero =>
      right
      exact ⟨(), h', by simp (disch := omega) only [X7_layCode_L7, rr_p, rr_bp, rr_bb, rr_0, rr_lt, rr_blt, rr_le, rr_ble, rr_eq, rr_beq, rr_nl_n, rr_nl_s, rr_bnl_n, rr_bnl_s, rr_cond_t, rr_cond_f, rr_bcond_t, rr_bcond_f, rr_bon, rr_bcv, rr_cv, rr_g, rr_gr, rr_si, rr_sz, rr_sr, rr_al, rr_ld, rr_st, rr_rl, rr_rs, rr_ni, rr_nr, rr_z, rr_div, rr_rem, rr_lc, rr_mx, rr_mn, rr_ab, rr_no, gd_t, bc_t, bc_f, gd_tt, bc_tt, bc_ff, or_true, true_or, and_true, true_and, Nat.reduceAdd], g1, fun k hk2 => hk k (by omega) hk2⟩
    | succ i =>
      left
      have ei : ((i + 1 : Nat) : Int) - 1 = (i : Int) := by omega
      have hle : c / n ^ (n - (i + 1)) ≤ c := Nat.div_le_self _ _
      have e1 : ((c / n ^ (n - (i + 1)) : Nat) : Int) % (n : Int) = (((c / n ^ (n - (i + 1))) % n : Nat) : Int) := (Int.natCast_emod _ _).symm
      have e2 : ((c / n ^ (n - (i + 1)) : Nat) : Int) / (n : Int) = ((c / n ^ (n - i) : Nat) : Int) := by
        rw [← Int.natCast_ediv, Nat.div_div_eq_div_mul, ← Nat.pow_succ, show (n - (i + 1)).succ = n - i by omega]
      have hlt : (c / n ^ (n - (i + 1))) % n < n := Nat.mod_lt _ (by omega)
      have hfg : fg i ((c / n ^ (n - (i + 1))) % n) = if (((c / n ^ (n - (i + 1))) % n : Nat) : Int) = 0 then -1 else if (((c / n ^ (n - (i + 1))) % n : Nat) : Int) - 1 < (i : Int) then (((c / n ^ (n - (i + 1))) % n : Nat) : Int) - 1 else (((c / n ^ (n - (i + 1))) % n : Nat) : Int) := by
        exact fg_z _ _
      refine ⟨(((c / n ^ (n - i) : Nat) : Int), (i : Int) - 1), ah_sI h' (m + 26) (i : Int) (fg i ((c / n ^ (n - (i + 1))) % n)), ?_, ⟨i, rfl, by omega, g1.tr (MF.sI (al := 26) (ah_ := 27) (fl := 35) (fh := 35) (by omega) (by omega)) (by omega), fun k k1 k2 => ?_⟩, by dsimp only; omega⟩
      · rw [ei, hfg]
        have gr : 0 ≤ ((c / n ^ (n - (i + 1)) : Nat) : Int) ∧ ((c / n ^ (n - (i + 1)) : Nat) : Int) ≤ 100000 := ⟨Int.natCast_nonneg _, by have : ((c / n ^ (n - (i + 1)) : Nat) : Int) ≤ (c : Int) := Int.ofNat_le.mpr hle; omega⟩
        generalize hfe : (((c / n ^ (n - (i + 1))) % n : Nat) : Int) = f at *
        generalize hle2 : ((c / n ^ (n - (i + 1)) : Nat) : Int) = g at *
        by_cases z : f = 0
        · rw [if_pos z]
          simp (disch := omega) only [X7_layCode_L7, rr_p, rr_bp, rr_bb, rr_0, rr_lt, rr_blt, rr_le, rr_ble, rr_eq, rr_beq, rr_nl_n, rr_nl_s, rr_bnl_n, rr_bnl_s, rr_cond_t, rr_cond_f, rr_bcond_t, rr_bcond_f, rr_bon, rr_bcv, rr_cv, rr_g, rr_gr, rr_si, rr_sz, rr_sr, rr_al, rr_ld, rr_st, rr_rl, rr_rs, rr_ni, rr_nr, rr_z, rr_div, rr_rem, rr_lc, rr_mx, rr_mn, rr_ab, rr_no, gd_t, bc_t, bc_f, gd_tt, bc_tt, bc_ff, or_true, true_or, and_true, true_and, Nat.reduceAdd, p26, e1, e2]
          rw [show (i : Int) + -1 = (i : Int) - 1 by omega]
        · rw [if_neg z]
          by_cases z2 : f - 1 < (i : Int)
          · rw [if_pos z2]
            simp (disch := omega) only [X7_layCode_L7, rr_p, rr_bp, rr_bb, rr_0, rr_lt, rr_blt, rr_le, rr_ble, rr_eq, rr_beq, rr_nl_n, rr_nl_s, rr_bnl_n, rr_bnl_s, rr_cond_t, rr_cond_f, rr_bcond_t, rr_bcond_f, rr_bon, rr_bcv, rr_cv, rr_g, rr_gr, rr_si, rr_sz, rr_sr, rr_al, rr_ld, rr_st, rr_rl, rr_rs, rr_ni, rr_nr, rr_z, rr_div, rr_rem, rr_lc, rr_mx, rr_mn, rr_ab, rr_no, gd_t, bc_t, bc_f, gd_tt, bc_tt, bc_ff, or_true, true_or, and_true, true_and, Nat.reduceAdd, p26, e1, e2]
            rw [show (i : Int) + -1 = (i : Int) - 1 by omega]
          · rw [if_neg z2]
            simp (disch := omega) only [X7_layCode_L7, rr_p, rr_bp, rr_bb, rr_0, rr_lt, rr_blt, rr_le, rr_ble, rr_eq, rr_beq, rr_nl_n, rr_nl_s, rr_bnl_n, rr_bnl_s, rr_cond_t, rr_cond_f, rr_bcond_t, rr_bcond_f, rr_bon, rr_bcv, rr_cv, rr_g, rr_gr, rr_si, rr_sz, rr_sr, rr_al, rr_ld, rr_st, rr_rl, rr_rs, rr_ni, rr_nr, rr_z, rr_div, rr_rem, rr_lc, rr_mx, rr_mn, rr_ab, rr_no, gd_t, bc_t, bc_f, gd_tt, bc_tt, bc_ff, or_true, true_or, and_true, true_and, Nat.reduceAdd, p26, e1, e2]
            rw [show (i : Int) + -1 = (i : Int) - 1 by omega]
      · by_cases z : k = i
        · subst z
          rw [hl_I_sI_s, show n - 1 - k = n - (k + 1) by omega]
        · rw [hl_I_sI_n (Or.inr (by omega))]; exact hk k (by omega) k2
theorem dc_sR {n c : Nat} (hn : 1 ≤ n) (hc : c < n ^ n) : sR n (dc n n 0 c) := by
  refine ⟨dc_len _ _ _, fun j j0 j1 => ?_⟩
  obtain ⟨k, rfl⟩ := Int.eq_ofNat_of_zero_le j0
  unfold sv
  rw [Int.toNat_natCast, dc_at hn n 0 c k (by omega) hc, Nat.zero_add]
  exact fg_r (by omega) (Nat.mod_lt _ (by omega))
theorem q7_layRemade {h : AH} {m : Nat} {E : SE} {s : List Int} (hE : mE h m E) (ok : okE E) (hs : sR E.1 s) (ha : ∀ j : Int, 0 ≤ j → j < E.1 → ah_I h (m + 26) j = sv s j) : ∃ h', X7_layRemade m (E.1 : Int) h = some (br (acy E s) 1 0, h') ∧ MF m 27 28 35 35 h h' ∧ (acy E s → ∀ j : Int, 0 ≤ j → j < E.1 → ah_I h' (m + 27) j = rmd E s E.1 j) := by
  have hn := ok.1
  have hL := lp_inv (F := X7_layRemade_L2 m (E.1 : Int)) (fun t h' => ∃ i : Nat, t = (i : Int) ∧ i ≤ E.1 ∧ MF m 27 28 35 35 h h' ∧ ∀ j : Int, 0 ≤ j → j < i → itc s (E.1 : Int) E.1 j = -1 ∧ ah_I h' (m + 27) j = rmd E s E.1 j) (fun t => ((E.1 : Int) - t).toNat) (fun r h' => r = br (acy E s) 1 0 ∧ MF m 27 28 35 35 h h' ∧ (acy E s → ∀ j : Int, 0 ≤ j → j < E.1 → ah_I h' (m + 27) j = rmd E s E.1 j)) ?_ mo_N 0 h ⟨0, rfl, by omega, MF.rf, fun j j0 j1 => by omega⟩ (by rw [mo_N_v]; omega)
  · obtain ⟨r, h', e1, rfl, q⟩ := hL
    exact ⟨h', e1, q⟩
  · rintro t h' ⟨i, rfl, hi, g1, hj⟩
    have hE' := mE_fr hE g1 (by omega)
    have mT := hE'.1.1
    obtain ⟨p25, t25, n25⟩ := ms25 hE'.1
    obtain ⟨p26, t26, n26⟩ := ms26 hE'.1
    obtain ⟨p27, t27, n27⟩ := ms27 hE'.1
    have ha' : ∀ j : Int, 0 ≤ j → j < E.1 → ah_I h' (m + 26) j = sv s j := by rw [g1.2.2.2.2.1 26 (by omega)]; exact ha
    by_cases ci : i < E.1
    · have hL2 := lp_inv (F := X7_layRemade_L15 m (E.1 : Int)) (fun t h'' => h'' = h' ∧ ∃ k : Nat, t.2.2 = (k : Int) ∧ t.2.1 = itc s (E.1 : Int) k (i : Int) ∧ k ≤ E.1 + 1 ∧ (0 ≤ itc s (E.1 : Int) k (i : Int) ∧ itc s (E.1 : Int) k (i : Int) < E.1) ∧ (0 ≤ t.1 ∧ t.1 ≤ 99 * k) ∧ ∀ r : Nat, t.1 + rmd E s r (itc s (E.1 : Int) k (i : Int)) = rmd E s (k + r) (i : Int)) (fun t => ((E.1 : Int) + 2 - t.2.2).toNat) (fun r h'' => h'' = h' ∧ ((r.2.2 ≤ E.1 ∧ itc s (E.1 : Int) E.1 (i : Int) = -1 ∧ (0 ≤ r.2.2) ∧ (0 ≤ r.2.1 ∧ r.2.1 < E.1) ∧ r.1 + E.2.1 r.2.1 (-1) = rmd E s E.1 (i : Int)) ∨ (r.2.2 = (E.1 : Int) + 1 ∧ itc s (E.1 : Int) E.1 (i : Int) ≠ -1))) ?_ mo_N (0, (i : Int), 0) h' ⟨rfl, 0, rfl, rfl, by omega, by show 0 ≤ (i : Int) ∧ (i : Int) < E.1; omega, by dsimp only; omega, fun r => by show 0 + rmd E s r (i : Int) = rmd E s (0 + r) (i : Int); rw [Nat.zero_add, Int.zero_add]⟩ (by rw [mo_N_v]; dsimp only; omega)
      · obtain ⟨⟨r1, r2, r3⟩, h'', e2, rfl, hr⟩ := hL2
        dsimp only at hr
        rcases hr with ⟨a1, a2, a3, a4, a5⟩ | ⟨a1, a2⟩
        · left
          have w := mE_w hE' a4.1 a4.2
          refine ⟨(i : Int) + 1, ah_sI h'' (m + 27) (i : Int) (rmd E s E.1 (i : Int)), ?_, ⟨i + 1, by simp, by omega, g1.tr (MF.sI (al := 27) (ah_ := 28) (fl := 35) (fh := 35) (by omega) (by omega)) (by omega), fun j j0 j1 => ?_⟩, by omega⟩
          · rw [← a5]
            simp (disch := omega) only [X7_layRemade_L2, rr_p, rr_bp, rr_bb, rr_0, rr_lt, rr_blt, rr_le, rr_ble, rr_eq, rr_beq, rr_nl_n, rr_nl_s, rr_bnl_n, rr_bnl_s, rr_cond_t, rr_cond_f, rr_bcond_t, rr_bcond_f, rr_bon, rr_bcv, rr_cv, rr_g, rr_gr, rr_si, rr_sz, rr_sr, rr_al, rr_ld, rr_st, rr_rl, rr_rs, rr_ni, rr_nr, rr_z, rr_div, rr_rem, rr_lc, rr_mx, rr_mn, rr_ab, rr_no, gd_t, bc_t, bc_f, gd_tt, bc_tt, bc_ff, or_true, true_or, and_true, true_and, Nat.reduceAdd, mo_b_s e2, p25, p27, w]
          · by_cases z : j = (i : Int)
            · rw [z]; exact ⟨a2, by rw [hl_I_sI_s]⟩
            · rw [hl_I_sI_n (Or.inr z)]; exact hj j j0 (by omega)
        · right
          refine ⟨0, h'', by simp (disch := omega) only [X7_layRemade_L2, rr_p, rr_bp, rr_bb, rr_0, rr_lt, rr_blt, rr_le, rr_ble, rr_eq, rr_beq, rr_nl_n, rr_nl_s, rr_bnl_n, rr_bnl_s, rr_cond_t, rr_cond_f, rr_bcond_t, rr_bcond_f, rr_bon, rr_bcv, rr_cv, rr_g, rr_gr, rr_si, rr_sz, rr_sr, rr_al, rr_ld, rr_st, rr_rl, rr_rs, rr_ni, rr_nr, rr_z, rr_div, rr_rem, rr_lc, rr_mx, rr_mn, rr_ab, rr_no, gd_t, bc_t, bc_f, gd_tt, bc_tt, bc_ff, or_true, true_or, and_true, true_and, Nat.reduceAdd, mo_b_s e2], ?_, g1, fun z => absurd (z (i : Int) (by omega) (by omega)) a2⟩
          rw [bc_f (fun z => a2 (z (i : Int) (by omega) (by omega)))]
      · rintro ⟨y2, y3, y4⟩ h'' ⟨rfl, k, hk1, hv, kb, hin, hy, hsum⟩
        dsimp only at hk1 hv hy hsum ⊢
        subst hk1 hv
        have e3 := ha' _ hin.1 hin.2
        have hr := hs.2 _ hin.1 hin.2
        have e4 : itc s (E.1 : Int) (k + 1) (i : Int) = sv s (itc s (E.1 : Int) k (i : Int)) := by rw [itc_add, itc_i hin]; rfl
        by_cases cs : sv s (itc s (E.1 : Int) k (i : Int)) = -1
        · right
          refine ⟨(y2, itc s (E.1 : Int) k (i : Int), (k : Int)), h'', by simp (disch := omega) only [X7_layRemade_L15, rr_p, rr_bp, rr_bb, rr_0, rr_lt, rr_blt, rr_le, rr_ble, rr_eq, rr_beq, rr_nl_n, rr_nl_s, rr_bnl_n, rr_bnl_s, rr_cond_t, rr_cond_f, rr_bcond_t, rr_bcond_f, rr_bon, rr_bcv, rr_cv, rr_g, rr_gr, rr_si, rr_sz, rr_sr, rr_al, rr_ld, rr_st, rr_rl, rr_rs, rr_ni, rr_nr, rr_z, rr_div, rr_rem, rr_lc, rr_mx, rr_mn, rr_ab, rr_no, gd_t, bc_t, bc_f, gd_tt, bc_tt, bc_ff, or_true, true_or, and_true, true_and, Nat.reduceAdd, p26, e3], rfl, Or.inl ?_⟩
          have out : ¬ (0 ≤ itc s (E.1 : Int) (k + 1) (i : Int) ∧ itc s (E.1 : Int) (k + 1) (i : Int) < E.1) := by rw [e4, cs]; omega
          have hk2 : k < E.1 := by
            by_cases z : k < E.1
            · exact z
            · have h5 := itc_end out
              rw [itc_stay h5 (show E.1 ≤ k by omega)] at hin
              exact absurd hin h5
          have e5 : itc s (E.1 : Int) E.1 (i : Int) = -1 := by rw [itc_stay out (show k + 1 ≤ E.1 by omega), e4, cs]
          have e6 := hsum 1
          rw [rmd_i hin, cs] at e6
          have e7 : rmd E s 0 (-1) = 0 := rfl
          have e8 : ∀ d : Nat, rmd E s (k + 1 + d) (i : Int) = rmd E s (k + 1) (i : Int) := by
            intro d
            induction d with
            | zero => rfl
            | succ d ih =>
              rw [← ih]
              exact rmd_st (E := E) (s := s) (k + 1 + d) (i : Int) (by rw [itc_stay out (show k + 1 ≤ k + 1 + d by omega)]; exact out)
          have e9 := e8 (E.1 - (k + 1))
          rw [show k + 1 + (E.1 - (k + 1)) = E.1 by omega] at e9
          exact ⟨by dsimp only; omega, e5, by dsimp only; omega, hin, by dsimp only; omega⟩
        · by_cases ck : k ≤ E.1
          · left
            have w := mE_p hE' hin.1 hin.2 (k := sv s (itc s (E.1 : Int) k (i : Int))) (by omega) hr.2.1 hr.2.2
            have pr := ok.2.2.1 (itc s (E.1 : Int) k (i : Int)) (sv s (itc s (E.1 : Int) k (i : Int))) hin.1 hin.2 hr.1 hr.2.1
            refine ⟨(y2 + E.2.1 (itc s (E.1 : Int) k (i : Int)) (sv s (itc s (E.1 : Int) k (i : Int))), sv s (itc s (E.1 : Int) k (i : Int)), (k : Int) + 1), h'', by simp (disch := omega) only [X7_layRemade_L15, rr_p, rr_bp, rr_bb, rr_0, rr_lt, rr_blt, rr_le, rr_ble, rr_eq, rr_beq, rr_nl_n, rr_nl_s, rr_bnl_n, rr_bnl_s, rr_cond_t, rr_cond_f, rr_bcond_t, rr_bcond_f, rr_bon, rr_bcv, rr_cv, rr_g, rr_gr, rr_si, rr_sz, rr_sr, rr_al, rr_ld, rr_st, rr_rl, rr_rs, rr_ni, rr_nr, rr_z, rr_div, rr_rem, rr_lc, rr_mx, rr_mn, rr_ab, rr_no, gd_t, bc_t, bc_f, gd_tt, bc_tt, bc_ff, or_true, true_or, and_true, true_and, Nat.reduceAdd, p25, p26, e3, w], ⟨rfl, k + 1, by simp, by dsimp only; rw [e4], by omega, by rw [e4]; omega, by dsimp only; omega, fun r => ?_⟩, by dsimp only; omega⟩
            have h6 := hsum (r + 1)
            rw [rmd_i hin] at h6
            rw [e4, show k + 1 + r = k + (r + 1) by omega]
            dsimp only; omega
          · right
            refine ⟨(y2, itc s (E.1 : Int) k (i : Int), (k : Int)), h'', by simp (disch := omega) only [X7_layRemade_L15, rr_p, rr_bp, rr_bb, rr_0, rr_lt, rr_blt, rr_le, rr_ble, rr_eq, rr_beq, rr_nl_n, rr_nl_s, rr_bnl_n, rr_bnl_s, rr_cond_t, rr_cond_f, rr_bcond_t, rr_bcond_f, rr_bon, rr_bcv, rr_cv, rr_g, rr_gr, rr_si, rr_sz, rr_sr, rr_al, rr_ld, rr_st, rr_rl, rr_rs, rr_ni, rr_nr, rr_z, rr_div, rr_rem, rr_lc, rr_mx, rr_mn, rr_ab, rr_no, gd_t, bc_t, bc_f, gd_tt, bc_tt, bc_ff, or_true, true_or, and_true, true_and, Nat.reduceAdd, p26, e3], rfl, Or.inr ⟨by dsimp only; omega, fun z => ?_⟩⟩
            have h5 : ¬ (0 ≤ itc s (E.1 : Int) E.1 (i : Int) ∧ itc s (E.1 : Int) E.1 (i : Int) < E.1) := by rw [z]; omega
            rw [itc_stay h5 (show E.1 ≤ k by omega)] at hin
            exact absurd hin h5
    · right
      have hacy : acy E s := fun j j0 j1 => (hj j j0 (by omega)).1
      refine ⟨1, h', by simp (disch := omega) only [X7_layRemade_L2, rr_p, rr_bp, rr_bb, rr_0, rr_lt, rr_blt, rr_le, rr_ble, rr_eq, rr_beq, rr_nl_n, rr_nl_s, rr_bnl_n, rr_bnl_s, rr_cond_t, rr_cond_f, rr_bcond_t, rr_bcond_f, rr_bon, rr_bcv, rr_cv, rr_g, rr_gr, rr_si, rr_sz, rr_sr, rr_al, rr_ld, rr_st, rr_rl, rr_rs, rr_ni, rr_nr, rr_z, rr_div, rr_rem, rr_lc, rr_mx, rr_mn, rr_ab, rr_no, gd_t, bc_t, bc_f, gd_tt, bc_tt, bc_ff, or_true, true_or, and_true, true_and, Nat.reduceAdd], ?_, g1, fun _ j j0 j1 => (hj j j0 (by omega)).2⟩
      rw [bc_t hacy]
def mBst (h : AH) (m : Nat) (E : SE) (b : BS) : Prop := match b with
  | none => ah_F h m 41 = 0
  | some (r, z, s) => ah_F h m 41 = 1 ∧ ah_F h m 39 = r ∧ ah_F h m 40 = z ∧ ((0 ≤ r ∧ r ≤ 1000000) ∧ (0 ≤ z ∧ z ≤ 1000000)) ∧ ∀ j : Int, 0 ≤ j → j < E.1 → ah_I h (m + 28) j = sv s j ∧ ah_I h (m + 29) j = rmd E s E.1 j
theorem mBst_fr {m al ah_ fl fh : Nat} {h h' : AH} {E : SE} {b : BS} (hb : mBst h m E b) (f : MF m al ah_ fl fh h h') (q : ah_ ≤ 28 ∧ fh ≤ 39) : mBst h' m E b := by
  unfold mBst at hb ⊢
  rw [f.2.2.2.2.2 41 (by omega), f.2.2.2.2.2 39 (by omega), f.2.2.2.2.2 40 (by omega), f.2.2.2.2.1 28 (by omega), f.2.2.2.2.1 29 (by omega)]; exact hb
theorem look_1 (m : Nat) (n : Int) : X7_look_L151_1 m n = X7_look_L151 m n := rfl
theorem q7_take {h : AH} {m : Nat} {E : SE} {s : List Int} (hS : mS h m) (hn : E.1 ≤ 6) (ha : ∀ j : Int, 0 ≤ j → j < E.1 → ah_I h (m + 26) j = sv s j) (hr : ∀ j : Int, 0 ≤ j → j < E.1 → ah_I h (m + 27) j = rmd E s E.1 j) : ∃ h', mo_lp mo_N (X7_look_L151 m (E.1 : Int)) 0 h = some ((), h') ∧ MF m 28 30 42 42 h h' ∧ ∀ j : Int, 0 ≤ j → j < E.1 → ah_I h' (m + 28) j = sv s j ∧ ah_I h' (m + 29) j = rmd E s E.1 j := by
  have hL := lp_inv (F := X7_look_L151 m (E.1 : Int)) (fun t h' => ∃ i : Nat, t = (i : Int) ∧ i ≤ E.1 ∧ MF m 28 30 42 42 h h' ∧ ∀ j : Int, 0 ≤ j → j < i → ah_I h' (m + 28) j = sv s j ∧ ah_I h' (m + 29) j = rmd E s E.1 j) (fun t => ((E.1 : Int) - t).toNat) (fun _ h' => MF m 28 30 42 42 h h' ∧ ∀ j : Int, 0 ≤ j → j < E.1 → ah_I h' (m + 28) j = sv s j ∧ ah_I h' (m + 29) j = rmd E s E.1 j) ?_ mo_N 0 h ⟨0, rfl, by omega, MF.rf, fun j j0 j1 => by omega⟩ (by rw [mo_N_v]; omega)
  · obtain ⟨_, h', e1, q⟩ := hL; exact ⟨h', e1, q⟩
  · rintro t h' ⟨i, rfl, hi, g1, hj⟩
    have hS' := mS_fr hS g1
    have mT := hS'.1
    obtain ⟨p26, t26, n26⟩ := ms26 hS'
    obtain ⟨p27, t27, n27⟩ := ms27 hS'
    obtain ⟨p28, t28, n28⟩ := ms28 hS'
    obtain ⟨p29, t29, n29⟩ := ms29 hS'
    by_cases ci : i < E.1
    · left
      have w1 : ah_I h' (m + 26) (i : Int) = sv s (i : Int) := by rw [g1.2.2.2.2.1 26 (by omega)]; exact ha _ (by omega) (by omega)
      have w2 : ah_I h' (m + 27) (i : Int) = rmd E s E.1 (i : Int) := by rw [g1.2.2.2.2.1 27 (by omega)]; exact hr _ (by omega) (by omega)
      refine ⟨(i : Int) + 1, ah_sI (ah_sI h' (m + 28) (i : Int) (sv s (i : Int))) (m + 29) (i : Int) (rmd E s E.1 (i : Int)), by simp (disch := omega) only [X7_look_L151, rr_p, rr_bp, rr_bb, rr_0, rr_lt, rr_blt, rr_le, rr_ble, rr_eq, rr_beq, rr_nl_n, rr_nl_s, rr_bnl_n, rr_bnl_s, rr_cond_t, rr_cond_f, rr_bcond_t, rr_bcond_f, rr_bon, rr_bcv, rr_cv, rr_g, rr_gr, rr_si, rr_sz, rr_sr, rr_al, rr_ld, rr_st, rr_rl, rr_rs, rr_ni, rr_nr, rr_z, rr_div, rr_rem, rr_lc, rr_mx, rr_mn, rr_ab, rr_no, gd_t, bc_t, bc_f, gd_tt, bc_tt, bc_ff, or_true, true_or, and_true, true_and, Nat.reduceAdd, hl_T_sF, hl_N_sF, hl_P_sF, hl_I_sF, hl_R_sF, hl_S_sF, hl_T_sP, hl_N_sP, hl_F_sP, hl_I_sP, hl_R_sP, hl_S_sP, hl_T_sI, hl_N_sI, hl_F_sI, hl_P_sI, hl_R_sI, hl_S_sI, hl_T_sR, hl_N_sR, hl_F_sR, hl_P_sR, hl_I_sR, hl_S_sR, hl_T_wI, hl_N_wI, hl_F_wI, hl_P_wI, hl_R_wI, hl_S_wI, hl_F_sF_s, hl_F_sF_n, hl_P_sP_s, hl_P_sP_n, hl_I_sI_s, hl_I_sI_n, hl_R_sR_s, hl_R_sR_n, hl_I_wI_s, hl_I_wI_n, p26, p27, p28, p29, w1, w2], ⟨i + 1, by simp, by omega, (g1.tr (MF.sI (al := 28) (ah_ := 30) (fl := 42) (fh := 42) (by omega) (by omega)) (a3 := 28) (b3 := 30) (c3 := 42) (d3 := 42) (by omega)).tr (MF.sI (al := 28) (ah_ := 30) (fl := 42) (fh := 42) (by omega) (by omega)) (by omega), fun j j0 j1 => ?_⟩, by omega⟩
      by_cases z : j = (i : Int)
      · subst z
        simp (disch := omega) only [hl_T_sF, hl_N_sF, hl_P_sF, hl_I_sF, hl_R_sF, hl_S_sF, hl_T_sP, hl_N_sP, hl_F_sP, hl_I_sP, hl_R_sP, hl_S_sP, hl_T_sI, hl_N_sI, hl_F_sI, hl_P_sI, hl_R_sI, hl_S_sI, hl_T_sR, hl_N_sR, hl_F_sR, hl_P_sR, hl_I_sR, hl_S_sR, hl_T_wI, hl_N_wI, hl_F_wI, hl_P_wI, hl_R_wI, hl_S_wI, hl_F_sF_s, hl_F_sF_n, hl_P_sP_s, hl_P_sP_n, hl_I_sI_s, hl_I_sI_n, hl_R_sR_s, hl_R_sR_n, hl_I_wI_s, hl_I_wI_n, and_self]
      · simp (disch := omega) only [hl_T_sF, hl_N_sF, hl_P_sF, hl_I_sF, hl_R_sF, hl_S_sF, hl_T_sP, hl_N_sP, hl_F_sP, hl_I_sP, hl_R_sP, hl_S_sP, hl_T_sI, hl_N_sI, hl_F_sI, hl_P_sI, hl_R_sI, hl_S_sI, hl_T_sR, hl_N_sR, hl_F_sR, hl_P_sR, hl_I_sR, hl_S_sR, hl_T_wI, hl_N_wI, hl_F_wI, hl_P_wI, hl_R_wI, hl_S_wI, hl_F_sF_s, hl_F_sF_n, hl_P_sP_s, hl_P_sP_n, hl_I_sI_s, hl_I_sI_n, hl_R_sR_s, hl_R_sR_n, hl_I_wI_s, hl_I_wI_n]
        exact hj j j0 (by omega)
    · right
      exact ⟨(), h', by simp (disch := omega) only [X7_look_L151, rr_p, rr_bp, rr_bb, rr_0, rr_lt, rr_blt, rr_le, rr_ble, rr_eq, rr_beq, rr_nl_n, rr_nl_s, rr_bnl_n, rr_bnl_s, rr_cond_t, rr_cond_f, rr_bcond_t, rr_bcond_f, rr_bon, rr_bcv, rr_cv, rr_g, rr_gr, rr_si, rr_sz, rr_sr, rr_al, rr_ld, rr_st, rr_rl, rr_rs, rr_ni, rr_nr, rr_z, rr_div, rr_rem, rr_lc, rr_mx, rr_mn, rr_ab, rr_no, gd_t, bc_t, bc_f, gd_tt, bc_tt, bc_ff, or_true, true_or, and_true, true_and, Nat.reduceAdd], g1, fun j j0 j1 => hj j j0 (by omega)⟩
theorem q7_look {h : AH} {m : Nat} {E : SE} {s : List Int} {b : BS} (hE : mE h m E) (ok : okE E) (hs : sR E.1 s) (hacy : acy E s) (ha : ∀ j : Int, 0 ≤ j → j < E.1 → ah_I h (m + 26) j = sv s j) (hr : ∀ j : Int, 0 ≤ j → j < E.1 → ah_I h (m + 27) j = rmd E s E.1 j) (hb : mBst h m E b) : ∃ h', X7_look m (E.1 : Int) E.2.2.2 h = some ((), h') ∧ mBst h' m E (updB E b s) ∧ MF m 28 30 39 42 h h' := by
  have hn := ok.1
  have hbd := ok.2.1
  have mT := hE.1.1
  obtain ⟨p6, t6, n6⟩ := ms6 hE.1
  obtain ⟨p25, t25, n25⟩ := ms25 hE.1
  obtain ⟨p26, t26, n26⟩ := ms26 hE.1
  obtain ⟨p27, t27, n27⟩ := ms27 hE.1
  have rR := rmS_r (s := s) ok (fun j j0 j1 => by have := hs.2 j j0 (by have := hs.1; omega); omega) (by have := hs.1; omega) E.1 (by have := hs.1; omega)
  have rM := smS_r ok hs E.1 (Nat.le_refl _)
  -- the store is taken
  have tk : lsB (rmS E s E.1) (smS E s E.1) b → fs E s → ∃ h', mo_lp mo_N (X7_look_L151 m (E.1 : Int)) 0 (ah_sF (ah_sF (ah_sF h m 41 1) m 39 (rmS E s E.1)) m 40 (smS E s E.1)) = some ((), h') ∧ mBst h' m E (updB E b s) ∧ MF m 28 30 39 42 h h' := by
    intro cl hfs
    have F : MF m 28 30 39 42 h (ah_sF (ah_sF (ah_sF h m 41 1) m 39 (rmS E s E.1)) m 40 (smS E s E.1)) := ((MF.sF (al := 28) (ah_ := 30) (fl := 39) (fh := 42) (by omega) (by omega)).tr (MF.sF (al := 28) (ah_ := 30) (fl := 39) (fh := 42) (by omega) (by omega)) (a3 := 28) (b3 := 30) (c3 := 39) (d3 := 42) (by omega)).tr (MF.sF (al := 28) (ah_ := 30) (fl := 39) (fh := 42) (by omega) (by omega)) (by omega)
    obtain ⟨h', e1, g1, q1⟩ := q7_take (mS_fr hE.1 F) hn.2 (s := s) ha hr
    refine ⟨h', e1, ?_, F.tr g1 (by omega)⟩
    unfold updB
    rw [bc_t ⟨hfs, cl⟩]
    refine ⟨?_, ?_, ?_, ⟨by omega, by omega⟩, q1⟩
    · rw [g1.2.2.2.2.2 41 (by omega)]; simp (disch := omega) only [hl_T_sF, hl_N_sF, hl_P_sF, hl_I_sF, hl_R_sF, hl_S_sF, hl_T_sP, hl_N_sP, hl_F_sP, hl_I_sP, hl_R_sP, hl_S_sP, hl_T_sI, hl_N_sI, hl_F_sI, hl_P_sI, hl_R_sI, hl_S_sI, hl_T_sR, hl_N_sR, hl_F_sR, hl_P_sR, hl_I_sR, hl_S_sR, hl_T_wI, hl_N_wI, hl_F_wI, hl_P_wI, hl_R_wI, hl_S_wI, hl_F_sF_s, hl_F_sF_n, hl_P_sP_s, hl_P_sP_n, hl_I_sI_s, hl_I_sI_n, hl_R_sR_s, hl_R_sR_n, hl_I_wI_s, hl_I_wI_n]
    · rw [g1.2.2.2.2.2 39 (by omega)]; simp (disch := omega) only [hl_T_sF, hl_N_sF, hl_P_sF, hl_I_sF, hl_R_sF, hl_S_sF, hl_T_sP, hl_N_sP, hl_F_sP, hl_I_sP, hl_R_sP, hl_S_sP, hl_T_sI, hl_N_sI, hl_F_sI, hl_P_sI, hl_R_sI, hl_S_sI, hl_T_sR, hl_N_sR, hl_F_sR, hl_P_sR, hl_I_sR, hl_S_sR, hl_T_wI, hl_N_wI, hl_F_wI, hl_P_wI, hl_R_wI, hl_S_wI, hl_F_sF_s, hl_F_sF_n, hl_P_sP_s, hl_P_sP_n, hl_I_sI_s, hl_I_sI_n, hl_R_sR_s, hl_R_sR_n, hl_I_wI_s, hl_I_wI_n]
    · rw [g1.2.2.2.2.2 40 (by omega)]; simp (disch := omega) only [hl_T_sF, hl_N_sF, hl_P_sF, hl_I_sF, hl_R_sF, hl_S_sF, hl_T_sP, hl_N_sP, hl_F_sP, hl_I_sP, hl_R_sP, hl_S_sP, hl_T_sI, hl_N_sI, hl_F_sI, hl_P_sI, hl_R_sI, hl_S_sI, hl_T_sR, hl_N_sR, hl_F_sR, hl_P_sR, hl_I_sR, hl_S_sR, hl_T_wI, hl_N_wI, hl_F_wI, hl_P_wI, hl_R_wI, hl_S_wI, hl_F_sF_s, hl_F_sF_n, hl_P_sP_s, hl_P_sP_n, hl_I_sI_s, hl_I_sI_n, hl_R_sR_s, hl_R_sR_n, hl_I_wI_s, hl_I_wI_n]
  have hL := lp_inv (F := X7_look_L8 m (E.1 : Int) E.2.2.2) (fun t h' => h' = h ∧ ∃ k : Nat, t = (rmS E s k, smS E s k, (k : Int)) ∧ k ≤ E.1 ∧ ∀ j : Int, 0 ≤ j → j < k → rmd E s E.1 j ≤ E.2.2.2) (fun t => ((E.1 : Int) - t.2.2).toNat) (fun _ h' => mBst h' m E (updB E b s) ∧ MF m 28 30 39 42 h h') ?_ mo_N (0, 0, 0) h ⟨rfl, 0, rfl, by omega, fun j j0 j1 => by omega⟩ (by rw [mo_N_v]; dsimp only; omega)
  · obtain ⟨_, h', e1, q⟩ := hL; exact ⟨h', e1, q⟩
  · rintro t h' ⟨rfl, k, rfl, kb, hk1⟩
    by_cases ck : k < E.1
    · have w1 := hr (k : Int) (by omega) (by omega)
      have w2 := ha (k : Int) (by omega) (by omega)
      have w3 := hE.2.2 k ck
      have r1 := rmd_r ok hs E.1 (k : Int) (by omega) (by omega)
      have hsv := hs.2 (k : Int) (by omega) (by omega)
      have ak := ok.2.2.2 k ck
      by_cases cb : rmd E s E.1 (k : Int) ≤ E.2.2.2
      · left
        refine ⟨(rmS E s (k + 1), smS E s (k + 1), ((k + 1 : Nat) : Int)), h', ?_, ⟨rfl, k + 1, rfl, by omega, fun j j0 j1 => ?_⟩, by dsimp only; omega⟩
        · show X7_look_L8 m (E.1 : Int) E.2.2.2 (rmS E s k, smS E s k, (k : Int)) h' = some (.inl (rmS E s k + E.2.1 (k : Int) (sv s (k : Int)), smS E s k + E.2.2.1 k * rmd E s E.1 (k : Int), ((k + 1 : Nat) : Int)), h')
          by_cases cs : sv s (k : Int) = -1
          · have w4 := mE_w hE (i := (k : Int)) (by omega) (by omega)
            rw [cs] at w2 ⊢
            simp (disch := omega) only [X7_look_L8, rr_p, rr_bp, rr_bb, rr_0, rr_lt, rr_blt, rr_le, rr_ble, rr_eq, rr_beq, rr_nl_n, rr_nl_s, rr_bnl_n, rr_bnl_s, rr_cond_t, rr_cond_f, rr_bcond_t, rr_bcond_f, rr_bon, rr_bcv, rr_cv, rr_g, rr_gr, rr_si, rr_sz, rr_sr, rr_al, rr_ld, rr_st, rr_rl, rr_rs, rr_ni, rr_nr, rr_z, rr_div, rr_rem, rr_lc, rr_mx, rr_mn, rr_ab, rr_no, gd_t, bc_t, bc_f, gd_tt, bc_tt, bc_ff, or_true, true_or, and_true, true_and, Nat.reduceAdd, p6, p25, p26, p27, w1, w2, w3, w4, Int.natCast_add, Int.natCast_one]
          · have w4 := mE_p hE (i := (k : Int)) (k := sv s (k : Int)) (by omega) (by omega) (by omega) hsv.2.1 hsv.2.2
            simp (disch := omega) only [X7_look_L8, rr_p, rr_bp, rr_bb, rr_0, rr_lt, rr_blt, rr_le, rr_ble, rr_eq, rr_beq, rr_nl_n, rr_nl_s, rr_bnl_n, rr_bnl_s, rr_cond_t, rr_cond_f, rr_bcond_t, rr_bcond_f, rr_bon, rr_bcv, rr_cv, rr_g, rr_gr, rr_si, rr_sz, rr_sr, rr_al, rr_ld, rr_st, rr_rl, rr_rs, rr_ni, rr_nr, rr_z, rr_div, rr_rem, rr_lc, rr_mx, rr_mn, rr_ab, rr_no, gd_t, bc_t, bc_f, gd_tt, bc_tt, bc_ff, or_true, true_or, and_true, true_and, Nat.reduceAdd, p6, p25, p26, p27, w1, w2, w3, w4, Int.natCast_add, Int.natCast_one]
        · by_cases z : j = (k : Int)
          · rw [z]; exact cb
          · exact hk1 j j0 (by omega)
      · right
        refine ⟨(), h', by simp (disch := omega) only [X7_look_L8, rr_p, rr_bp, rr_bb, rr_0, rr_lt, rr_blt, rr_le, rr_ble, rr_eq, rr_beq, rr_nl_n, rr_nl_s, rr_bnl_n, rr_bnl_s, rr_cond_t, rr_cond_f, rr_bcond_t, rr_bcond_f, rr_bon, rr_bcv, rr_cv, rr_g, rr_gr, rr_si, rr_sz, rr_sr, rr_al, rr_ld, rr_st, rr_rl, rr_rs, rr_ni, rr_nr, rr_z, rr_div, rr_rem, rr_lc, rr_mx, rr_mn, rr_ab, rr_no, gd_t, bc_t, bc_f, gd_tt, bc_tt, bc_ff, or_true, true_or, and_true, true_and, Nat.reduceAdd, p27, w1], ?_, MF.rf⟩
        unfold updB
        rw [bc_f (fun z => cb (z.1.2 (k : Int) (by omega) (by omega)))]
        exact hb
    · right
      have : k = E.1 := by omega
      subst this
      have hfs : fs E s := ⟨hacy, hk1⟩
      have hno : ¬ lsB (rmS E s E.1) (smS E s E.1) b → mBst h' m E (updB E b s) ∧ MF m 28 30 39 42 h' h' := by
        intro cl
        unfold updB
        rw [bc_f (fun z => cl z.2)]
        exact ⟨hb, MF.rf⟩
      have tl1 : ah_T (ah_sF (ah_sF (ah_sF h' m 41 1) m 39 (rmS E s E.1)) m 40 (smS E s E.1)) m = 17 := mT
      match b, hb, tk, hno with
      | none, hb, tk, hno =>
        obtain ⟨h2, e2, q2⟩ := tk trivial hfs
        have hb : ah_F h' m 41 = 0 := hb
        exact ⟨(), h2, by simp (disch := omega) only [X7_look_L8, rr_p, rr_bp, rr_bb, rr_0, rr_lt, rr_blt, rr_le, rr_ble, rr_eq, rr_beq, rr_nl_n, rr_nl_s, rr_bnl_n, rr_bnl_s, rr_cond_t, rr_cond_f, rr_bcond_t, rr_bcond_f, rr_bon, rr_bcv, rr_cv, rr_g, rr_gr, rr_si, rr_sz, rr_sr, rr_al, rr_ld, rr_st, rr_rl, rr_rs, rr_ni, rr_nr, rr_z, rr_div, rr_rem, rr_lc, rr_mx, rr_mn, rr_ab, rr_no, gd_t, bc_t, bc_f, gd_tt, bc_tt, bc_ff, or_true, true_or, and_true, true_and, Nat.reduceAdd, hl_T_sF, hl_N_sF, hl_P_sF, hl_I_sF, hl_R_sF, hl_S_sF, hl_T_sP, hl_N_sP, hl_F_sP, hl_I_sP, hl_R_sP, hl_S_sP, hl_T_sI, hl_N_sI, hl_F_sI, hl_P_sI, hl_R_sI, hl_S_sI, hl_T_sR, hl_N_sR, hl_F_sR, hl_P_sR, hl_I_sR, hl_S_sR, hl_T_wI, hl_N_wI, hl_F_wI, hl_P_wI, hl_R_wI, hl_S_wI, hl_F_sF_s, hl_F_sF_n, hl_P_sP_s, hl_P_sP_n, hl_I_sI_s, hl_I_sI_n, hl_R_sR_s, hl_R_sR_n, hl_I_wI_s, hl_I_wI_n, hb, look_1, mo_b_s e2], q2⟩
      | some (r', z', s'), hb, tk, hno =>
        obtain ⟨b1, b2, b3, ⟨b4, b5⟩, b6⟩ := hb
        by_cases c : rmS E s E.1 < r'
        · obtain ⟨h2, e2, q2⟩ := tk (Or.inl c) hfs
          exact ⟨(), h2, by simp (disch := omega) only [X7_look_L8, rr_p, rr_bp, rr_bb, rr_0, rr_lt, rr_blt, rr_le, rr_ble, rr_eq, rr_beq, rr_nl_n, rr_nl_s, rr_bnl_n, rr_bnl_s, rr_cond_t, rr_cond_f, rr_bcond_t, rr_bcond_f, rr_bon, rr_bcv, rr_cv, rr_g, rr_gr, rr_si, rr_sz, rr_sr, rr_al, rr_ld, rr_st, rr_rl, rr_rs, rr_ni, rr_nr, rr_z, rr_div, rr_rem, rr_lc, rr_mx, rr_mn, rr_ab, rr_no, gd_t, bc_t, bc_f, gd_tt, bc_tt, bc_ff, or_true, true_or, and_true, true_and, Nat.reduceAdd, hl_T_sF, hl_N_sF, hl_P_sF, hl_I_sF, hl_R_sF, hl_S_sF, hl_T_sP, hl_N_sP, hl_F_sP, hl_I_sP, hl_R_sP, hl_S_sP, hl_T_sI, hl_N_sI, hl_F_sI, hl_P_sI, hl_R_sI, hl_S_sI, hl_T_sR, hl_N_sR, hl_F_sR, hl_P_sR, hl_I_sR, hl_S_sR, hl_T_wI, hl_N_wI, hl_F_wI, hl_P_wI, hl_R_wI, hl_S_wI, hl_F_sF_s, hl_F_sF_n, hl_P_sP_s, hl_P_sP_n, hl_I_sI_s, hl_I_sI_n, hl_R_sR_s, hl_R_sR_n, hl_I_wI_s, hl_I_wI_n, b1, b2, look_1, mo_b_s e2], q2⟩
        · by_cases c2 : rmS E s E.1 = r'
          · by_cases c3 : smS E s E.1 < z'
            · obtain ⟨h2, e2, q2⟩ := tk (Or.inr ⟨c2, c3⟩) hfs
              have e3 : (if z' < smS E s E.1 then (1 : Int) else if smS E s E.1 = z' then 0 else -1) = -1 := by rw [if_neg (by omega), if_neg (by omega)]
              exact ⟨(), h2, by simp (disch := omega) only [X7_look_L8, rr_p, rr_bp, rr_bb, rr_0, rr_lt, rr_blt, rr_le, rr_ble, rr_eq, rr_beq, rr_nl_n, rr_nl_s, rr_bnl_n, rr_bnl_s, rr_cond_t, rr_cond_f, rr_bcond_t, rr_bcond_f, rr_bon, rr_bcv, rr_cv, rr_g, rr_gr, rr_si, rr_sz, rr_sr, rr_al, rr_ld, rr_st, rr_rl, rr_rs, rr_ni, rr_nr, rr_z, rr_div, rr_rem, rr_lc, rr_mx, rr_mn, rr_ab, rr_no, gd_t, bc_t, bc_f, gd_tt, bc_tt, bc_ff, or_true, true_or, and_true, true_and, Nat.reduceAdd, hl_T_sF, hl_N_sF, hl_P_sF, hl_I_sF, hl_R_sF, hl_S_sF, hl_T_sP, hl_N_sP, hl_F_sP, hl_I_sP, hl_R_sP, hl_S_sP, hl_T_sI, hl_N_sI, hl_F_sI, hl_P_sI, hl_R_sI, hl_S_sI, hl_T_sR, hl_N_sR, hl_F_sR, hl_P_sR, hl_I_sR, hl_S_sR, hl_T_wI, hl_N_wI, hl_F_wI, hl_P_wI, hl_R_wI, hl_S_wI, hl_F_sF_s, hl_F_sF_n, hl_P_sP_s, hl_P_sP_n, hl_I_sI_s, hl_I_sI_n, hl_R_sR_s, hl_R_sR_n, hl_I_wI_s, hl_I_wI_n, b1, b2, b3, e3, mo_b_s e2], q2⟩
            · have e3 : ∃ v : Int, (v = 0 ∨ v = 1) ∧ (if z' < smS E s E.1 then (1 : Int) else if smS E s E.1 = z' then 0 else -1) = v := by
                by_cases c4 : z' < smS E s E.1
                · exact ⟨1, Or.inr rfl, by rw [if_pos c4]⟩
                · exact ⟨0, Or.inl rfl, by rw [if_neg c4, if_pos (by omega)]⟩
              obtain ⟨v, v1, v2⟩ := e3
              refine ⟨(), h', by simp (disch := omega) only [X7_look_L8, rr_p, rr_bp, rr_bb, rr_0, rr_lt, rr_blt, rr_le, rr_ble, rr_eq, rr_beq, rr_nl_n, rr_nl_s, rr_bnl_n, rr_bnl_s, rr_cond_t, rr_cond_f, rr_bcond_t, rr_bcond_f, rr_bon, rr_bcv, rr_cv, rr_g, rr_gr, rr_si, rr_sz, rr_sr, rr_al, rr_ld, rr_st, rr_rl, rr_rs, rr_ni, rr_nr, rr_z, rr_div, rr_rem, rr_lc, rr_mx, rr_mn, rr_ab, rr_no, gd_t, bc_t, bc_f, gd_tt, bc_tt, bc_ff, or_true, true_or, and_true, true_and, Nat.reduceAdd, b1, b2, b3, v2], hno (fun z => ?_)⟩
              rcases z with z | z
              · exact c z
              · exact c3 z.2
          · refine ⟨(), h', by simp (disch := omega) only [X7_look_L8, rr_p, rr_bp, rr_bb, rr_0, rr_lt, rr_blt, rr_le, rr_ble, rr_eq, rr_beq, rr_nl_n, rr_nl_s, rr_bnl_n, rr_bnl_s, rr_cond_t, rr_cond_f, rr_bcond_t, rr_bcond_f, rr_bon, rr_bcv, rr_cv, rr_g, rr_gr, rr_si, rr_sz, rr_sr, rr_al, rr_ld, rr_st, rr_rl, rr_rs, rr_ni, rr_nr, rr_z, rr_div, rr_rem, rr_lc, rr_mx, rr_mn, rr_ab, rr_no, gd_t, bc_t, bc_f, gd_tt, bc_tt, bc_ff, or_true, true_or, and_true, true_and, Nat.reduceAdd, b1, b2], hno (fun z => ?_)⟩
            rcases z with z | z
            · exact c z
            · exact c2 z.1
