/-- r is the nearest place to w, of those from f on, at which g stands in xs; of like ones the lesser; -1: none -/
def isN (xs g : List Int) (w f r : Int) : Prop := (r = -1 ∧ ∀ p : Int, f ≤ p → p ≤ xs.length → ¬ stW xs g p) ∨ (f ≤ r ∧ r ≤ xs.length ∧ stW xs g r ∧ ∀ p : Int, f ≤ p → p ≤ xs.length → stW xs g p → (r - w).natAbs < (p - w).natAbs ∨ ((r - w).natAbs = (p - w).natAbs ∧ r ≤ p))
theorem isN_u {xs g : List Int} {w f r r2 : Int} (hf : 0 ≤ f) (h : isN xs g w f r) (h2 : isN xs g w f r2) : r = r2 := by
  rcases h with ⟨e1, a1⟩ | ⟨a1, a2, a3, a4⟩
  · rcases h2 with ⟨e2, b1⟩ | ⟨b1, b2, b3, b4⟩
    · omega
    · exact absurd b3 (a1 r2 b1 b2)
  · rcases h2 with ⟨e2, b1⟩ | ⟨b1, b2, b3, b4⟩
    · exact absurd a3 (b1 r a1 a2)
    · have c1 := a4 r2 b1 b2 b3
      have c2 := b4 r a1 a2 a3
      omega
theorem q3_nearestPlace {h : AH} {a mh ml b : Nat} {W : List HK} {xs : List Int} (hP : kP h a mh ml W) (hV : pV W) (hX : kR h b xs) (hx : pL xs) {i w f : Int} (h0 : 0 ≤ i) (h1 : i < W.length) (hw : -1000000 ≤ w ∧ w ≤ 1000000) (hf : 0 ≤ f ∧ f ≤ 1000) : ∃ r, X3_nearestPlace a (some b) i w f h = some (r, h) ∧ isN xs (hk W i.toNat).2.1 w f r := by
  have ta := hP.1.1.1
  have tb := hX.1
  have hl := hP.2.2.1
  have hm := hP.1.2.2.2
  have es := q4_size hX
  have hlx := hX.2.2.2.2.1
  have hNx := hX.2.2.2.2.2.1
  have hL := lp_inv (F := X3_nearestPlace_L7 a (some b) i w) (fun s h' => h' = h ∧ f ≤ s.2 ∧ s.2 ≤ 1000 ∧ ((s.1 = -1 ∧ ∀ p : Int, f ≤ p → p < s.2 → p ≤ xs.length → ¬ stW xs (hk W i.toNat).2.1 p) ∨ (f ≤ s.1 ∧ s.1 ≤ xs.length ∧ s.1 < s.2 ∧ stW xs (hk W i.toNat).2.1 s.1 ∧ ∀ p : Int, f ≤ p → p < s.2 → p ≤ xs.length → stW xs (hk W i.toNat).2.1 p → (s.1 - w).natAbs < (p - w).natAbs ∨ ((s.1 - w).natAbs = (p - w).natAbs ∧ s.1 ≤ p)))) (fun s => (1000 - s.2).toNat) (fun r h' => h' = h ∧ isN xs (hk W i.toNat).2.1 w f r) ?_ mo_N (-1, f) h ⟨rfl, Int.le_refl _, hf.2, Or.inl ⟨rfl, fun p p1 p2 => by omega⟩⟩ (by rw [mo_N_v]; show (1000 - f).toNat < 200000; omega)
  · obtain ⟨r, h', e1, hh, hr⟩ := hL
    subst hh
    exact ⟨r, by simp (disch := omega) only [X3_nearestPlace, rr_p, rr_bp, rr_bb, rr_0, rr_lt, rr_blt, rr_le, rr_ble, rr_eq, rr_beq, rr_nl_n, rr_nl_s, rr_bnl_n, rr_bnl_s, rr_cond_t, rr_cond_f, rr_bcond_t, rr_bcond_f, rr_bon, rr_bcv, rr_cv, rr_g, rr_gr, rr_si, rr_sz, rr_sr, rr_al, rr_ld, rr_st, rr_rl, rr_rs, rr_ni, rr_nr, rr_z, rr_div, rr_rem, rr_lc, rr_mx, rr_mn, rr_ab, rr_no, gd_t, bc_t, bc_f, gd_tt, bc_tt, bc_ff, or_true, true_or, and_true, true_and, Nat.reduceAdd, mo_b_s e1], hr⟩
  · rintro ⟨y1, y2⟩ h' ⟨rfl, k1, k2, hd⟩
    dsimp only at k1 k2 hd ⊢
    by_cases hy : y2 ≤ xs.length
    · left
      have est := q3_standsAt hP hV hX hx (i := i) (p := y2) h0 h1 (by omega)
      by_cases hst : stW xs (hk W i.toNat).2.1 y2
      · rw [bc_t hst] at est
        rcases hd with ⟨rfl, hn⟩ | ⟨d1, d2, d3, d4, d5⟩
        · refine ⟨(y2, y2 + 1), h', ?_, ⟨rfl, by omega, by omega, Or.inr ⟨by omega, hy, by omega, hst, fun p p1 p2 p3 p4 => ?_⟩⟩, by omega⟩
          · simp (disch := omega) only [X3_nearestPlace_L7, rr_p, rr_bp, rr_bb, rr_0, rr_lt, rr_blt, rr_le, rr_ble, rr_eq, rr_beq, rr_nl_n, rr_nl_s, rr_bnl_n, rr_bnl_s, rr_cond_t, rr_cond_f, rr_bcond_t, rr_bcond_f, rr_bon, rr_bcv, rr_cv, rr_g, rr_gr, rr_si, rr_sz, rr_sr, rr_al, rr_ld, rr_st, rr_rl, rr_rs, rr_ni, rr_nr, rr_z, rr_div, rr_rem, rr_lc, rr_mx, rr_mn, rr_ab, rr_no, gd_t, bc_t, bc_f, gd_tt, bc_tt, bc_ff, or_true, true_or, and_true, true_and, Nat.reduceAdd, mo_b_s es, mo_b_s est]
          · by_cases hpe : p = y2
            · subst hpe; exact Or.inr ⟨rfl, Int.le_refl _⟩
            · exact absurd p4 (hn p p1 (by omega) p3)
        · by_cases hlt : (y2 - w).natAbs < (y1 - w).natAbs
          · refine ⟨(y2, y2 + 1), h', ?_, ⟨rfl, by omega, by omega, Or.inr ⟨by omega, hy, by omega, hst, fun p p1 p2 p3 p4 => ?_⟩⟩, by omega⟩
            · simp (disch := omega) only [X3_nearestPlace_L7, rr_p, rr_bp, rr_bb, rr_0, rr_lt, rr_blt, rr_le, rr_ble, rr_eq, rr_beq, rr_nl_n, rr_nl_s, rr_bnl_n, rr_bnl_s, rr_cond_t, rr_cond_f, rr_bcond_t, rr_bcond_f, rr_bon, rr_bcv, rr_cv, rr_g, rr_gr, rr_si, rr_sz, rr_sr, rr_al, rr_ld, rr_st, rr_rl, rr_rs, rr_ni, rr_nr, rr_z, rr_div, rr_rem, rr_lc, rr_mx, rr_mn, rr_ab, rr_no, gd_t, bc_t, bc_f, gd_tt, bc_tt, bc_ff, or_true, true_or, and_true, true_and, Nat.reduceAdd, mo_b_s es, mo_b_s est]
            · by_cases hpe : p = y2
              · subst hpe; exact Or.inr ⟨rfl, Int.le_refl _⟩
              · have := d5 p p1 (by omega) p3 p4
                omega
          · refine ⟨(y1, y2 + 1), h', ?_, ⟨rfl, by omega, by omega, Or.inr ⟨d1, d2, by omega, d4, fun p p1 p2 p3 p4 => ?_⟩⟩, by omega⟩
            · simp (disch := omega) only [X3_nearestPlace_L7, rr_p, rr_bp, rr_bb, rr_0, rr_lt, rr_blt, rr_le, rr_ble, rr_eq, rr_beq, rr_nl_n, rr_nl_s, rr_bnl_n, rr_bnl_s, rr_cond_t, rr_cond_f, rr_bcond_t, rr_bcond_f, rr_bon, rr_bcv, rr_cv, rr_g, rr_gr, rr_si, rr_sz, rr_sr, rr_al, rr_ld, rr_st, rr_rl, rr_rs, rr_ni, rr_nr, rr_z, rr_div, rr_rem, rr_lc, rr_mx, rr_mn, rr_ab, rr_no, gd_t, bc_t, bc_f, gd_tt, bc_tt, bc_ff, or_true, true_or, and_true, true_and, Nat.reduceAdd, mo_b_s es, mo_b_s est]
            · by_cases hpe : p = y2
              · subst hpe; omega
              · exact d5 p p1 (by omega) p3 p4
      · rw [bc_f hst] at est
        refine ⟨(y1, y2 + 1), h', ?_, ⟨rfl, by omega, by omega, ?_⟩, by omega⟩
        · rcases hd with ⟨rfl, hn⟩ | ⟨d1, d2, d3, d4, d5⟩
          · simp (disch := omega) only [X3_nearestPlace_L7, rr_p, rr_bp, rr_bb, rr_0, rr_lt, rr_blt, rr_le, rr_ble, rr_eq, rr_beq, rr_nl_n, rr_nl_s, rr_bnl_n, rr_bnl_s, rr_cond_t, rr_cond_f, rr_bcond_t, rr_bcond_f, rr_bon, rr_bcv, rr_cv, rr_g, rr_gr, rr_si, rr_sz, rr_sr, rr_al, rr_ld, rr_st, rr_rl, rr_rs, rr_ni, rr_nr, rr_z, rr_div, rr_rem, rr_lc, rr_mx, rr_mn, rr_ab, rr_no, gd_t, bc_t, bc_f, gd_tt, bc_tt, bc_ff, or_true, true_or, and_true, true_and, Nat.reduceAdd, mo_b_s es, mo_b_s est]
          · by_cases hlt : (y2 - w).natAbs < (y1 - w).natAbs
            · simp (disch := omega) only [X3_nearestPlace_L7, rr_p, rr_bp, rr_bb, rr_0, rr_lt, rr_blt, rr_le, rr_ble, rr_eq, rr_beq, rr_nl_n, rr_nl_s, rr_bnl_n, rr_bnl_s, rr_cond_t, rr_cond_f, rr_bcond_t, rr_bcond_f, rr_bon, rr_bcv, rr_cv, rr_g, rr_gr, rr_si, rr_sz, rr_sr, rr_al, rr_ld, rr_st, rr_rl, rr_rs, rr_ni, rr_nr, rr_z, rr_div, rr_rem, rr_lc, rr_mx, rr_mn, rr_ab, rr_no, gd_t, bc_t, bc_f, gd_tt, bc_tt, bc_ff, or_true, true_or, and_true, true_and, Nat.reduceAdd, mo_b_s es, mo_b_s est]
            · simp (disch := omega) only [X3_nearestPlace_L7, rr_p, rr_bp, rr_bb, rr_0, rr_lt, rr_blt, rr_le, rr_ble, rr_eq, rr_beq, rr_nl_n, rr_nl_s, rr_bnl_n, rr_bnl_s, rr_cond_t, rr_cond_f, rr_bcond_t, rr_bcond_f, rr_bon, rr_bcv, rr_cv, rr_g, rr_gr, rr_si, rr_sz, rr_sr, rr_al, rr_ld, rr_st, rr_rl, rr_rs, rr_ni, rr_nr, rr_z, rr_div, rr_rem, rr_lc, rr_mx, rr_mn, rr_ab, rr_no, gd_t, bc_t, bc_f, gd_tt, bc_tt, bc_ff, or_true, true_or, and_true, true_and, Nat.reduceAdd, mo_b_s es, mo_b_s est]
        · rcases hd with ⟨rfl, hn⟩ | ⟨d1, d2, d3, d4, d5⟩
          · refine Or.inl ⟨rfl, fun p p1 p2 p3 => ?_⟩
            by_cases hpe : p = y2
            · subst hpe; exact hst
            · exact hn p p1 (by omega) p3
          · refine Or.inr ⟨d1, d2, by omega, d4, fun p p1 p2 p3 p4 => ?_⟩
            by_cases hpe : p = y2
            · subst hpe; exact absurd p4 hst
            · exact d5 p p1 (by omega) p3 p4
    · right
      refine ⟨y1, h', by simp (disch := omega) only [X3_nearestPlace_L7, rr_p, rr_bp, rr_bb, rr_0, rr_lt, rr_blt, rr_le, rr_ble, rr_eq, rr_beq, rr_nl_n, rr_nl_s, rr_bnl_n, rr_bnl_s, rr_cond_t, rr_cond_f, rr_bcond_t, rr_bcond_f, rr_bon, rr_bcv, rr_cv, rr_g, rr_gr, rr_si, rr_sz, rr_sr, rr_al, rr_ld, rr_st, rr_rl, rr_rs, rr_ni, rr_nr, rr_z, rr_div, rr_rem, rr_lc, rr_mx, rr_mn, rr_ab, rr_no, gd_t, bc_t, bc_f, gd_tt, bc_tt, bc_ff, or_true, true_or, and_true, true_and, Nat.reduceAdd, mo_b_s es], rfl, ?_⟩
      rcases hd with ⟨rfl, hn⟩ | ⟨d1, d2, d3, d4, d5⟩
      · exact Or.inl ⟨rfl, fun p p1 p2 => hn p p1 (by omega) p2⟩
      · exact Or.inr ⟨d1, d2, d4, fun p p1 p2 p3 => d5 p p1 (by omega) p2 p3⟩
noncomputable def nr (xs g : List Int) (w f : Int) : Int := Classical.epsilon (isN xs g w f)
theorem nr_eq {xs g : List Int} {w f r : Int} (hf : 0 ≤ f) (h : isN xs g w f r) : nr xs g w f = r := isN_u hf (Classical.epsilon_spec (p := isN xs g w f) ⟨r, h⟩) h
noncomputable def looseW : List HK → List Int → Int → Int → Int → Option (Int × List Int)
  | [], xs, _, _, mv => some (mv, xs)
  | q :: W, xs, s, f, mv => br (nr xs q.2.1 (q.1 + s) f = -1) none (looseW W (rpl xs (nr xs q.2.1 (q.1 + s) f) q.2.1.length q.2.2) (s + (((nr xs q.2.1 (q.1 + s) f) - (q.1 + s)) + q.2.2.length - q.2.1.length)) (nr xs q.2.1 (q.1 + s) f + q.2.2.length + 1) (mv + (((nr xs q.2.1 (q.1 + s) f) - (q.1 + s)).natAbs : Int)))
def loR (o : Option (Int × List Int)) (r : Int) (P : List Int → Prop) : Prop := match o with
  | none => r = -1 ∧ ∃ zs, P zs
  | some q => r = q.1 ∧ (0 ≤ q.1 ∧ q.1 ≤ 100000000) ∧ P q.2
theorem q3_layLooselyOn {h : AH} {a mh ml b : Nat} {W : List HK} {xs : List Int} (hP : kP h a mh ml W) (hV : pV W) (hX : kR h b xs) (hx : pL xs) (hab : a + 6 ≤ b ∨ b + 2 ≤ a) (hN : (xs.length : Int) + (fC W).length ≤ ah_N h (b + 1)) : ∃ r h', X3_layLooselyOn a (some b) h = some (r, h') ∧ FRM h h' b (b + 2) ∧ loR (looseW W xs 0 0 0) r (fun zs => kR h' b zs ∧ pL zs) := by
  have hl := hP.2.2.1
  have hm := hP.1.2.2.2
  have hNx := hX.2.2.2.2.2.1
  have hL := lp_inv (F := X3_layLooselyOn_L10 a (some b)) (fun s h' => ∃ zs, kR h' b zs ∧ pL zs ∧ 0 ≤ s.2.2.2 ∧ s.2.2.2 ≤ W.length ∧ (-200000 ≤ s.1 ∧ s.1 ≤ 200000) ∧ (0 ≤ s.2.1 ∧ s.2.1 ≤ 1000) ∧ (0 ≤ s.2.2.1 ∧ s.2.2.1 ≤ 1000000 * s.2.2.2) ∧ (zs.length : Int) ≤ xs.length + hcs W s.2.2.2.toNat ∧ looseW (W.drop s.2.2.2.toNat) zs s.1 s.2.1 s.2.2.1 = looseW W xs 0 0 0 ∧ FRM h h' b (b + 2)) (fun s => ((W.length : Int) - s.2.2.2).toNat) (fun r h' => FRM h h' b (b + 2) ∧ loR (looseW W xs 0 0 0) r (fun zs => kR h' b zs ∧ pL zs)) ?_ mo_N (0, 0, 0, 0) h ⟨xs, hX, hx, by simp, by simp, by simp, by simp, by simp, by show (xs.length : Int) ≤ xs.length + (hcs W 0 : Int); omega, by simp, FRM.rf⟩ (by rw [mo_N_v]; show ((W.length : Int) - 0).toNat < 200000; omega)
  · obtain ⟨r, h', e1, hf, hq⟩ := hL
    exact ⟨r, h', e1, hf, hq⟩
  · rintro ⟨y1, y2, y3, y4⟩ h' ⟨zs, kz, pz, k1, k2, s1, s2, s3, hlz, hlo, hfr⟩
    dsimp only at k1 k2 s1 s2 s3 hlz hlo ⊢
    have hP' := kP_fr hP hfr (by omega)
    have f5 := hP'.2.1
    have ta := hP'.1.1.1
    by_cases hkk : y4 < W.length
    · have eb := q3_begins hP' k1 hkk
      have r1 := (hV y4.toNat).1
      have c1 := @hcs_s W y4.toNat (by omega)
      have c2 := @hcs_le W (y4.toNat + 1)
      have c3 := @hgs_s W y4.toNat (by omega)
      have c4 := @hgs_le W (y4.toNat + 1)
      obtain ⟨r, en, hn⟩ := q3_nearestPlace hP' hV kz pz (i := y4) (w := (hk W y4.toNat).1 + y1) (f := y2) k1 hkk (by omega) s2
      have hnr := nr_eq s2.1 hn
      rw [hkd_s (show y4.toNat < W.length by omega)] at hlo
      have hlo : br (nr zs (hk W y4.toNat).2.1 ((hk W y4.toNat).1 + y1) y2 = -1) none (looseW (W.drop (y4.toNat + 1)) (rpl zs (nr zs (hk W y4.toNat).2.1 ((hk W y4.toNat).1 + y1) y2) (hk W y4.toNat).2.1.length (hk W y4.toNat).2.2) (y1 + (((nr zs (hk W y4.toNat).2.1 ((hk W y4.toNat).1 + y1) y2) - ((hk W y4.toNat).1 + y1)) + (hk W y4.toNat).2.2.length - (hk W y4.toNat).2.1.length)) (nr zs (hk W y4.toNat).2.1 ((hk W y4.toNat).1 + y1) y2 + (hk W y4.toNat).2.2.length + 1) (y3 + (((nr zs (hk W y4.toNat).2.1 ((hk W y4.toNat).1 + y1) y2) - ((hk W y4.toNat).1 + y1)).natAbs : Int))) = looseW W xs 0 0 0 := hlo
      rw [hnr] at hlo
      by_cases hr : r = -1
      · right
        rw [bc_t hr] at hlo
        refine ⟨-1, h', ?_, hfr, ?_⟩
        · subst hr
          simp (disch := omega) only [X3_layLooselyOn_L10, rr_p, rr_bp, rr_bb, rr_0, rr_lt, rr_blt, rr_le, rr_ble, rr_eq, rr_beq, rr_nl_n, rr_nl_s, rr_bnl_n, rr_bnl_s, rr_cond_t, rr_cond_f, rr_bcond_t, rr_bcond_f, rr_bon, rr_bcv, rr_cv, rr_g, rr_gr, rr_si, rr_sz, rr_sr, rr_al, rr_ld, rr_st, rr_rl, rr_rs, rr_ni, rr_nr, rr_z, rr_div, rr_rem, rr_lc, rr_mx, rr_mn, rr_ab, rr_no, gd_t, bc_t, bc_f, gd_tt, bc_tt, bc_ff, or_true, true_or, and_true, true_and, Nat.reduceAdd, f5, mo_b_s eb, mo_b_s en]
        · rw [← hlo]; exact ⟨rfl, zs, kz, pz⟩
      · left
        rw [bc_f hr] at hlo
        rcases hn with ⟨e, -⟩ | ⟨n1, n2, n3, -⟩
        · exact absurd e hr
        have hst := n3.1
        have hNz := kz.2.2.2.2.1
        obtain ⟨h2, e2, r2, f2⟩ := q3_replace hP' kz hab (i := y4) (p := r) k1 hkk (by omega) hst (by rw [hfr.2.1]; omega)
        have f02 := hfr.tr f2 (Nat.le_refl _) (Nat.le_refl _) (Nat.le_refl _) (Nat.le_refl _)
        have hP2 := kP_fr hP f02 (by omega)
        have ta2 := hP2.1.1.1
        have ec := q3_coming hP2 k1 hkk
        have eg := q3_going hP2 k1 hkk
        have hlen := @rpl_len zs (hk W y4.toNat).2.2 r (hk W y4.toNat).2.1.length (by omega)
        refine ⟨(y1 + (((r - ((hk W y4.toNat).1 + y1)) + ((hk W y4.toNat).2.2.length : Int)) - ((hk W y4.toNat).2.1.length : Int)), r + ((hk W y4.toNat).2.2.length : Int) + 1, y3 + (((r - ((hk W y4.toNat).1 + y1)).natAbs : Nat) : Int), y4 + 1), h2, ?_, ⟨_, r2, pL_rpl pz (hV y4.toNat).2.2, ?_⟩, ?_⟩
        · simp (disch := omega) only [X3_layLooselyOn_L10, rr_p, rr_bp, rr_bb, rr_0, rr_lt, rr_blt, rr_le, rr_ble, rr_eq, rr_beq, rr_nl_n, rr_nl_s, rr_bnl_n, rr_bnl_s, rr_cond_t, rr_cond_f, rr_bcond_t, rr_bcond_f, rr_bon, rr_bcv, rr_cv, rr_g, rr_gr, rr_si, rr_sz, rr_sr, rr_al, rr_ld, rr_st, rr_rl, rr_rs, rr_ni, rr_nr, rr_z, rr_div, rr_rem, rr_lc, rr_mx, rr_mn, rr_ab, rr_no, gd_t, bc_t, bc_f, gd_tt, bc_tt, bc_ff, or_true, true_or, and_true, true_and, Nat.reduceAdd, f5, mo_b_s eb, mo_b_s en, mo_b_s e2, mo_b_s ec, mo_b_s eg]
        · dsimp only
          rw [show (y4 + 1).toNat = y4.toNat + 1 by omega]
          refine ⟨by omega, by omega, by omega, by omega, by omega, by omega, hlo, f02⟩
        · dsimp only; omega
    · right
      refine ⟨y3, h', by simp (disch := omega) only [X3_layLooselyOn_L10, rr_p, rr_bp, rr_bb, rr_0, rr_lt, rr_blt, rr_le, rr_ble, rr_eq, rr_beq, rr_nl_n, rr_nl_s, rr_bnl_n, rr_bnl_s, rr_cond_t, rr_cond_f, rr_bcond_t, rr_bcond_f, rr_bon, rr_bcv, rr_cv, rr_g, rr_gr, rr_si, rr_sz, rr_sr, rr_al, rr_ld, rr_st, rr_rl, rr_rs, rr_ni, rr_nr, rr_z, rr_div, rr_rem, rr_lc, rr_mx, rr_mn, rr_ab, rr_no, gd_t, bc_t, bc_f, gd_tt, bc_tt, bc_ff, or_true, true_or, and_true, true_and, Nat.reduceAdd, f5], hfr, ?_⟩
      rw [show y4.toNat = W.length by omega, List.drop_length] at hlo
      rw [← hlo]
      exact ⟨rfl, ⟨s3.1, by dsimp only; omega⟩, kz, pz⟩
def turnW (V : List HK) : List HK := (List.range V.length).map (fun i => (hB V i, (hk V i).2.2, (hk V i).2.1))
theorem turnW_s {V : List HK} {k : Nat} : ((List.range (k + 1)).map (fun i => (hB V i, (hk V i).2.2, (hk V i).2.1)) : List HK) = ((List.range k).map (fun i => (hB V i, (hk V i).2.2, (hk V i).2.1))) ++ [(hB V k, (hk V k).2.2, (hk V k).2.1)] := by
  rw [List.range_succ, List.map_append]; rfl
theorem turn_fG {V : List HK} {k : Nat} (hk1 : k ≤ V.length) : (fG ((List.range k).map (fun i => ((hB V i, (hk V i).2.2, (hk V i).2.1) : HK)))).length = hcs V k := by
  induction k with
  | zero => rfl
  | succ k ih => rw [turnW_s, fG_app, fG_one, List.length_append, ih (by omega), hcs_s (by omega)]
theorem turn_fC {V : List HK} {k : Nat} (hk1 : k ≤ V.length) : (fC ((List.range k).map (fun i => ((hB V i, (hk V i).2.2, (hk V i).2.1) : HK)))).length = hgs V k := by
  induction k with
  | zero => rfl
  | succ k ih => rw [turnW_s, fC_app, fC_one, List.length_append, ih (by omega), hgs_s (by omega)]
theorem q3_becomeTurned {h : AH} {a mh ml b mh2 ml2 : Nat} {W V : List HK} (hP : kP h a mh ml W) (hV : kP h b mh2 ml2 V) (hab : a + 6 ≤ b ∨ b + 6 ≤ a) (h1 : V.length ≤ mh) (h2 : (fG V).length ≤ ml) (h3 : (fC V).length ≤ ml) : ∃ h', X3_becomeTurned a (some b) h = some ((), h') ∧ kP h' a mh ml (turnW V) ∧ FRM h h' a (a + 6) := by
  obtain ⟨h0, e0, r0, f0⟩ := q3_clear hP
  have hm := hP.1.2.2.2
  have t0 := hP.1.1.1
  have hm2 := hV.1.2.2.2
  have hlV := hV.2.2.1
  have hL := lp_inv (F := X3_becomeTurned_L6 a (some b)) (fun k h' => 0 ≤ k ∧ k ≤ V.length ∧ kP h' a mh ml ((List.range k.toNat).map (fun i => (hB V i, (hk V i).2.2, (hk V i).2.1))) ∧ FRM h h' a (a + 6)) (fun k => ((V.length : Int) - k).toNat) (fun _ h' => kP h' a mh ml (turnW V) ∧ FRM h h' a (a + 6)) ?_ mo_N 0 h0 ⟨by omega, by omega, r0, f0⟩ (by rw [mo_N_v]; omega)
  · obtain ⟨_, h', e1, hQ⟩ := hL
    exact ⟨h', by simp (disch := omega) only [X3_becomeTurned, rr_p, rr_bp, rr_bb, rr_0, rr_lt, rr_blt, rr_le, rr_ble, rr_eq, rr_beq, rr_nl_n, rr_nl_s, rr_bnl_n, rr_bnl_s, rr_cond_t, rr_cond_f, rr_bcond_t, rr_bcond_f, rr_bon, rr_bcv, rr_cv, rr_g, rr_gr, rr_si, rr_sz, rr_sr, rr_al, rr_ld, rr_st, rr_rl, rr_rs, rr_ni, rr_nr, rr_z, rr_div, rr_rem, rr_lc, rr_mx, rr_mn, rr_ab, rr_no, gd_t, bc_t, bc_f, gd_tt, bc_tt, bc_ff, or_true, true_or, and_true, true_and, Nat.reduceAdd, mo_b_s e0, mo_b_s e1], hQ.1, hQ.2⟩
  · intro k h' ⟨k1, k2, k3, k4⟩
    have hV' : kP h' b mh2 ml2 V := kP_fr hV k4 (by omega)
    have hg := q3_hunks hV'
    have hT := k3.1.1.1
    have hT2 := hV'.1.1.1
    by_cases hkk : k < V.length
    · left
      have hbg := q3_beginsBehind hV' k1 hkk
      have s1 := @hgs_s V k.toNat (by omega)
      have s2 := @hgs_le V (k.toNat + 1)
      have s3 := @hcs_s V k.toNat (by omega)
      have s4 := @hcs_le V (k.toNat + 1)
      have lg := @turn_fG V k.toNat (by omega)
      have lc := @turn_fC V k.toNat (by omega)
      obtain ⟨h2, e2, r2, f2⟩ := q3_begin k3 (p := hB V k.toNat) (by simp; omega)
      have f02 := k4.tr f2 (Nat.le_refl _) (Nat.le_refl _) (Nat.le_refl _) (Nat.le_refl _)
      generalize hW0 : (List.range k.toNat).map (fun i => ((hB V i, (hk V i).2.2, (hk V i).2.1) : HK)) = W0 at k3 r2 lg lc
      have hLa := lp_inv (F := X3_becomeTurned_L25 a (some b) k) (fun j h'' => 0 ≤ j ∧ j ≤ (hk V k.toNat).2.2.length ∧ kP h'' a mh ml (W0 ++ [(hB V k.toNat, (hk V k.toNat).2.2.take j.toNat, [])]) ∧ FRM h h'' a (a + 6)) (fun j => (((hk V k.toNat).2.2.length : Int) - j).toNat) (fun _ h'' => kP h'' a mh ml (W0 ++ [(hB V k.toNat, (hk V k.toNat).2.2, [])]) ∧ FRM h h'' a (a + 6)) ?_ mo_N 0 h2 ⟨by omega, by omega, r2, f02⟩ (by rw [mo_N_v]; omega)
      · obtain ⟨_, h3', e3, r3, f3⟩ := hLa
        have hLb := lp_inv (F := X3_becomeTurned_L52 a (some b) k) (fun j h'' => 0 ≤ j ∧ j ≤ (hk V k.toNat).2.1.length ∧ kP h'' a mh ml (W0 ++ [(hB V k.toNat, (hk V k.toNat).2.2, (hk V k.toNat).2.1.take j.toNat)]) ∧ FRM h h'' a (a + 6)) (fun j => (((hk V k.toNat).2.1.length : Int) - j).toNat) (fun _ h'' => kP h'' a mh ml (W0 ++ [(hB V k.toNat, (hk V k.toNat).2.2, (hk V k.toNat).2.1)]) ∧ FRM h h'' a (a + 6)) ?_ mo_N 0 h3' ⟨by omega, by omega, r3, f3⟩ (by rw [mo_N_v]; omega)
        · obtain ⟨_, h4', e4, r4, f4⟩ := hLb
          refine ⟨k + 1, h4', ?_, ⟨by omega, by omega, ?_, f4⟩, by omega⟩
          · simp (disch := omega) only [X3_becomeTurned_L6, rr_p, rr_bp, rr_bb, rr_0, rr_lt, rr_blt, rr_le, rr_ble, rr_eq, rr_beq, rr_nl_n, rr_nl_s, rr_bnl_n, rr_bnl_s, rr_cond_t, rr_cond_f, rr_bcond_t, rr_bcond_f, rr_bon, rr_bcv, rr_cv, rr_g, rr_gr, rr_si, rr_sz, rr_sr, rr_al, rr_ld, rr_st, rr_rl, rr_rs, rr_ni, rr_nr, rr_z, rr_div, rr_rem, rr_lc, rr_mx, rr_mn, rr_ab, rr_no, gd_t, bc_t, bc_f, gd_tt, bc_tt, bc_ff, or_true, true_or, and_true, true_and, Nat.reduceAdd, mo_b_s hg, mo_b_s hbg, mo_b_s e2, mo_b_s e3, mo_b_s e4]
          · rw [show (k + 1).toNat = k.toNat + 1 by omega, turnW_s, hW0]
            exact r4
        · intro j h'' ⟨q1, q2, q3, q4⟩
          have hV2 := kP_fr hV q4 (by omega)
          have eg := q3_going hV2 k1 hkk
          have tb := hV2.1.1.1
          have ta := q3.1.1.1
          by_cases hj : j < (hk V k.toNat).2.1.length
          · left
            have ev := q3_goingLine hV2 (i := k) (k := j) k1 hkk (by omega)
            rw [if_pos (by omega)] at ev
            obtain ⟨h5, e5, r5, f5⟩ := q3_addComing q3 (v := (hk V k.toNat).2.1.getD j.toNat 0) (by rw [List.length_take]; omega)
            refine ⟨j + 1, h5, ?_, ⟨by omega, by omega, ?_, q4.tr f5 (Nat.le_refl _) (Nat.le_refl _) (Nat.le_refl _) (Nat.le_refl _)⟩, by omega⟩
            · simp (disch := omega) only [X3_becomeTurned_L52, rr_p, rr_bp, rr_bb, rr_0, rr_lt, rr_blt, rr_le, rr_ble, rr_eq, rr_beq, rr_nl_n, rr_nl_s, rr_bnl_n, rr_bnl_s, rr_cond_t, rr_cond_f, rr_bcond_t, rr_bcond_f, rr_bon, rr_bcv, rr_cv, rr_g, rr_gr, rr_si, rr_sz, rr_sr, rr_al, rr_ld, rr_st, rr_rl, rr_rs, rr_ni, rr_nr, rr_z, rr_div, rr_rem, rr_lc, rr_mx, rr_mn, rr_ab, rr_no, gd_t, bc_t, bc_f, gd_tt, bc_tt, bc_ff, or_true, true_or, and_true, true_and, Nat.reduceAdd, mo_b_s eg, mo_b_s ev, mo_b_s e5]
            · rw [show (j + 1).toNat = j.toNat + 1 by omega, take_s (by omega)]; exact r5
          · right
            refine ⟨(), h'', by simp (disch := omega) only [X3_becomeTurned_L52, rr_p, rr_bp, rr_bb, rr_0, rr_lt, rr_blt, rr_le, rr_ble, rr_eq, rr_beq, rr_nl_n, rr_nl_s, rr_bnl_n, rr_bnl_s, rr_cond_t, rr_cond_f, rr_bcond_t, rr_bcond_f, rr_bon, rr_bcv, rr_cv, rr_g, rr_gr, rr_si, rr_sz, rr_sr, rr_al, rr_ld, rr_st, rr_rl, rr_rs, rr_ni, rr_nr, rr_z, rr_div, rr_rem, rr_lc, rr_mx, rr_mn, rr_ab, rr_no, gd_t, bc_t, bc_f, gd_tt, bc_tt, bc_ff, or_true, true_or, and_true, true_and, Nat.reduceAdd, mo_b_s eg], ?_, q4⟩
            rw [List.take_of_length_le (by omega)] at q3
            exact q3
      · intro j h'' ⟨q1, q2, q3, q4⟩
        have hV2 := kP_fr hV q4 (by omega)
        have eg := q3_coming hV2 k1 hkk
        have tb := hV2.1.1.1
        have ta := q3.1.1.1
        by_cases hj : j < (hk V k.toNat).2.2.length
        · left
          have ev := q3_comingLine hV2 (i := k) (k := j) k1 hkk (by omega)
          rw [if_pos (by omega)] at ev
          obtain ⟨h5, e5, r5, f5⟩ := q3_addGoing q3 (v := (hk V k.toNat).2.2.getD j.toNat 0) (by rw [List.length_take]; omega)
          refine ⟨j + 1, h5, ?_, ⟨by omega, by omega, ?_, q4.tr f5 (Nat.le_refl _) (Nat.le_refl _) (Nat.le_refl _) (Nat.le_refl _)⟩, by omega⟩
          · simp (disch := omega) only [X3_becomeTurned_L25, rr_p, rr_bp, rr_bb, rr_0, rr_lt, rr_blt, rr_le, rr_ble, rr_eq, rr_beq, rr_nl_n, rr_nl_s, rr_bnl_n, rr_bnl_s, rr_cond_t, rr_cond_f, rr_bcond_t, rr_bcond_f, rr_bon, rr_bcv, rr_cv, rr_g, rr_gr, rr_si, rr_sz, rr_sr, rr_al, rr_ld, rr_st, rr_rl, rr_rs, rr_ni, rr_nr, rr_z, rr_div, rr_rem, rr_lc, rr_mx, rr_mn, rr_ab, rr_no, gd_t, bc_t, bc_f, gd_tt, bc_tt, bc_ff, or_true, true_or, and_true, true_and, Nat.reduceAdd, mo_b_s eg, mo_b_s ev, mo_b_s e5]
          · rw [show (j + 1).toNat = j.toNat + 1 by omega, take_s (by omega)]; exact r5
        · right
          refine ⟨(), h'', by simp (disch := omega) only [X3_becomeTurned_L25, rr_p, rr_bp, rr_bb, rr_0, rr_lt, rr_blt, rr_le, rr_ble, rr_eq, rr_beq, rr_nl_n, rr_nl_s, rr_bnl_n, rr_bnl_s, rr_cond_t, rr_cond_f, rr_bcond_t, rr_bcond_f, rr_bon, rr_bcv, rr_cv, rr_g, rr_gr, rr_si, rr_sz, rr_sr, rr_al, rr_ld, rr_st, rr_rl, rr_rs, rr_ni, rr_nr, rr_z, rr_div, rr_rem, rr_lc, rr_mx, rr_mn, rr_ab, rr_no, gd_t, bc_t, bc_f, gd_tt, bc_tt, bc_ff, or_true, true_or, and_true, true_and, Nat.reduceAdd, mo_b_s eg], ?_, q4⟩
          rw [List.take_of_length_le (by omega)] at q3
          exact q3
    · right
      refine ⟨(), h', by simp (disch := omega) only [X3_becomeTurned_L6, rr_p, rr_bp, rr_bb, rr_0, rr_lt, rr_blt, rr_le, rr_ble, rr_eq, rr_beq, rr_nl_n, rr_nl_s, rr_bnl_n, rr_bnl_s, rr_cond_t, rr_cond_f, rr_bcond_t, rr_bcond_f, rr_bon, rr_bcv, rr_cv, rr_g, rr_gr, rr_si, rr_sz, rr_sr, rr_al, rr_ld, rr_st, rr_rl, rr_rs, rr_ni, rr_nr, rr_z, rr_div, rr_rem, rr_lc, rr_mx, rr_mn, rr_ab, rr_no, gd_t, bc_t, bc_f, gd_tt, bc_tt, bc_ff, or_true, true_or, and_true, true_and, Nat.reduceAdd, mo_b_s hg], ?_, k4⟩
      rw [show k.toNat = V.length by omega] at k3
      exact k3
theorem q3_leaveOutLast {h : AH} {a mh ml : Nat} {W : List HK} {q : HK} (hP : kP h a mh ml (W ++ [q])) : ∃ h', X3_leaveOutLast a h = some ((), h') ∧ kP h' a mh ml W ∧ FRM h h' a (a + 6) := by
  have hlen : (W ++ [q]).length = W.length + 1 := by simp
  have hF : FRM h (ah_sF h a 5 (W.length : Int)) a (a + 6) := FRM.sF (by omega) (by omega)
  obtain ⟨⟨⟨t0, t1, t2, t3, t4, t5⟩, ⟨p0, p1, p2, p3, p4⟩, ⟨n1, n2, n3, n4, n5⟩, m1, m2⟩, f5, ⟨l1, l2, l3⟩, c1, c2, c3, c4, c5⟩ := id hP
  rw [hlen] at f5 l1 c1 c2 c3
  have eG : fG (W ++ [q]) = fG W ++ q.2.1 := by rw [fG_app, fG_one]
  have eC : fC (W ++ [q]) = fC W ++ q.2.2 := by rw [fC_app, fC_one]
  rw [eG] at l2 c4
  rw [eC] at l3 c5
  rw [List.length_append] at l2 l3 c4 c5
  refine ⟨_, ?_, ⟨kPs_fr hP.1 hF, hl_F_sF_s, ⟨by omega, by omega, by omega⟩, fun i hi => ?_, fun i hi => ?_, fun i hi => ?_, fun j hj => ?_, fun j hj => ?_⟩, hF⟩
  · have e : max (((W.length + 1 : Nat) : Int) - 1) 0 = (W.length : Int) := by omega
    simp (disch := omega) only [X3_leaveOutLast, rr_p, rr_bp, rr_bb, rr_0, rr_lt, rr_blt, rr_le, rr_ble, rr_eq, rr_beq, rr_nl_n, rr_nl_s, rr_bnl_n, rr_bnl_s, rr_cond_t, rr_cond_f, rr_bcond_t, rr_bcond_f, rr_bon, rr_bcv, rr_cv, rr_g, rr_gr, rr_si, rr_sz, rr_sr, rr_al, rr_ld, rr_st, rr_rl, rr_rs, rr_ni, rr_nr, rr_z, rr_div, rr_rem, rr_lc, rr_mx, rr_mn, rr_ab, rr_no, gd_t, bc_t, bc_f, gd_tt, bc_tt, bc_ff, or_true, true_or, and_true, true_and, Nat.reduceAdd, f5, e]
  · have := c1 i (by omega); rw [hk_app_l hi] at this; exact this
  · have := c2 i (by omega); rw [hgs_app hi] at this; exact this
  · have := c3 i (by omega); rw [hcs_app hi] at this; exact this
  · have := c4 j (by omega); rw [getD_app_l hj] at this; exact this
  · have := c5 j (by omega); rw [getD_app_l hj] at this; exact this
theorem q3_mayBeginNext {h : AH} {a mh ml : Nat} {W : List HK} (hP : kP h a mh ml W) (hV : pV W) {p : Int} (hp : -2147483648 ≤ p ∧ p ≤ 2147483647) : X3_mayBeginNext a p h = some (br (W = [] ∨ (hk W (W.length - 1)).1 + (hk W (W.length - 1)).2.1.length < p) 1 0, h) := by
  have t0 := hP.1.1.1
  have f5 := hP.2.1
  have hl := hP.2.2.1
  have hm := hP.1.2.2.2
  by_cases hW : W.length = 0
  · rw [bc_t (Or.inl (List.length_eq_zero_iff.mp hW))]
    simp (disch := omega) only [X3_mayBeginNext, rr_p, rr_bp, rr_bb, rr_0, rr_lt, rr_blt, rr_le, rr_ble, rr_eq, rr_beq, rr_nl_n, rr_nl_s, rr_bnl_n, rr_bnl_s, rr_cond_t, rr_cond_f, rr_bcond_t, rr_bcond_f, rr_bon, rr_bcv, rr_cv, rr_g, rr_gr, rr_si, rr_sz, rr_sr, rr_al, rr_ld, rr_st, rr_rl, rr_rs, rr_ni, rr_nr, rr_z, rr_div, rr_rem, rr_lc, rr_mx, rr_mn, rr_ab, rr_no, gd_t, bc_t, bc_f, gd_tt, bc_tt, bc_ff, or_true, true_or, and_true, true_and, Nat.reduceAdd, f5]
  · have e1 := q3_ends hP (i := (W.length : Int) - 1) (by omega) (by omega)
    rw [show ((W.length : Int) - 1).toNat = W.length - 1 by omega] at e1
    have r1 := (hV (W.length - 1)).1
    have c3 := @hgs_s W (W.length - 1) (by omega)
    have c4 := @hgs_le W (W.length - 1 + 1)
    have hne : W ≠ [] := fun e => hW (by rw [e]; rfl)
    by_cases hc : (hk W (W.length - 1)).1 + ((hk W (W.length - 1)).2.1.length : Int) < p
    · rw [bc_t (Or.inr hc)]
      simp (disch := omega) only [X3_mayBeginNext, rr_p, rr_bp, rr_bb, rr_0, rr_lt, rr_blt, rr_le, rr_ble, rr_eq, rr_beq, rr_nl_n, rr_nl_s, rr_bnl_n, rr_bnl_s, rr_cond_t, rr_cond_f, rr_bcond_t, rr_bcond_f, rr_bon, rr_bcv, rr_cv, rr_g, rr_gr, rr_si, rr_sz, rr_sr, rr_al, rr_ld, rr_st, rr_rl, rr_rs, rr_ni, rr_nr, rr_z, rr_div, rr_rem, rr_lc, rr_mx, rr_mn, rr_ab, rr_no, gd_t, bc_t, bc_f, gd_tt, bc_tt, bc_ff, or_true, true_or, and_true, true_and, Nat.reduceAdd, f5, mo_b_s e1]
    · rw [bc_f (fun q => q.elim hne hc)]
      simp (disch := omega) only [X3_mayBeginNext, rr_p, rr_bp, rr_bb, rr_0, rr_lt, rr_blt, rr_le, rr_ble, rr_eq, rr_beq, rr_nl_n, rr_nl_s, rr_bnl_n, rr_bnl_s, rr_cond_t, rr_cond_f, rr_bcond_t, rr_bcond_f, rr_bon, rr_bcv, rr_cv, rr_g, rr_gr, rr_si, rr_sz, rr_sr, rr_al, rr_ld, rr_st, rr_rl, rr_rs, rr_ni, rr_nr, rr_z, rr_div, rr_rem, rr_lc, rr_mx, rr_mn, rr_ab, rr_no, gd_t, bc_t, bc_f, gd_tt, bc_tt, bc_ff, or_true, true_or, and_true, true_and, Nat.reduceAdd, f5, mo_b_s e1]
