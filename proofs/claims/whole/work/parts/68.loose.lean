theorem looseW_wL : ∀ {W : List HK} {xs : List Int} {s f mv r : Int} {zs : List Int}, wL xs → (∀ q ∈ W, wL q.2.2) → looseW W xs s f mv = some (r, zs) → wL zs := by
  intro W
  induction W with
  | nil =>
    intro xs s f mv r zs hx _ h
    rw [looseW] at h
    have := (Option.some.inj h)
    have : xs = zs := congrArg Prod.snd this
    rw [← this]; exact hx
  | cons q W ih =>
    intro xs s f mv r zs hx hq h
    rw [looseW] at h
    by_cases c : nr xs q.2.1 (q.1 + s) f = -1
    · rw [bc_t c] at h; cases h
    · rw [bc_f c] at h
      exact ih (wL_rpl hx (hq q (by simp))) (fun r hr => hq r (by simp [hr])) h
theorem q7_search {h : AH} {m p : Nat} {W : List HK} {xs : List Int} (hQ : mQ h m p W) (hV : pV W) (hR : mRow h m xs) (hx : pL xs) (lx : xs.length ≤ 80) {i : Nat} (hi : i < W.length) {a sh fr : Int} (hdue : 0 ≤ a + sh ∧ a + sh ≤ 600) (hfr : 0 ≤ fr ∧ fr ≤ 600) : ∃ r, mo_lp mo_N (X7_loose_L58 a m (p : Int) sh fr (i : Int)) (-1, 0) h = some (r, h) ∧ isN xs (hk W i).2.1 (a + sh) fr r := by
  have mT := hQ.1.1
  have f27 := hR.1
  have hL := lp_inv (F := X7_loose_L58 a m (p : Int) sh fr (i : Int)) (fun s h' => h' = h ∧ 0 ≤ s.2 ∧ s.2 ≤ 1000 ∧ (-1 ≤ s.1 ∧ s.1 ≤ 10000) ∧ (s.1 = -1 → ∀ q : Int, fr ≤ q → stW xs (hk W i).2.1 q → s.2 ≤ ((q - (a + sh)).natAbs : Int)) ∧ (s.1 ≠ -1 → isN xs (hk W i).2.1 (a + sh) fr s.1)) (fun s => (1000 - s.2).toNat) (fun r h' => h' = h ∧ isN xs (hk W i).2.1 (a + sh) fr r) ?_ mo_N (-1, 0) h ⟨rfl, by simp, by simp, by simp, fun _ q _ _ => by dsimp only; omega, fun z => absurd rfl z⟩ (by rw [mo_N_v]; show (1000 - (0 : Int)).toNat < 200000; omega)
  · obtain ⟨r, h', e, rfl, q⟩ := hL
    exact ⟨r, e, q⟩
  · rintro ⟨fd, far⟩ h' ⟨rfl, a1, a2, a3, a4, a5⟩
    dsimp only at a1 a2 a3 a4 a5
    by_cases c1 : far < 1000
    · by_cases c2 : fd = -1
      · left
        have a4 := a4 c2
        have e1 := q7_stands hQ hV hR hx lx hi (a := a + sh - far) (by omega)
        have e2 := q7_stands hQ hV hR hx lx hi (a := a + sh + far) (by omega)
        by_cases d1 : fr ≤ a + sh - far ∧ stW xs (hk W i).2.1 (a + sh - far)
        · rw [bc_t ⟨by omega, d1.2⟩] at e1
          refine ⟨(a + sh - far, far + 1), h', by simp (disch := omega) only [X7_loose_L58, rr_p, rr_bp, rr_bb, rr_0, rr_lt, rr_blt, rr_le, rr_ble, rr_eq, rr_beq, rr_nl_n, rr_nl_s, rr_bnl_n, rr_bnl_s, rr_cond_t, rr_cond_f, rr_bcond_t, rr_bcond_f, rr_bon, rr_bcv, rr_cv, rr_g, rr_gr, rr_si, rr_sz, rr_sr, rr_al, rr_ld, rr_st, rr_rl, rr_rs, rr_ni, rr_nr, rr_z, rr_div, rr_rem, rr_lc, rr_mx, rr_mn, rr_ab, rr_no, gd_t, bc_t, bc_f, gd_tt, bc_tt, bc_ff, or_true, true_or, and_true, true_and, Nat.reduceAdd, f27, mo_b_s e1], ⟨rfl, by dsimp only; omega, by dsimp only; omega, by dsimp only; omega, fun z => by dsimp only at z; omega, fun _ => Or.inr ⟨d1.1, by have := d1.2.1; dsimp only; omega, d1.2, fun q q1 q2 q3 => ?_⟩⟩, by dsimp only; omega⟩
          have := a4 q q1 q3
          dsimp only; omega
        · have hpre : mo_b (mo_lt ((a + sh) - far) fr (mo_p false) (mo_b (op_g 7 (some m) 27) fun t14 => mo_b (mo_cv 7 (some m) (fun b15 => X7_stands b15 (p : Int) (i : Int) ((a + sh) - far) t14)) fun t15 => mo_eq t15 0 (mo_p false) (mo_p true))) mo_p h' = some (false, h') := by
            by_cases d2 : a + sh - far < fr
            · simp (disch := omega) only [rr_p, rr_bp, rr_bb, rr_0, rr_lt, rr_blt, rr_le, rr_ble, rr_eq, rr_beq, rr_nl_n, rr_nl_s, rr_bnl_n, rr_bnl_s, rr_cond_t, rr_cond_f, rr_bcond_t, rr_bcond_f, rr_bon, rr_bcv, rr_cv, rr_g, rr_gr, rr_si, rr_sz, rr_sr, rr_al, rr_ld, rr_st, rr_rl, rr_rs, rr_ni, rr_nr, rr_z, rr_div, rr_rem, rr_lc, rr_mx, rr_mn, rr_ab, rr_no, gd_t, bc_t, bc_f, gd_tt, bc_tt, bc_ff, or_true, true_or, and_true, true_and, Nat.reduceAdd]
            · rw [bc_f (fun z => d1 ⟨by omega, z.2⟩)] at e1
              simp (disch := omega) only [rr_p, rr_bp, rr_bb, rr_0, rr_lt, rr_blt, rr_le, rr_ble, rr_eq, rr_beq, rr_nl_n, rr_nl_s, rr_bnl_n, rr_bnl_s, rr_cond_t, rr_cond_f, rr_bcond_t, rr_bcond_f, rr_bon, rr_bcv, rr_cv, rr_g, rr_gr, rr_si, rr_sz, rr_sr, rr_al, rr_ld, rr_st, rr_rl, rr_rs, rr_ni, rr_nr, rr_z, rr_div, rr_rem, rr_lc, rr_mx, rr_mn, rr_ab, rr_no, gd_t, bc_t, bc_f, gd_tt, bc_tt, bc_ff, or_true, true_or, and_true, true_and, Nat.reduceAdd, f27, mo_b_s e1]
          rw [mo_bp] at hpre
          by_cases d3 : fr ≤ a + sh + far ∧ stW xs (hk W i).2.1 (a + sh + far)
          · rw [bc_t ⟨by omega, d3.2⟩] at e2
            refine ⟨(a + sh + far, far + 1), h', by simp (disch := omega) only [X7_loose_L58, rr_p, rr_bp, rr_bb, rr_0, rr_lt, rr_blt, rr_le, rr_ble, rr_eq, rr_beq, rr_nl_n, rr_nl_s, rr_bnl_n, rr_bnl_s, rr_cond_t, rr_cond_f, rr_bcond_t, rr_bcond_f, rr_bon, rr_bcv, rr_cv, rr_g, rr_gr, rr_si, rr_sz, rr_sr, rr_al, rr_ld, rr_st, rr_rl, rr_rs, rr_ni, rr_nr, rr_z, rr_div, rr_rem, rr_lc, rr_mx, rr_mn, rr_ab, rr_no, gd_t, bc_t, bc_f, gd_tt, bc_tt, bc_ff, or_true, true_or, and_true, true_and, Nat.reduceAdd, f27, mo_b_s hpre, mo_b_s e2], ⟨rfl, by dsimp only; omega, by dsimp only; omega, by dsimp only; omega, fun z => by dsimp only at z; omega, fun _ => Or.inr ⟨d3.1, by have := d3.2.1; dsimp only; omega, d3.2, fun q q1 q2 q3 => ?_⟩⟩, by dsimp only; omega⟩
            have h1 := a4 q q1 q3
            have h2 : q ≠ a + sh - far := fun z => d1 ⟨by omega, by rw [← z]; exact q3⟩
            dsimp only; omega
          · refine ⟨(fd, far + 1), h', ?_, ⟨rfl, by dsimp only; omega, by dsimp only; omega, a3, fun _ q q1 q2 => ?_, fun z => absurd c2 z⟩, by dsimp only; omega⟩
            · by_cases d4 : a + sh + far < fr
              · simp (disch := omega) only [X7_loose_L58, rr_p, rr_bp, rr_bb, rr_0, rr_lt, rr_blt, rr_le, rr_ble, rr_eq, rr_beq, rr_nl_n, rr_nl_s, rr_bnl_n, rr_bnl_s, rr_cond_t, rr_cond_f, rr_bcond_t, rr_bcond_f, rr_bon, rr_bcv, rr_cv, rr_g, rr_gr, rr_si, rr_sz, rr_sr, rr_al, rr_ld, rr_st, rr_rl, rr_rs, rr_ni, rr_nr, rr_z, rr_div, rr_rem, rr_lc, rr_mx, rr_mn, rr_ab, rr_no, gd_t, bc_t, bc_f, gd_tt, bc_tt, bc_ff, or_true, true_or, and_true, true_and, Nat.reduceAdd, f27, mo_b_s hpre]
              · rw [bc_f (fun z => d3 ⟨by omega, z.2⟩)] at e2
                simp (disch := omega) only [X7_loose_L58, rr_p, rr_bp, rr_bb, rr_0, rr_lt, rr_blt, rr_le, rr_ble, rr_eq, rr_beq, rr_nl_n, rr_nl_s, rr_bnl_n, rr_bnl_s, rr_cond_t, rr_cond_f, rr_bcond_t, rr_bcond_f, rr_bon, rr_bcv, rr_cv, rr_g, rr_gr, rr_si, rr_sz, rr_sr, rr_al, rr_ld, rr_st, rr_rl, rr_rs, rr_ni, rr_nr, rr_z, rr_div, rr_rem, rr_lc, rr_mx, rr_mn, rr_ab, rr_no, gd_t, bc_t, bc_f, gd_tt, bc_tt, bc_ff, or_true, true_or, and_true, true_and, Nat.reduceAdd, f27, mo_b_s hpre, mo_b_s e2]
            · have h1 := a4 q q1 q2
              have h2 : q ≠ a + sh - far := fun z => d1 ⟨by omega, by rw [← z]; exact q2⟩
              have h3 : q ≠ a + sh + far := fun z => d3 ⟨by omega, by rw [← z]; exact q2⟩
              dsimp only; omega
      · right
        exact ⟨fd, h', by simp (disch := omega) only [X7_loose_L58, rr_p, rr_bp, rr_bb, rr_0, rr_lt, rr_blt, rr_le, rr_ble, rr_eq, rr_beq, rr_nl_n, rr_nl_s, rr_bnl_n, rr_bnl_s, rr_cond_t, rr_cond_f, rr_bcond_t, rr_bcond_f, rr_bon, rr_bcv, rr_cv, rr_g, rr_gr, rr_si, rr_sz, rr_sr, rr_al, rr_ld, rr_st, rr_rl, rr_rs, rr_ni, rr_nr, rr_z, rr_div, rr_rem, rr_lc, rr_mx, rr_mn, rr_ab, rr_no, gd_t, bc_t, bc_f, gd_tt, bc_tt, bc_ff, or_true, true_or, and_true, true_and, Nat.reduceAdd], rfl, a5 c2⟩
    · right
      refine ⟨fd, h', by simp (disch := omega) only [X7_loose_L58, rr_p, rr_bp, rr_bb, rr_0, rr_lt, rr_blt, rr_le, rr_ble, rr_eq, rr_beq, rr_nl_n, rr_nl_s, rr_bnl_n, rr_bnl_s, rr_cond_t, rr_cond_f, rr_bcond_t, rr_bcond_f, rr_bon, rr_bcv, rr_cv, rr_g, rr_gr, rr_si, rr_sz, rr_sr, rr_al, rr_ld, rr_st, rr_rl, rr_rs, rr_ni, rr_nr, rr_z, rr_div, rr_rem, rr_lc, rr_mx, rr_mn, rr_ab, rr_no, gd_t, bc_t, bc_f, gd_tt, bc_tt, bc_ff, or_true, true_or, and_true, true_and, Nat.reduceAdd], rfl, ?_⟩
      by_cases c2 : fd = -1
      · left
        refine ⟨c2, fun q q1 q2 q3 => ?_⟩
        have := a4 c2 q q1 q3
        omega
      · exact a5 c2
/-- what comes of the model's loop -/
def loM (o : Option (Int × List Int)) (r : Int) (m : Nat) (h' : AH) (D : List Int) (z : List VR × List (List HK) × Nat) : Prop := match o with
  | none => r = -103 ∧ MI h' m (D, z)
  | some q => (14 < q.2.length ∧ r = -104 ∧ MI h' m (D, z)) ∨ (q.2.length ≤ 14 ∧ r = q.1 ∧ MI h' m (q.2, z))
theorem q7_loose {h : AH} {m p : Nat} {D : List Int} {V : List VR} {Q : List (List HK)} {d : Nat} (ho : OKS (D, V, Q, d)) (hM : MI h m (D, V, Q, d)) (hpl : p < Q.length) (hR : mRow h m D) : ∃ r h', mo_lp mo_N (X7_loose_L25 m (p : Int)) (0, 0, 0, 0) h = some (r, h') ∧ loM (looseW (pt Q p) D 0 0 0) r m h' D (V, Q, d) := by
  obtain ⟨⟨hD1, hD2⟩, oV, oQ, od⟩ := id ho
  dsimp only at hD1 hD2 oV oQ od
  have hOP := oQ.2 p hpl
  have oQ1 := oQ.1
  have hPV := OP_pV hOP (by omega)
  have hb := OQ_b oQ p hpl
  have hL := lp_inv (F := X7_loose_L25 m (p : Int)) (fun s h' => ∃ (n : Nat) (xs : List Int), s.2.2.2 = (n : Int) ∧ n ≤ (pt Q p).length ∧ looseW ((pt Q p).drop n) xs s.1 s.2.1 s.2.2.1 = looseW (pt Q p) D 0 0 0 ∧ mRow h' m xs ∧ pL xs ∧ (xs.length : Int) = (D.length : Int) + (hcs (pt Q p) n : Int) - (hgs (pt Q p) n : Int) ∧ s.1 ≤ 100 ∧ (n < (pt Q p).length → 0 ≤ (hk (pt Q p) n).1 + s.1) ∧ (0 ≤ s.2.1 ∧ s.2.1 ≤ 200) ∧ (0 ≤ s.2.2.1 ∧ s.2.2.1 ≤ 1000 * (n : Int)) ∧ MI h' m (D, V, Q, d)) (fun s => (100 - s.2.2.2).toNat) (fun r h' => loM (looseW (pt Q p) D 0 0 0) r m h' D (V, Q, d)) ?_ mo_N (0, 0, 0, 0) h ⟨0, D, rfl, by omega, rfl, hR, wL_pL hD2, by rw [hcs_0, hgs_0]; omega, by dsimp only; omega, fun z => by have := hOP.1.1 0 z; dsimp only; omega, by dsimp only; omega, by dsimp only; omega, hM⟩ (by rw [mo_N_v]; show (100 - (0 : Int)).toNat < 200000; omega)
  · obtain ⟨r, h', e, q⟩ := hL; exact ⟨r, h', e, q⟩
  · rintro ⟨sh, fr, al, y5⟩ h' ⟨n, xs, rfl, j1, j2, j3, j4, j5, j6, j7, j8, j9, j10⟩
    dsimp only at j2 j6 j7 j8 j9
    have hQ := MI_Q j10 ho (p := p) hpl
    dsimp only at hQ
    have mT := hQ.1.1
    have w1 := hQ.2.1.1
    have f27 := j3.1
    obtain ⟨p7, t7, n7⟩ := ms7 hQ.1
    obtain ⟨p8, t8, n8⟩ := ms8 hQ.1
    obtain ⟨p9, t9, n9⟩ := ms9 hQ.1
    obtain ⟨p10, t10, n10⟩ := ms10 hQ.1
    have s4 := @hcs_le (pt Q p) n
    by_cases hn : n < (pt Q p).length
    · obtain ⟨b1, b2, b3⟩ := mQ_a hQ (i := (n : Int)) (by omega) (by omega)
      rw [Int.toNat_natCast] at b1 b2 b3
      have j7 := j7 hn
      have hbb := (hOP.2.2.2.2 n hn).2.2
      have h0 := hOP.1.1 n hn
      obtain ⟨r, e1, hN⟩ := q7_search hQ hPV j3 j4 (by omega) hn (a := (hk (pt Q p) n).1) (sh := sh) (fr := fr) (by omega) (by omega)
      have hnr := nr_eq (by omega) hN
      rw [hkd_s hn, looseW, hnr] at j2
      have s1 := @hgs_s (pt Q p) n hn
      have s2 := @hgs_le (pt Q p) (n + 1)
      have s3 := @hcs_s (pt Q p) n hn
      have s5 := @hcs_le (pt Q p) (n + 1)
      by_cases hr : r = -1
      · right
        rw [bc_t hr] at j2
        refine ⟨-103, h', by simp (disch := omega) only [X7_loose_L25, rr_p, rr_bp, rr_bb, rr_0, rr_lt, rr_blt, rr_le, rr_ble, rr_eq, rr_beq, rr_nl_n, rr_nl_s, rr_bnl_n, rr_bnl_s, rr_cond_t, rr_cond_f, rr_bcond_t, rr_bcond_f, rr_bon, rr_bcv, rr_cv, rr_g, rr_gr, rr_si, rr_sz, rr_sr, rr_al, rr_ld, rr_st, rr_rl, rr_rs, rr_ni, rr_nr, rr_z, rr_div, rr_rem, rr_lc, rr_mx, rr_mn, rr_ab, rr_no, gd_t, bc_t, bc_f, gd_tt, bc_tt, bc_ff, or_true, true_or, and_true, true_and, Nat.reduceAdd, p7, p8, w1, b1, mo_b_s e1], ?_⟩
        rw [← j2]; exact ⟨rfl, j10⟩
      · left
        rw [bc_f hr] at j2
        obtain ⟨hN1, hN2, hN3⟩ : fr ≤ r ∧ r ≤ xs.length ∧ stW xs (hk (pt Q p) n).2.1 r := by
          rcases hN with z | z
          · exact absurd z.1 hr
          · exact ⟨z.1, z.2.1, z.2.2.1⟩
        have hst := hN3.1
        obtain ⟨h2, e2, r2, f2⟩ := q7_layHunk hQ j3 hn (a := r) (by omega) hst (by omega) (by omega)
        have hM2 := MI_fr j10 f2 (by omega)
        have hQ2 := MI_Q hM2 ho (p := p) hpl
        dsimp only at hQ2
        have mT2 := hQ2.1.1
        obtain ⟨pp9, tt9, nn9⟩ := ms9 hQ2.1
        obtain ⟨pp10, tt10, nn10⟩ := ms10 hQ2.1
        obtain ⟨c1, c2, c3⟩ := mQ_a hQ2 (i := (n : Int)) (by omega) (by omega)
        rw [Int.toNat_natCast] at c1 c2 c3
        have hlen := rpl_len (xs := xs) (c := (hk (pt Q p) n).2.2) (p := r) (n := (hk (pt Q p) n).2.1.length) (by omega)
        have hE : X7_loose_L25 m (p : Int) (sh, fr, al, (n : Int)) h' = some (.inl (sh + (((r - ((hk (pt Q p) n).1 + sh)) + ((hk (pt Q p) n).2.2.length : Int)) - ((hk (pt Q p) n).2.1.length : Int)), r + ((hk (pt Q p) n).2.2.length : Int) + 1, al + ((r - ((hk (pt Q p) n).1 + sh)).natAbs : Int), (n : Int) + 1), h2) := by
          by_cases hd : r - ((hk (pt Q p) n).1 + sh) < 0
          · rw [show ((r - ((hk (pt Q p) n).1 + sh)).natAbs : Int) = -(r - ((hk (pt Q p) n).1 + sh)) by omega]
            simp (disch := omega) only [X7_loose_L25, rr_p, rr_bp, rr_bb, rr_0, rr_lt, rr_blt, rr_le, rr_ble, rr_eq, rr_beq, rr_nl_n, rr_nl_s, rr_bnl_n, rr_bnl_s, rr_cond_t, rr_cond_f, rr_bcond_t, rr_bcond_f, rr_bon, rr_bcv, rr_cv, rr_g, rr_gr, rr_si, rr_sz, rr_sr, rr_al, rr_ld, rr_st, rr_rl, rr_rs, rr_ni, rr_nr, rr_z, rr_div, rr_rem, rr_lc, rr_mx, rr_mn, rr_ab, rr_no, gd_t, bc_t, bc_f, gd_tt, bc_tt, bc_ff, or_true, true_or, and_true, true_and, Nat.reduceAdd, p7, p8, w1, b1, mo_b_s e1, mo_b_s e2, pp9, pp10, c2, c3]
          · rw [show ((r - ((hk (pt Q p) n).1 + sh)).natAbs : Int) = r - ((hk (pt Q p) n).1 + sh) by omega]
            simp (disch := omega) only [X7_loose_L25, rr_p, rr_bp, rr_bb, rr_0, rr_lt, rr_blt, rr_le, rr_ble, rr_eq, rr_beq, rr_nl_n, rr_nl_s, rr_bnl_n, rr_bnl_s, rr_cond_t, rr_cond_f, rr_bcond_t, rr_bcond_f, rr_bon, rr_bcv, rr_cv, rr_g, rr_gr, rr_si, rr_sz, rr_sr, rr_al, rr_ld, rr_st, rr_rl, rr_rs, rr_ni, rr_nr, rr_z, rr_div, rr_rem, rr_lc, rr_mx, rr_mn, rr_ab, rr_no, gd_t, bc_t, bc_f, gd_tt, bc_tt, bc_ff, or_true, true_or, and_true, true_and, Nat.reduceAdd, p7, p8, w1, b1, mo_b_s e1, mo_b_s e2, pp9, pp10, c2, c3]
        refine ⟨_, h2, hE, ⟨n + 1, rpl xs r (hk (pt Q p) n).2.1.length (hk (pt Q p) n).2.2, by simp, by omega, j2, r2, pL_rpl j4 (hPV n).2.2, by omega, by dsimp only; omega, fun z => ?_, by dsimp only; omega, by dsimp only; omega, hM2⟩, by dsimp only; omega⟩
        have := hOP.1.2 n z
        dsimp only; omega
    · have hne : n = (pt Q p).length := by omega
      subst hne
      rw [List.drop_length, looseW] at j2
      right
      by_cases hc : xs.length ≤ 14
      · obtain ⟨h2, e2, M2, z2⟩ := q7_toDesk j10 j3 (by omega)
        refine ⟨al, h2, by simp (disch := omega) only [X7_loose_L25, rr_p, rr_bp, rr_bb, rr_0, rr_lt, rr_blt, rr_le, rr_ble, rr_eq, rr_beq, rr_nl_n, rr_nl_s, rr_bnl_n, rr_bnl_s, rr_cond_t, rr_cond_f, rr_bcond_t, rr_bcond_f, rr_bon, rr_bcv, rr_cv, rr_g, rr_gr, rr_si, rr_sz, rr_sr, rr_al, rr_ld, rr_st, rr_rl, rr_rs, rr_ni, rr_nr, rr_z, rr_div, rr_rem, rr_lc, rr_mx, rr_mn, rr_ab, rr_no, gd_t, bc_t, bc_f, gd_tt, bc_tt, bc_ff, or_true, true_or, and_true, true_and, Nat.reduceAdd, p7, w1, f27, mo_b_s e2], ?_⟩
        rw [← j2]
        exact Or.inr ⟨hc, rfl, M2⟩
      · refine ⟨-104, h', by simp (disch := omega) only [X7_loose_L25, rr_p, rr_bp, rr_bb, rr_0, rr_lt, rr_blt, rr_le, rr_ble, rr_eq, rr_beq, rr_nl_n, rr_nl_s, rr_bnl_n, rr_bnl_s, rr_cond_t, rr_cond_f, rr_bcond_t, rr_bcond_f, rr_bon, rr_bcv, rr_cv, rr_g, rr_gr, rr_si, rr_sz, rr_sr, rr_al, rr_ld, rr_st, rr_rl, rr_rs, rr_ni, rr_nr, rr_z, rr_div, rr_rem, rr_lc, rr_mx, rr_mn, rr_ab, rr_no, gd_t, bc_t, bc_f, gd_tt, bc_tt, bc_ff, or_true, true_or, and_true, true_and, Nat.reduceAdd, p7, w1, f27], ?_⟩
        rw [← j2]
        exact Or.inl ⟨by dsimp only; omega, rfl, j10⟩
theorem c_loose (p : Int) (hp : am_r p) (s : SG) (ho : OKS s) : CJ (fun x => X6_loose x p) (fun m => X7_loose m p) s := by
  obtain ⟨D, V, Q, d⟩ := s
  obtain ⟨⟨hD1, hD2⟩, oV, oQ, od⟩ := id ho
  dsimp only at hD1 hD2 oV oQ od
  have oQ1 := oQ.1
  have hp2 := hp
  unfold am_r at hp
  by_cases c1 : 0 ≤ p ∧ p < Q.length
  · obtain ⟨pn, rfl⟩ := Int.eq_ofNat_of_zero_le c1.1
    have hpl : pn < Q.length := by omega
    have hOP := oQ.2 pn hpl
    have hPV := OP_pV hOP (by omega)
    have hl3 := hOP.2.2.2.1
    -- the class
    have kk : ∀ x h, KI h x (D, V, Q, d) → ∃ r h1, KI h1 x (D, V, Q, d) ∧ loR (looseW (pt Q pn) D 0 0 0) r (fun zs => kR h1 (x + 3) zs) ∧ ah_N h1 (x + 4) = 42 ∧ (r = -1 → X6_loose x (pn : Int) h = some (-103, h1)) ∧ (r ≠ -1 → -1 ≤ r ∧ r ≤ 2147483647 → ∀ q h2, -2147483648 ≤ q ∧ q ≤ 2147483647 → X6_takeTrialToDesk x h1 = some (q, h2) → X6_loose x (pn : Int) h = some (if q = -104 then -104 else r, h2)) := by
      intro x h hK
      obtain ⟨hR, nD, hSc, A, B, hB⟩ := id hK
      obtain ⟨⟨o1, ⟨p0, p1, p2, p4, p6, p7, p8, p9, p10, p11, p12⟩, o3, o4, o5, o6, o7, o8, o9⟩, ⟨f3, f5, f13⟩, hA, hQ, hM, hX⟩ := id hB
      dsimp only at hR hB hQ
      have tR := hR.1
      have e1 := q6_patchOrNull hB oQ1 hp2
      rw [if_pos c1, Int.toNat_natCast] at e1
      obtain ⟨y1, y2, y3, y4⟩ := hQ pn hpl
      obtain ⟨ts, hT⟩ := hSc.1
      have nT := hSc.2.1
      have tT := hT.1
      obtain ⟨h1, e2, r2, g2⟩ := q4_become hT hR (by omega) (by rw [show x + 3 + 1 = x + 4 by omega, nT]; omega)
      have hSc1 := KSc_tr hSc g2 r2
      have hK1 := KI_scr hK g2 (by omega) hSc1
      have y5 := kP_fr y2 g2 (by omega)
      have t5 := y5.1.1.1
      obtain ⟨r, h3, e3, g3, hlo⟩ := q3_layLooselyOn y5 hPV r2 (wL_pL hD2) (by omega) (by rw [show x + 3 + 1 = x + 4 by omega, g2.2.1, nT]; omega)
      have hzs : ∃ zs, kR h3 (x + 3) zs := by
        cases ho3 : looseW (pt Q pn) D 0 0 0 with
        | none => rw [ho3] at hlo; obtain ⟨z1, zs, z2⟩ := hlo; exact ⟨zs, z2.1⟩
        | some q => rw [ho3] at hlo; exact ⟨q.2, hlo.2.2.1⟩
      obtain ⟨zs, hz⟩ := hzs
      have hK3 := KI_scr hK1 g3 (by omega) (KSc_tr hSc1 g3 hz)
      have tx1 : ah_T h1 x = 16 := by rw [g2.1]; exact o1
      have px1 : ah_P h1 x 1 = some (x + 3) := by rw [g2.2.2.1]; exact p1
      have tx3 : ah_T h3 x = 16 := by rw [g3.1]; exact tx1
      refine ⟨r, h3, hK3, ?_, by rw [g3.2.1, g2.2.1]; exact nT, fun hr => ?_, fun hr hr2 q h4 hq e4 => ?_⟩
      · cases ho3 : looseW (pt Q pn) D 0 0 0 with
        | none => rw [ho3] at hlo; obtain ⟨z1, zs, z2⟩ := hlo; exact ⟨z1, zs, z2.1⟩
        | some q => rw [ho3] at hlo; exact ⟨hlo.1, hlo.2.1, hlo.2.2.1⟩
      · simp (disch := omega) only [X6_loose, rr_p, rr_bp, rr_bb, rr_0, rr_lt, rr_blt, rr_le, rr_ble, rr_eq, rr_beq, rr_nl_n, rr_nl_s, rr_bnl_n, rr_bnl_s, rr_cond_t, rr_cond_f, rr_bcond_t, rr_bcond_f, rr_bon, rr_bcv, rr_cv, rr_g, rr_gr, rr_si, rr_sz, rr_sr, rr_al, rr_ld, rr_st, rr_rl, rr_rs, rr_ni, rr_nr, rr_z, rr_div, rr_rem, rr_lc, rr_mx, rr_mn, rr_ab, rr_no, gd_t, bc_t, bc_f, gd_tt, bc_tt, bc_ff, or_true, true_or, and_true, true_and, Nat.reduceAdd, p0, p1, px1, mo_b_s e1, mo_b_s e2, mo_b_s e3]
      · by_cases hq2 : q = -104
        · rw [if_pos hq2]
          simp (disch := omega) only [X6_loose, rr_p, rr_bp, rr_bb, rr_0, rr_lt, rr_blt, rr_le, rr_ble, rr_eq, rr_beq, rr_nl_n, rr_nl_s, rr_bnl_n, rr_bnl_s, rr_cond_t, rr_cond_f, rr_bcond_t, rr_bcond_f, rr_bon, rr_bcv, rr_cv, rr_g, rr_gr, rr_si, rr_sz, rr_sr, rr_al, rr_ld, rr_st, rr_rl, rr_rs, rr_ni, rr_nr, rr_z, rr_div, rr_rem, rr_lc, rr_mx, rr_mn, rr_ab, rr_no, gd_t, bc_t, bc_f, gd_tt, bc_tt, bc_ff, or_true, true_or, and_true, true_and, Nat.reduceAdd, p0, p1, px1, mo_b_s e1, mo_b_s e2, mo_b_s e3, mo_b_s e4]
        · rw [if_neg hq2]
          simp (disch := omega) only [X6_loose, rr_p, rr_bp, rr_bb, rr_0, rr_lt, rr_blt, rr_le, rr_ble, rr_eq, rr_beq, rr_nl_n, rr_nl_s, rr_bnl_n, rr_bnl_s, rr_cond_t, rr_cond_f, rr_bcond_t, rr_bcond_f, rr_bon, rr_bcv, rr_cv, rr_g, rr_gr, rr_si, rr_sz, rr_sr, rr_al, rr_ld, rr_st, rr_rl, rr_rs, rr_ni, rr_nr, rr_z, rr_div, rr_rem, rr_lc, rr_mx, rr_mn, rr_ab, rr_no, gd_t, bc_t, bc_f, gd_tt, bc_tt, bc_ff, or_true, true_or, and_true, true_and, Nat.reduceAdd, p0, p1, px1, mo_b_s e1, mo_b_s e2, mo_b_s e3, mo_b_s e4]
    -- the model
    have mm : ∀ m h, MI h m (D, V, Q, d) → ∃ r h1, X7_loose m (pn : Int) h = some (r, h1) ∧ loM (looseW (pt Q pn) D 0 0 0) r m h1 D (V, Q, d) := by
      intro m h hM
      have mT := hM.1.1
      have e1 := q7_isPatch hM oQ1 hp2
      dsimp only at e1
      rw [bc_t c1] at e1
      obtain ⟨h1, e2, r2, f2⟩ := q7_workOnDesk (D := D) hM.1 hM.2.1 hD1
      have hM1 := MI_fr hM f2 (by omega)
      have mT1 := hM1.1.1
      obtain ⟨r, h3, e3, q3⟩ := q7_loose ho hM1 hpl r2
      exact ⟨r, h3, by simp (disch := omega) only [X7_loose, rr_p, rr_bp, rr_bb, rr_0, rr_lt, rr_blt, rr_le, rr_ble, rr_eq, rr_beq, rr_nl_n, rr_nl_s, rr_bnl_n, rr_bnl_s, rr_cond_t, rr_cond_f, rr_bcond_t, rr_bcond_f, rr_bon, rr_bcv, rr_cv, rr_g, rr_gr, rr_si, rr_sz, rr_sr, rr_al, rr_ld, rr_st, rr_rl, rr_rs, rr_ni, rr_nr, rr_z, rr_div, rr_rem, rr_lc, rr_mx, rr_mn, rr_ab, rr_no, gd_t, bc_t, bc_f, gd_tt, bc_tt, bc_ff, or_true, true_or, and_true, true_and, Nat.reduceAdd, mo_b_s e1, mo_b_s e2, e3], q3⟩
    cases hlo : looseW (pt Q pn) D 0 0 0 with
    | none =>
      rw [hlo] at kk mm
      refine ⟨-103, (D, V, Q, d), ho, ?_, ?_⟩
      · intro x h hK
        obtain ⟨r, h1, K1, L1, N1, E1, -⟩ := kk x h hK
        exact ⟨h1, E1 L1.1, K1⟩
      · intro m h hM
        obtain ⟨r, h1, E1, z1, z2⟩ := mm m h hM
        rw [z1] at E1
        exact ⟨h1, E1, z2⟩
    | some o =>
      obtain ⟨mv, zs⟩ := o
      have hwl : wL zs := looseW_wL hD2 (fun q hq => by
        obtain ⟨i, hi, e⟩ := mem_hk hq
        rw [← e]; exact (hOP.2.2.2.2 i hi).2.1) hlo
      rw [hlo] at kk mm
      by_cases cl : zs.length ≤ 14
      · refine ⟨mv, (zs, V, Q, d), ⟨⟨cl, hwl⟩, oV, oQ, od⟩, ?_, ?_⟩
        · intro x h hK
          obtain ⟨r, h1, K1, ⟨L1, L2, L3⟩, N1, -, E1⟩ := kk x h hK
          dsimp only at L1 L2 L3
          obtain ⟨h2, e2, K2⟩ := (q6_takeTrial K1 L3 (by omega)).2 cl
          have := E1 (by omega) (by omega) _ h2 (by omega) e2
          rw [if_neg (by omega), L1] at this
          exact ⟨h2, this, K2⟩
        · intro m h hM
          obtain ⟨r, h1, E1, ⟨z0, z1, z2⟩ | ⟨z0, z1, z2⟩⟩ := mm m h hM
          · dsimp only at z0; omega
          · rw [z1] at E1; exact ⟨h1, E1, z2⟩
      · refine ⟨-104, (D, V, Q, d), ho, ?_, ?_⟩
        · intro x h hK
          obtain ⟨r, h1, K1, ⟨L1, L2, L3⟩, N1, -, E1⟩ := kk x h hK
          dsimp only at L1 L2 L3
          have hlz := L3.2.2.2.2.1
          rw [show x + 3 + 1 = x + 4 by omega, N1] at hlz
          have e2 := (q6_takeTrial K1 L3 (by omega)).1 (by omega)
          have := E1 (by omega) (by omega) _ h1 (by omega) e2
          rw [if_pos rfl] at this
          exact ⟨h1, this, K1⟩
        · intro m h hM
          obtain ⟨r, h1, E1, ⟨z0, z1, z2⟩ | ⟨z0, z1, z2⟩⟩ := mm m h hM
          · rw [z1] at E1; exact ⟨h1, E1, z2⟩
          · dsimp only at z0; omega
  · refine CJ.same (-101) ho ?_ ?_
    · intro x h hK
      obtain ⟨hR, nD, hSc, A, B, hB⟩ := id hK
      obtain ⟨⟨o1, ⟨p0, p1, p2, p4, p6, p7, p8, p9, p10, p11, p12⟩, o3, o4, o5, o6, o7, o8, o9⟩, ⟨f3, f5, f13⟩, hA, hQ, hM, hX⟩ := id hB
      have e1 := q6_patchOrNull hB oQ1 hp2
      rw [if_neg c1] at e1
      simp (disch := omega) only [X6_loose, rr_p, rr_bp, rr_bb, rr_0, rr_lt, rr_blt, rr_le, rr_ble, rr_eq, rr_beq, rr_nl_n, rr_nl_s, rr_bnl_n, rr_bnl_s, rr_cond_t, rr_cond_f, rr_bcond_t, rr_bcond_f, rr_bon, rr_bcv, rr_cv, rr_g, rr_gr, rr_si, rr_sz, rr_sr, rr_al, rr_ld, rr_st, rr_rl, rr_rs, rr_ni, rr_nr, rr_z, rr_div, rr_rem, rr_lc, rr_mx, rr_mn, rr_ab, rr_no, gd_t, bc_t, bc_f, gd_tt, bc_tt, bc_ff, or_true, true_or, and_true, true_and, Nat.reduceAdd, mo_b_s e1]
    · intro m h hM
      have mT := hM.1.1
      have e1 := q7_isPatch hM oQ1 hp2
      dsimp only at e1
      rw [bc_f c1] at e1
      simp (disch := omega) only [X7_loose, rr_p, rr_bp, rr_bb, rr_0, rr_lt, rr_blt, rr_le, rr_ble, rr_eq, rr_beq, rr_nl_n, rr_nl_s, rr_bnl_n, rr_bnl_s, rr_cond_t, rr_cond_f, rr_bcond_t, rr_bcond_f, rr_bon, rr_bcv, rr_cv, rr_g, rr_gr, rr_si, rr_sz, rr_sr, rr_al, rr_ld, rr_st, rr_rl, rr_rs, rr_ni, rr_nr, rr_z, rr_div, rr_rem, rr_lc, rr_mx, rr_mn, rr_ab, rr_no, gd_t, bc_t, bc_f, gd_tt, bc_tt, bc_ff, or_true, true_or, and_true, true_and, Nat.reduceAdd, mo_b_s e1]
