theorem q_jc {h : AH} {m i j a : Nat} {n : Nat} {P Q : List HK} (hW : xW h m P Q) (hi : i ≤ P.length) (hj : j ≤ Q.length) (ha : a ≤ 100) (hn : n ≤ 100) : j_c m (i : Int) (j : Int) (a : Int) (n : Int) h = some (br (a < n ∨ i < P.length ∨ j < Q.length) true false, h) := by
  obtain ⟨hS, ⟨x1, x2, x3⟩, ⟨⟨y1, y2, y3⟩, y4, y5, y6⟩, ⟨l1, l2, l3⟩, ⟨k1, k2, k3⟩⟩ := id hW
  have mT := hS.1
  by_cases c1 : a < n
  · rw [bc_t (Or.inl c1)]; simp (disch := omega) only [j_c, rr_p, rr_bp, rr_bb, rr_0, rr_lt, rr_blt, rr_le, rr_ble, rr_eq, rr_beq, rr_nl_n, rr_nl_s, rr_bnl_n, rr_bnl_s, rr_cond_t, rr_cond_f, rr_bcond_t, rr_bcond_f, rr_bon, rr_bcv, rr_cv, rr_g, rr_gr, rr_si, rr_sz, rr_sr, rr_al, rr_ld, rr_st, rr_rl, rr_rs, rr_ni, rr_nr, rr_z, rr_div, rr_rem, rr_lc, rr_mx, rr_mn, rr_ab, rr_no, gd_t, bc_t, bc_f, gd_tt, bc_tt, bc_ff, or_true, true_or, and_true, true_and, Nat.reduceAdd]
  · by_cases c2 : i < P.length
    · rw [bc_t (Or.inr (Or.inl c2))]; simp (disch := omega) only [j_c, rr_p, rr_bp, rr_bb, rr_0, rr_lt, rr_blt, rr_le, rr_ble, rr_eq, rr_beq, rr_nl_n, rr_nl_s, rr_bnl_n, rr_bnl_s, rr_cond_t, rr_cond_f, rr_bcond_t, rr_bcond_f, rr_bon, rr_bcv, rr_cv, rr_g, rr_gr, rr_si, rr_sz, rr_sr, rr_al, rr_ld, rr_st, rr_rl, rr_rs, rr_ni, rr_nr, rr_z, rr_div, rr_rem, rr_lc, rr_mx, rr_mn, rr_ab, rr_no, gd_t, bc_t, bc_f, gd_tt, bc_tt, bc_ff, or_true, true_or, and_true, true_and, Nat.reduceAdd, x1]
    · by_cases c3 : j < Q.length
      · rw [bc_t (Or.inr (Or.inr c3))]; simp (disch := omega) only [j_c, rr_p, rr_bp, rr_bb, rr_0, rr_lt, rr_blt, rr_le, rr_ble, rr_eq, rr_beq, rr_nl_n, rr_nl_s, rr_bnl_n, rr_bnl_s, rr_cond_t, rr_cond_f, rr_bcond_t, rr_bcond_f, rr_bon, rr_bcv, rr_cv, rr_g, rr_gr, rr_si, rr_sz, rr_sr, rr_al, rr_ld, rr_st, rr_rl, rr_rs, rr_ni, rr_nr, rr_z, rr_div, rr_rem, rr_lc, rr_mx, rr_mn, rr_ab, rr_no, gd_t, bc_t, bc_f, gd_tt, bc_tt, bc_ff, or_true, true_or, and_true, true_and, Nat.reduceAdd, x1, y1]
      · rw [bc_f (by omega)]; simp (disch := omega) only [j_c, rr_p, rr_bp, rr_bb, rr_0, rr_lt, rr_blt, rr_le, rr_ble, rr_eq, rr_beq, rr_nl_n, rr_nl_s, rr_bnl_n, rr_bnl_s, rr_cond_t, rr_cond_f, rr_bcond_t, rr_bcond_f, rr_bon, rr_bcv, rr_cv, rr_g, rr_gr, rr_si, rr_sz, rr_sr, rr_al, rr_ld, rr_st, rr_rl, rr_rs, rr_ni, rr_nr, rr_z, rr_div, rr_rem, rr_lc, rr_mx, rr_mn, rr_ab, rr_no, gd_t, bc_t, bc_f, gd_tt, bc_tt, bc_ff, or_true, true_or, and_true, true_and, Nat.reduceAdd, x1, y1]
def jI (h0 : AH) (m : Nat) (P Q : List HK) (xs : List Int) (e : Int) (i j a : Nat) (r : List Int) (h' : AH) : Prop := (i ≤ P.length ∧ j ≤ Q.length ∧ a ≤ xs.length) ∧ (i < P.length → (a : Int) + e ≤ (hk P i).1) ∧ (j < Q.length → (a : Int) + e ≤ (hk Q j).1) ∧ r ++ layW xs (a : Int) (un (P.drop i) (Q.drop j)) = layW xs 0 (un P Q) ∧ mRow h' m r ∧ MF m 20 21 27 28 h0 h'
theorem q_jhalf {h0 h : AH} {m i j a : Nat} {b : Int} {P Q : List HK} {r xs : List Int} (hW : xW h0 m P Q) (hB : mBase h0 m b xs) (vP : pV P) (vQ : pV Q) (sP : sW P) (sQ : sW Q) (lx : xs.length ≤ 14) (hl : (layW xs 0 (un P Q)).length ≤ 60) (hI : jI h0 m P Q xs 1 i j a r h) : (a < xs.length → ∃ r' h', j_r m b (i : Int) (j : Int) (a : Int) h = some (.inl ((i : Int), (j : Int), ((a + 1 : Nat) : Int)), h') ∧ jI h0 m P Q xs 0 i j (a + 1) r' h') ∧ (¬ a < xs.length → j_r m b (i : Int) (j : Int) (a : Int) h = some (.inl ((i : Int), (j : Int), (a : Int)), h)) := by
  obtain ⟨⟨hi, hj, ha⟩, hp, hq, hr, hR, hf⟩ := hI
  have lr : r.length ≤ 60 := by have := congrArg List.length hr; rw [List.length_append] at this; omega
  obtain ⟨c1, c2⟩ := q_jr (xW_fr hW hf (by omega)) hR (mBase_fr hB hf (by omega)) vP vQ lx lr hi hj ha (fun z => by have := hp z; omega) (fun z => by have := hq z; omega)
  refine ⟨fun c => ?_, c2⟩
  obtain ⟨m1, m2⟩ := mRow_push hR (v := xs.getD a 0)
  refine ⟨r ++ [xs.getD a 0], _, by rw [Int.natCast_add, Int.natCast_one]; exact c1 c, ⟨hi, hj, by omega⟩, fun z => by have := hp z; omega, fun z => by have := hq z; omega, ?_, m1, hf.tr m2 (by omega)⟩
  rw [← hr, layW_copy c (fun q hq1 => ?_), List.append_assoc, Int.natCast_add, Int.natCast_one]
  · rfl
  · rcases un_mem (P := P) (Q := Q) _ _ _ (Nat.le_refl _) q hq1 with z | z
    · exact mem_drop_at sP (fun y => by have := hp y; omega) q z
    · exact mem_drop_at sQ (fun y => by have := hq y; omega) q z
theorem q7_joinWalk {h : AH} {m : Nat} {b : Int} {P Q : List HK} {xs : List Int} (hW : xW h m P Q) (hR : mRow h m []) (hB : mBase h m b xs) (vP : pV P) (vQ : pV Q) (sP : sW P) (sQ : sW Q) (hC : nC P Q) (lx : xs.length ≤ 14) (hl : (layW xs 0 (un P Q)).length ≤ 60) (fP : ∀ i : Nat, i < P.length → (hk P i).1 + (hk P i).2.1.length ≤ xs.length) (fQ : ∀ i : Nat, i < Q.length → (hk Q i).1 + (hk Q i).2.1.length ≤ xs.length) : ∃ h', mo_lp mo_N (X7_join_L40 m b) (0, 0, 0) h = some ((), h') ∧ mRow h' m (layW xs 0 (un P Q)) ∧ MF m 20 21 27 28 h h' := by
  have hL := lp_inv (F := X7_join_L40 m b) (fun s h' => ∃ (i j a : Nat) (r : List Int), s = ((i : Int), (j : Int), (a : Int)) ∧ jI h m P Q xs 0 i j a r h') (fun s => ((P.length : Int) + (Q.length : Int) + (xs.length : Int) - s.1 - s.2.1 - s.2.2).toNat) (fun _ h' => mRow h' m (layW xs 0 (un P Q)) ∧ MF m 20 21 27 28 h h') ?_ mo_N (0, 0, 0) h ⟨0, 0, 0, [], rfl, ⟨by omega, by omega, by omega⟩, fun z => by have := sP.1 0 z; omega, fun z => by have := sQ.1 0 z; omega, by simp, hR, MF.rf⟩ (by rw [mo_N_v]; dsimp only; have := hW.2.2.2.1.1; have := hW.2.2.2.2.1; omega)
  · obtain ⟨_, h', e, q⟩ := hL; exact ⟨h', e, q⟩
  · rintro s h' ⟨i, j, a, r, rfl, hI⟩
    obtain ⟨⟨hi, hj, ha⟩, hp, hq, hr, hRr, hf⟩ := id hI
    have hW' := xW_fr hW hf (by omega)
    have hB' := mBase_fr hB hf (by omega)
    have mT := hW'.1.1
    obtain ⟨pp2, tt2, nn2⟩ := ms2 hW'.1
    have x1 := hW'.2.1.1
    have y1 := hW'.2.2.1.1.1
    obtain ⟨⟨b1, b2⟩, b3, b4⟩ := id hB'
    have lr : r.length ≤ 60 := by have := congrArg List.length hr; rw [List.length_append] at this; omega
    have ec := q_jc (n := xs.length) hW' hi hj (a := a) (by omega) (by omega)
    have em := q_jm hW' vP hi (a := a) (by omega)
    have eo := q_jo hW' vQ hj (a := a) (by omega)
    by_cases cc : a < xs.length ∨ i < P.length ∨ j < Q.length
    · left
      rw [bc_t cc] at ec
      by_cases cm : i < P.length ∧ (hk P i).1 = (a : Int)
      · rw [bc_t cm] at em
        have fp := fP i cm.1
        by_cases co : j < Q.length ∧ (hk Q j).1 = (a : Int)
        · rw [bc_t co] at eo
          have he : hk P i = hk Q j := hC _ (hk_mem cm.1) _ (hk_mem co.1) ⟨by omega, by omega⟩
          obtain ⟨h1, e1, r1, f1⟩ := q_jh1 (a := a) (o := 1) hW' hRr lr cm.1 hj (by omega)
          have J1 : jI h m P Q xs 1 (i + 1) (j + 1) (a + (hk P i).2.1.length) (r ++ (hk P i).2.2) h1 := by
            refine ⟨⟨by omega, by omega, by omega⟩, fun z => ?_, fun z => ?_, ?_, r1, hf.tr f1 (by omega)⟩
            · have := sP.2 i z; omega
            · have := sQ.2 j z; rw [← he] at this; omega
            · rw [← hr, un_eq cm.1 co.1 (by omega), layW_at (by omega) cm.2, List.append_assoc, Int.natCast_add]
          have e2 : X7_join_L40 m b ((i : Int), (j : Int), (a : Int)) h' = j_r m b ((i + 1 : Nat) : Int) ((j + 1 : Nat) : Int) ((a + (hk P i).2.1.length : Nat) : Int) h1 := by
            rw [j_eq]
            simp (disch := omega) only [rr_p, rr_bp, rr_bb, rr_0, rr_lt, rr_blt, rr_le, rr_ble, rr_eq, rr_beq, rr_nl_n, rr_nl_s, rr_bnl_n, rr_bnl_s, rr_cond_t, rr_cond_f, rr_bcond_t, rr_bcond_f, rr_bon, rr_bcv, rr_cv, rr_g, rr_gr, rr_si, rr_sz, rr_sr, rr_al, rr_ld, rr_st, rr_rl, rr_rs, rr_ni, rr_nr, rr_z, rr_div, rr_rem, rr_lc, rr_mx, rr_mn, rr_ab, rr_no, gd_t, bc_t, bc_f, gd_tt, bc_tt, bc_ff, or_true, true_or, and_true, true_and, Nat.reduceAdd, pp2, b3, mo_b_s ec, x1, mo_b_s em, y1, mo_b_s eo, mo_b_s e1, Int.natCast_add, Int.natCast_one]
          obtain ⟨d1, d2⟩ := q_jhalf hW hB vP vQ sP sQ lx hl J1
          by_cases ca : a + (hk P i).2.1.length < xs.length
          · obtain ⟨r', h2, e3, J2⟩ := d1 ca
            exact ⟨_, h2, e2.trans e3, ⟨_, _, _, _, rfl, J2⟩, by dsimp only; omega⟩
          · exact ⟨_, h1, e2.trans (d2 ca), ⟨i + 1, j + 1, a + (hk P i).2.1.length, _, rfl, J1.1, fun z => by have := J1.2.1 z; omega, fun z => by have := J1.2.2.1 z; omega, J1.2.2.2⟩, by dsimp only; omega⟩
        · rw [bc_f co] at eo
          have hq2 : j < Q.length → (a : Int) + (hk P i).2.1.length + 1 ≤ (hk Q j).1 := by
            intro z
            have h1 := hq z
            by_cases c3 : (hk Q j).1 ≤ (hk P i).1 + ((hk P i).2.1.length : Int)
            · have he : hk P i = hk Q j := hC _ (hk_mem cm.1) _ (hk_mem z) ⟨by omega, c3⟩
              exact absurd ⟨z, by rw [← he]; exact cm.2⟩ co
            · omega
          obtain ⟨h1, e1, r1, f1⟩ := q_jh1 (a := a) (o := 0) hW' hRr lr cm.1 hj (by omega)
          rw [Int.add_zero] at e1
          have J1 : jI h m P Q xs 1 (i + 1) j (a + (hk P i).2.1.length) (r ++ (hk P i).2.2) h1 := by
            refine ⟨⟨by omega, by omega, by omega⟩, fun z => ?_, fun z => ?_, ?_, r1, hf.tr f1 (by omega)⟩
            · have := sP.2 i z; omega
            · have := hq2 z; omega
            · rw [← hr, un_lt cm.1 (fun z => by have := hq2 z; omega), layW_at (by omega) cm.2, List.append_assoc, Int.natCast_add]
          have e2 : X7_join_L40 m b ((i : Int), (j : Int), (a : Int)) h' = j_r m b ((i + 1 : Nat) : Int) (j : Int) ((a + (hk P i).2.1.length : Nat) : Int) h1 := by
            rw [j_eq]
            simp (disch := omega) only [rr_p, rr_bp, rr_bb, rr_0, rr_lt, rr_blt, rr_le, rr_ble, rr_eq, rr_beq, rr_nl_n, rr_nl_s, rr_bnl_n, rr_bnl_s, rr_cond_t, rr_cond_f, rr_bcond_t, rr_bcond_f, rr_bon, rr_bcv, rr_cv, rr_g, rr_gr, rr_si, rr_sz, rr_sr, rr_al, rr_ld, rr_st, rr_rl, rr_rs, rr_ni, rr_nr, rr_z, rr_div, rr_rem, rr_lc, rr_mx, rr_mn, rr_ab, rr_no, gd_t, bc_t, bc_f, gd_tt, bc_tt, bc_ff, or_true, true_or, and_true, true_and, Nat.reduceAdd, pp2, b3, mo_b_s ec, x1, mo_b_s em, y1, mo_b_s eo, mo_b_s e1, Int.natCast_add, Int.natCast_one]
          obtain ⟨d1, d2⟩ := q_jhalf hW hB vP vQ sP sQ lx hl J1
          by_cases ca : a + (hk P i).2.1.length < xs.length
          · obtain ⟨r', h2, e3, J2⟩ := d1 ca
            exact ⟨_, h2, e2.trans e3, ⟨_, _, _, _, rfl, J2⟩, by dsimp only; omega⟩
          · exact ⟨_, h1, e2.trans (d2 ca), ⟨i + 1, j, a + (hk P i).2.1.length, _, rfl, J1.1, fun z => by have := J1.2.1 z; omega, fun z => by have := J1.2.2.1 z; omega, J1.2.2.2⟩, by dsimp only; omega⟩
      · rw [bc_f cm] at em
        by_cases co : j < Q.length ∧ (hk Q j).1 = (a : Int)
        · rw [bc_t co] at eo
          have fq := fQ j co.1
          have hp2 : i < P.length → (a : Int) + (hk Q j).2.1.length + 1 ≤ (hk P i).1 := by
            intro z
            have h1 := hp z
            by_cases c3 : (hk P i).1 ≤ (hk Q j).1 + ((hk Q j).2.1.length : Int)
            · have he : hk P i = hk Q j := hC _ (hk_mem z) _ (hk_mem co.1) ⟨c3, by omega⟩
              exact absurd ⟨z, by rw [he]; exact co.2⟩ cm
            · omega
          obtain ⟨h1, e1, r1, f1⟩ := q_jh2 (a := a) hW' hRr lr hi co.1
          have J1 : jI h m P Q xs 1 i (j + 1) (a + (hk Q j).2.1.length) (r ++ (hk Q j).2.2) h1 := by
            refine ⟨⟨by omega, by omega, by omega⟩, fun z => ?_, fun z => ?_, ?_, r1, hf.tr f1 (by omega)⟩
            · have := hp2 z; omega
            · have := sQ.2 j z; omega
            · rw [← hr, un_gt co.1 (fun z => by have := hp2 z; omega), layW_at (by omega) co.2, List.append_assoc, Int.natCast_add]
          have e2 : X7_join_L40 m b ((i : Int), (j : Int), (a : Int)) h' = j_r m b (i : Int) ((j + 1 : Nat) : Int) ((a + (hk Q j).2.1.length : Nat) : Int) h1 := by
            rw [j_eq]
            simp (disch := omega) only [rr_p, rr_bp, rr_bb, rr_0, rr_lt, rr_blt, rr_le, rr_ble, rr_eq, rr_beq, rr_nl_n, rr_nl_s, rr_bnl_n, rr_bnl_s, rr_cond_t, rr_cond_f, rr_bcond_t, rr_bcond_f, rr_bon, rr_bcv, rr_cv, rr_g, rr_gr, rr_si, rr_sz, rr_sr, rr_al, rr_ld, rr_st, rr_rl, rr_rs, rr_ni, rr_nr, rr_z, rr_div, rr_rem, rr_lc, rr_mx, rr_mn, rr_ab, rr_no, gd_t, bc_t, bc_f, gd_tt, bc_tt, bc_ff, or_true, true_or, and_true, true_and, Nat.reduceAdd, pp2, b3, mo_b_s ec, x1, mo_b_s em, y1, mo_b_s eo, mo_b_s e1, Int.natCast_add, Int.natCast_one]
          obtain ⟨d1, d2⟩ := q_jhalf hW hB vP vQ sP sQ lx hl J1
          by_cases ca : a + (hk Q j).2.1.length < xs.length
          · obtain ⟨r', h2, e3, J2⟩ := d1 ca
            exact ⟨_, h2, e2.trans e3, ⟨_, _, _, _, rfl, J2⟩, by dsimp only; omega⟩
          · exact ⟨_, h1, e2.trans (d2 ca), ⟨i, j + 1, a + (hk Q j).2.1.length, _, rfl, J1.1, fun z => by have := J1.2.1 z; omega, fun z => by have := J1.2.2.1 z; omega, J1.2.2.2⟩, by dsimp only; omega⟩
        · rw [bc_f co] at eo
          have hp2 : i < P.length → (a : Int) + 1 ≤ (hk P i).1 := by
            intro z
            have h1 := hp z
            by_cases c3 : (hk P i).1 = (a : Int)
            · exact absurd ⟨z, c3⟩ cm
            · omega
          have hq2 : j < Q.length → (a : Int) + 1 ≤ (hk Q j).1 := by
            intro z
            have h1 := hq z
            by_cases c3 : (hk Q j).1 = (a : Int)
            · exact absurd ⟨z, c3⟩ co
            · omega
          have ca : a < xs.length := by
            rcases cc with c | c | c
            · exact c
            · have := hp2 c; have := fP i c; omega
            · have := hq2 c; have := fQ j c; omega
          have J1 : jI h m P Q xs 1 i j a r h' := ⟨⟨hi, hj, ha⟩, hp2, hq2, hr, hRr, hf⟩
          have e1 : j_h m (i : Int) (j : Int) (a : Int) 0 0 h' = some (((i : Int), (j : Int), (a : Int)), h') := by simp (disch := omega) only [j_h, rr_p, rr_bp, rr_bb, rr_0, rr_lt, rr_blt, rr_le, rr_ble, rr_eq, rr_beq, rr_nl_n, rr_nl_s, rr_bnl_n, rr_bnl_s, rr_cond_t, rr_cond_f, rr_bcond_t, rr_bcond_f, rr_bon, rr_bcv, rr_cv, rr_g, rr_gr, rr_si, rr_sz, rr_sr, rr_al, rr_ld, rr_st, rr_rl, rr_rs, rr_ni, rr_nr, rr_z, rr_div, rr_rem, rr_lc, rr_mx, rr_mn, rr_ab, rr_no, gd_t, bc_t, bc_f, gd_tt, bc_tt, bc_ff, or_true, true_or, and_true, true_and, Nat.reduceAdd]
          have e2 : X7_join_L40 m b ((i : Int), (j : Int), (a : Int)) h' = j_r m b (i : Int) (j : Int) (a : Int) h' := by
            rw [j_eq]
            simp (disch := omega) only [rr_p, rr_bp, rr_bb, rr_0, rr_lt, rr_blt, rr_le, rr_ble, rr_eq, rr_beq, rr_nl_n, rr_nl_s, rr_bnl_n, rr_bnl_s, rr_cond_t, rr_cond_f, rr_bcond_t, rr_bcond_f, rr_bon, rr_bcv, rr_cv, rr_g, rr_gr, rr_si, rr_sz, rr_sr, rr_al, rr_ld, rr_st, rr_rl, rr_rs, rr_ni, rr_nr, rr_z, rr_div, rr_rem, rr_lc, rr_mx, rr_mn, rr_ab, rr_no, gd_t, bc_t, bc_f, gd_tt, bc_tt, bc_ff, or_true, true_or, and_true, true_and, Nat.reduceAdd, pp2, b3, mo_b_s ec, x1, mo_b_s em, y1, mo_b_s eo, mo_b_s e1]
          obtain ⟨d1, d2⟩ := q_jhalf hW hB vP vQ sP sQ lx hl J1
          obtain ⟨r', h2, e3, J2⟩ := d1 ca
          exact ⟨_, h2, e2.trans e3, ⟨_, _, _, _, rfl, J2⟩, by dsimp only; omega⟩
    · right
      rw [bc_f cc] at ec
      have zi : P.drop i = [] := List.drop_eq_nil_of_le (by omega)
      have zj : Q.drop j = [] := List.drop_eq_nil_of_le (by omega)
      have zr : r = layW xs 0 (un P Q) := by
        rw [zi, zj, un_nil] at hr
        have e0 : layW xs (a : Int) [] = [] := List.drop_eq_nil_of_le (by omega)
        rw [e0, List.append_nil] at hr
        exact hr
      refine ⟨(), h', ?_, by rw [← zr]; exact hRr, hf⟩
      rw [j_eq]
      simp (disch := omega) only [rr_p, rr_bp, rr_bb, rr_0, rr_lt, rr_blt, rr_le, rr_ble, rr_eq, rr_beq, rr_nl_n, rr_nl_s, rr_bnl_n, rr_bnl_s, rr_cond_t, rr_cond_f, rr_bcond_t, rr_bcond_f, rr_bon, rr_bcv, rr_cv, rr_g, rr_gr, rr_si, rr_sz, rr_sr, rr_al, rr_ld, rr_st, rr_rl, rr_rs, rr_ni, rr_nr, rr_z, rr_div, rr_rem, rr_lc, rr_mx, rr_mn, rr_ab, rr_no, gd_t, bc_t, bc_f, gd_tt, bc_tt, bc_ff, or_true, true_or, and_true, true_and, Nat.reduceAdd, pp2, b3, mo_b_s ec]
theorem q6_unite {h : AH} {x : Nat} {P Q W : List HK} (tx : ah_T h x = 16) (p8 : ah_P h x 8 = some (x + 11)) (p9 : ah_P h x 9 = some (x + 17)) (p10 : ah_P h x 10 = some (x + 23)) (hP : kP h (x + 11) 10 14 P) (hQ : kP h (x + 17) 10 14 Q) (hW : kP h (x + 23) 20 56 W) (vP : pV P) (vQ : pV Q) : ∃ h', X6_uniteBothDifferences x h = some ((), h') ∧ kP h' (x + 23) 20 56 (un P Q) ∧ FRM h h' (x + 23) (x + 23 + 6) := by
  have t0 := hP.1.1.1
  have t1 := hQ.1.1.1
  have tW := hW.1.1.1
  have m1 := hP.2.2.1
  have m2 := hQ.2.2.1
  obtain ⟨u1, u2, u3⟩ := un_len _ P Q (Nat.le_refl _)
  have m3 := hP.2.2.2.1
  have m4 := hQ.2.2.2.1
  have m5 := hP.2.2.2.2.1
  have m6 := hQ.2.2.2.2.1
  obtain ⟨h1, e1, r1, g1⟩ := q3_clear hW
  have hL := lp_inv (F := X6_uniteBothDifferences_L13 x) (fun s h' => ∃ (i j n : Nat) (acc : List HK), s = ((i : Int), (j : Int), (n : Int)) ∧ (i ≤ P.length ∧ j ≤ Q.length ∧ n ≤ 20) ∧ (n ≤ i + j ∨ (i = P.length ∧ j = Q.length)) ∧ kP h' (x + 23) 20 56 acc ∧ acc ++ un (P.drop i) (Q.drop j) = un P Q ∧ FRM h h' (x + 23) (x + 23 + 6)) (fun s => (20 - s.2.2).toNat) (fun _ h' => kP h' (x + 23) 20 56 (un P Q) ∧ FRM h h' (x + 23) (x + 23 + 6)) ?_ mo_N (0, 0, 0) h1 ⟨0, 0, 0, [], rfl, ⟨by omega, by omega, by omega⟩, by omega, r1, by simp, g1⟩ (by rw [mo_N_v]; dsimp only; omega)
  · obtain ⟨_, h', e, q⟩ := hL
    have tx1 : ah_T h1 x = 16 := by rw [g1.1]; exact tx
    exact ⟨h', by simp (disch := omega) only [X6_uniteBothDifferences, rr_p, rr_bp, rr_bb, rr_0, rr_lt, rr_blt, rr_le, rr_ble, rr_eq, rr_beq, rr_nl_n, rr_nl_s, rr_bnl_n, rr_bnl_s, rr_cond_t, rr_cond_f, rr_bcond_t, rr_bcond_f, rr_bon, rr_bcv, rr_cv, rr_g, rr_gr, rr_si, rr_sz, rr_sr, rr_al, rr_ld, rr_st, rr_rl, rr_rs, rr_ni, rr_nr, rr_z, rr_div, rr_rem, rr_lc, rr_mx, rr_mn, rr_ab, rr_no, gd_t, bc_t, bc_f, gd_tt, bc_tt, bc_ff, or_true, true_or, and_true, true_and, Nat.reduceAdd, p10, mo_b_s e1, mo_b_s e], q⟩
  · rintro s h' ⟨i, j, n, acc, rfl, ⟨hi, hj, hn⟩, hd, hA, hE, hf⟩
    have tx' : ah_T h' x = 16 := by rw [hf.1]; exact tx
    have q8 : ah_P h' x 8 = some (x + 11) := by rw [hf.2.2.1]; exact p8
    have q9 : ah_P h' x 9 = some (x + 17) := by rw [hf.2.2.1]; exact p9
    have q10 : ah_P h' x 10 = some (x + 23) := by rw [hf.2.2.1]; exact p10
    have hP' := kP_fr hP hf (by omega)
    have hQ' := kP_fr hQ hf (by omega)
    have s0 := hP'.1.1.1
    have s1 := hQ'.1.1.1
    have s2 := hA.1.1.1
    have e2 := q3_hunks hP'
    have e3 := q3_hunks hQ'
    have key : ∀ (q : HK) (R : List HK), un (P.drop i) (Q.drop j) = q :: R → acc.length < 20 ∧ (fG acc).length + q.2.1.length ≤ 56 ∧ (fC acc).length + q.2.2.length ≤ 56 ∧ (acc ++ [q]) ++ R = un P Q := by
      intro q R hq
      rw [hq] at hE
      have y1 := congrArg List.length hE
      have y2 := congrArg (fun l => (fG l).length) hE
      have y3 := congrArg (fun l => (fC l).length) hE
      simp only [fG_app, fC_app, fG_cons, fC_cons, List.length_append, List.length_cons] at y1 y2 y3
      exact ⟨by omega, by omega, by omega, by rw [List.append_assoc]; exact hE⟩
    by_cases c20 : n < 20
    · left
      by_cases ci : i < P.length
      · have r1 := (vP i).1
        have e4 := q3_begins hP' (i := (i : Int)) (by omega) (by omega)
        rw [Int.toNat_natCast] at e4
        by_cases cj : j < Q.length
        · have r2 := (vQ j).1
          have e5 := q3_begins hQ' (i := (j : Int)) (by omega) (by omega)
          rw [Int.toNat_natCast] at e5
          by_cases c1 : (hk P i).1 = (hk Q j).1
          · obtain ⟨k1, k2, k3, k4⟩ := key _ _ (un_eq ci cj c1)
            obtain ⟨h2, e6, r6, g6⟩ := q3_addHunk hA hP' (by omega) (i := (i : Int)) (p := (hk P i).1) (by omega) (by omega) k1 (by rw [Int.toNat_natCast]; omega) (by rw [Int.toNat_natCast]; omega)
            rw [Int.toNat_natCast] at r6
            refine ⟨(((i + 1 : Nat) : Int), ((j + 1 : Nat) : Int), ((n + 1 : Nat) : Int)), h2, by simp (disch := omega) only [X6_uniteBothDifferences_L13, rr_p, rr_bp, rr_bb, rr_0, rr_lt, rr_blt, rr_le, rr_ble, rr_eq, rr_beq, rr_nl_n, rr_nl_s, rr_bnl_n, rr_bnl_s, rr_cond_t, rr_cond_f, rr_bcond_t, rr_bcond_f, rr_bon, rr_bcv, rr_cv, rr_g, rr_gr, rr_si, rr_sz, rr_sr, rr_al, rr_ld, rr_st, rr_rl, rr_rs, rr_ni, rr_nr, rr_z, rr_div, rr_rem, rr_lc, rr_mx, rr_mn, rr_ab, rr_no, gd_t, bc_t, bc_f, gd_tt, bc_tt, bc_ff, or_true, true_or, and_true, true_and, Nat.reduceAdd, q8, q9, q10, mo_b_s e2, mo_b_s e3, mo_b_s e4, mo_b_s e5, mo_b_s e6, Int.natCast_add, Int.natCast_one], ⟨i + 1, j + 1, n + 1, acc ++ [hk P i], rfl, ⟨by omega, by omega, by omega⟩, by omega, r6, k4, hf.tr g6 (by omega) (by omega) (by omega) (by omega)⟩, by dsimp only; omega⟩
          · by_cases c2 : (hk P i).1 < (hk Q j).1
            · obtain ⟨k1, k2, k3, k4⟩ := key _ _ (un_lt ci (fun _ => c2))
              obtain ⟨h2, e6, r6, g6⟩ := q3_addHunk hA hP' (by omega) (i := (i : Int)) (p := (hk P i).1) (by omega) (by omega) k1 (by rw [Int.toNat_natCast]; omega) (by rw [Int.toNat_natCast]; omega)
              rw [Int.toNat_natCast] at r6
              refine ⟨(((i + 1 : Nat) : Int), (j : Int), ((n + 1 : Nat) : Int)), h2, by simp (disch := omega) only [X6_uniteBothDifferences_L13, rr_p, rr_bp, rr_bb, rr_0, rr_lt, rr_blt, rr_le, rr_ble, rr_eq, rr_beq, rr_nl_n, rr_nl_s, rr_bnl_n, rr_bnl_s, rr_cond_t, rr_cond_f, rr_bcond_t, rr_bcond_f, rr_bon, rr_bcv, rr_cv, rr_g, rr_gr, rr_si, rr_sz, rr_sr, rr_al, rr_ld, rr_st, rr_rl, rr_rs, rr_ni, rr_nr, rr_z, rr_div, rr_rem, rr_lc, rr_mx, rr_mn, rr_ab, rr_no, gd_t, bc_t, bc_f, gd_tt, bc_tt, bc_ff, or_true, true_or, and_true, true_and, Nat.reduceAdd, q8, q9, q10, mo_b_s e2, mo_b_s e3, mo_b_s e4, mo_b_s e5, mo_b_s e6, Int.natCast_add, Int.natCast_one, Int.add_zero], ⟨i + 1, j, n + 1, acc ++ [hk P i], rfl, ⟨by omega, by omega, by omega⟩, by omega, r6, k4, hf.tr g6 (by omega) (by omega) (by omega) (by omega)⟩, by dsimp only; omega⟩
            · obtain ⟨k1, k2, k3, k4⟩ := key _ _ (un_gt cj (fun _ => by omega))
              obtain ⟨h2, e6, r6, g6⟩ := q3_addHunk hA hQ' (by omega) (i := (j : Int)) (p := (hk Q j).1) (by omega) (by omega) k1 (by rw [Int.toNat_natCast]; omega) (by rw [Int.toNat_natCast]; omega)
              rw [Int.toNat_natCast] at r6
              refine ⟨((i : Int), ((j + 1 : Nat) : Int), ((n + 1 : Nat) : Int)), h2, by simp (disch := omega) only [X6_uniteBothDifferences_L13, rr_p, rr_bp, rr_bb, rr_0, rr_lt, rr_blt, rr_le, rr_ble, rr_eq, rr_beq, rr_nl_n, rr_nl_s, rr_bnl_n, rr_bnl_s, rr_cond_t, rr_cond_f, rr_bcond_t, rr_bcond_f, rr_bon, rr_bcv, rr_cv, rr_g, rr_gr, rr_si, rr_sz, rr_sr, rr_al, rr_ld, rr_st, rr_rl, rr_rs, rr_ni, rr_nr, rr_z, rr_div, rr_rem, rr_lc, rr_mx, rr_mn, rr_ab, rr_no, gd_t, bc_t, bc_f, gd_tt, bc_tt, bc_ff, or_true, true_or, and_true, true_and, Nat.reduceAdd, q8, q9, q10, mo_b_s e2, mo_b_s e3, mo_b_s e4, mo_b_s e5, mo_b_s e6, Int.natCast_add, Int.natCast_one, Int.add_zero], ⟨i, j + 1, n + 1, acc ++ [hk Q j], rfl, ⟨by omega, by omega, by omega⟩, by omega, r6, k4, hf.tr g6 (by omega) (by omega) (by omega) (by omega)⟩, by dsimp only; omega⟩
        · obtain ⟨k1, k2, k3, k4⟩ := key _ _ (un_lt ci (fun z => absurd z cj))
          obtain ⟨h2, e6, r6, g6⟩ := q3_addHunk hA hP' (by omega) (i := (i : Int)) (p := (hk P i).1) (by omega) (by omega) k1 (by rw [Int.toNat_natCast]; omega) (by rw [Int.toNat_natCast]; omega)
          rw [Int.toNat_natCast] at r6
          refine ⟨(((i + 1 : Nat) : Int), (j : Int), ((n + 1 : Nat) : Int)), h2, by simp (disch := omega) only [X6_uniteBothDifferences_L13, rr_p, rr_bp, rr_bb, rr_0, rr_lt, rr_blt, rr_le, rr_ble, rr_eq, rr_beq, rr_nl_n, rr_nl_s, rr_bnl_n, rr_bnl_s, rr_cond_t, rr_cond_f, rr_bcond_t, rr_bcond_f, rr_bon, rr_bcv, rr_cv, rr_g, rr_gr, rr_si, rr_sz, rr_sr, rr_al, rr_ld, rr_st, rr_rl, rr_rs, rr_ni, rr_nr, rr_z, rr_div, rr_rem, rr_lc, rr_mx, rr_mn, rr_ab, rr_no, gd_t, bc_t, bc_f, gd_tt, bc_tt, bc_ff, or_true, true_or, and_true, true_and, Nat.reduceAdd, q8, q9, q10, mo_b_s e2, mo_b_s e3, mo_b_s e4, mo_b_s e6, Int.natCast_add, Int.natCast_one, Int.add_zero], ⟨i + 1, j, n + 1, acc ++ [hk P i], rfl, ⟨by omega, by omega, by omega⟩, by omega, r6, k4, hf.tr g6 (by omega) (by omega) (by omega) (by omega)⟩, by dsimp only; omega⟩
      · by_cases cj : j < Q.length
        · have r2 := (vQ j).1
          have e5 := q3_begins hQ' (i := (j : Int)) (by omega) (by omega)
          rw [Int.toNat_natCast] at e5
          obtain ⟨k1, k2, k3, k4⟩ := key _ _ (un_gt cj (fun z => absurd z ci))
          obtain ⟨h2, e6, r6, g6⟩ := q3_addHunk hA hQ' (by omega) (i := (j : Int)) (p := (hk Q j).1) (by omega) (by omega) k1 (by rw [Int.toNat_natCast]; omega) (by rw [Int.toNat_natCast]; omega)
          rw [Int.toNat_natCast] at r6
          refine ⟨((i : Int), ((j + 1 : Nat) : Int), ((n + 1 : Nat) : Int)), h2, by simp (disch := omega) only [X6_uniteBothDifferences_L13, rr_p, rr_bp, rr_bb, rr_0, rr_lt, rr_blt, rr_le, rr_ble, rr_eq, rr_beq, rr_nl_n, rr_nl_s, rr_bnl_n, rr_bnl_s, rr_cond_t, rr_cond_f, rr_bcond_t, rr_bcond_f, rr_bon, rr_bcv, rr_cv, rr_g, rr_gr, rr_si, rr_sz, rr_sr, rr_al, rr_ld, rr_st, rr_rl, rr_rs, rr_ni, rr_nr, rr_z, rr_div, rr_rem, rr_lc, rr_mx, rr_mn, rr_ab, rr_no, gd_t, bc_t, bc_f, gd_tt, bc_tt, bc_ff, or_true, true_or, and_true, true_and, Nat.reduceAdd, q8, q9, q10, mo_b_s e2, mo_b_s e3, mo_b_s e5, mo_b_s e6, Int.natCast_add, Int.natCast_one, Int.add_zero], ⟨i, j + 1, n + 1, acc ++ [hk Q j], rfl, ⟨by omega, by omega, by omega⟩, by omega, r6, k4, hf.tr g6 (by omega) (by omega) (by omega) (by omega)⟩, by dsimp only; omega⟩
        · exact ⟨((i : Int), (j : Int), ((n + 1 : Nat) : Int)), h', by simp (disch := omega) only [X6_uniteBothDifferences_L13, rr_p, rr_bp, rr_bb, rr_0, rr_lt, rr_blt, rr_le, rr_ble, rr_eq, rr_beq, rr_nl_n, rr_nl_s, rr_bnl_n, rr_bnl_s, rr_cond_t, rr_cond_f, rr_bcond_t, rr_bcond_f, rr_bon, rr_bcv, rr_cv, rr_g, rr_gr, rr_si, rr_sz, rr_sr, rr_al, rr_ld, rr_st, rr_rl, rr_rs, rr_ni, rr_nr, rr_z, rr_div, rr_rem, rr_lc, rr_mx, rr_mn, rr_ab, rr_no, gd_t, bc_t, bc_f, gd_tt, bc_tt, bc_ff, or_true, true_or, and_true, true_and, Nat.reduceAdd, q8, q9, mo_b_s e2, mo_b_s e3, Int.natCast_add, Int.natCast_one], ⟨i, j, n + 1, acc, rfl, ⟨by omega, by omega, by omega⟩, by omega, hA, hE, hf⟩, by dsimp only; omega⟩
    · right
      have zi : P.drop i = [] := List.drop_eq_nil_of_le (by omega)
      have zj : Q.drop j = [] := List.drop_eq_nil_of_le (by omega)
      rw [zi, zj, un_nil, List.append_nil] at hE
      exact ⟨(), h', by simp (disch := omega) only [X6_uniteBothDifferences_L13, rr_p, rr_bp, rr_bb, rr_0, rr_lt, rr_blt, rr_le, rr_ble, rr_eq, rr_beq, rr_nl_n, rr_nl_s, rr_bnl_n, rr_bnl_s, rr_cond_t, rr_cond_f, rr_bcond_t, rr_bcond_f, rr_bon, rr_bcv, rr_cv, rr_g, rr_gr, rr_si, rr_sz, rr_sr, rr_al, rr_ld, rr_st, rr_rl, rr_rs, rr_ni, rr_nr, rr_z, rr_div, rr_rem, rr_lc, rr_mx, rr_mn, rr_ab, rr_no, gd_t, bc_t, bc_f, gd_tt, bc_tt, bc_ff, or_true, true_or, and_true, true_and, Nat.reduceAdd], by rw [← hE]; exact hA, hf⟩
