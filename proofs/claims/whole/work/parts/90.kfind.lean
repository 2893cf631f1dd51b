def smL (E : SE) (ce : Int → Int) (s : List Int) : Nat → Int
  | 0 => 0
  | k + 1 => smL E ce s k + E.2.2.1 k * (E.2.1 (k : Int) (sv s (k : Int)) + cx ce (sv s (k : Int)))
theorem rmS_cg {E : SE} {s t : List Int} : ∀ k : Nat, (∀ j : Int, 0 ≤ j → j < k → sv s j = sv t j) → rmS E s k = rmS E t k := by
  intro k
  induction k with
  | zero => intro _; rfl
  | succ k ih =>
    intro h
    show rmS E s k + E.2.1 (k : Int) (sv s (k : Int)) = rmS E t k + E.2.1 (k : Int) (sv t (k : Int))
    rw [ih (fun j j0 j1 => h j j0 (by omega)), h (k : Int) (by omega) (by omega)]
theorem smL_cg {E : SE} {ce : Int → Int} {s t : List Int} : ∀ k : Nat, (∀ j : Int, 0 ≤ j → j < k → sv s j = sv t j) → smL E ce s k = smL E ce t k := by
  intro k
  induction k with
  | zero => intro _; rfl
  | succ k ih =>
    intro h
    show smL E ce s k + E.2.2.1 k * (E.2.1 (k : Int) (sv s (k : Int)) + cx ce (sv s (k : Int))) = smL E ce t k + E.2.2.1 k * (E.2.1 (k : Int) (sv t (k : Int)) + cx ce (sv t (k : Int)))
    rw [ih (fun j j0 j1 => h j j0 (by omega)), h (k : Int) (by omega) (by omega)]
theorem cx_le {E : SE} {ce : Int → Int} (ok : okE E) (hlb : LBc E E.1 ce) {s : List Int} (hs : sR E.1 s) (ha : acy E s) {j : Int} (h0 : 0 ≤ j) (h1 : j < E.1) : E.2.1 j (sv s j) + cx ce (sv s j) ≤ rmd E s E.1 j := by
  obtain ⟨a, b, -⟩ := hs.2 j h0 h1
  rw [rmd_1 (E := E) (s := s) ok.1.1 ha h0 h1]
  unfold cx
  by_cases c : sv s j < 0
  · rw [if_pos c, rmd_o (v := sv s j) (by omega)]; omega
  · rw [if_neg c]
    have := hlb s hs ha (sv s j) (by omega) b (ha _ (by omega) b)
    omega
theorem smL_le {E : SE} {ce : Int → Int} (ok : okE E) (hlb : LBc E E.1 ce) {s : List Int} (hs : sR E.1 s) (ha : acy E s) : ∀ k : Nat, k ≤ E.1 → smL E ce s k ≤ smS E s k := by
  intro k
  induction k with
  | zero => intro _; exact Int.le_refl _
  | succ k ih =>
    intro hk1
    have h1 := ih (by omega)
    have h2 := cx_le ok hlb hs ha (j := (k : Int)) (by omega) (by omega)
    have h3 := Int.mul_le_mul_of_nonneg_left h2 (ok.2.2.2 k (by omega)).1
    show smL E ce s k + E.2.2.1 k * (E.2.1 (k : Int) (sv s (k : Int)) + cx ce (sv s (k : Int))) ≤ smS E s k + E.2.2.1 k * rmd E s E.1 (k : Int)
    omega
theorem cx_r {E : SE} {ce : Int → Int} (hc : cOk E ce) {s : Int} (h : s < E.1) : 0 ≤ cx ce s ∧ cx ce s ≤ 99 := by
  unfold cx
  by_cases c : s < 0
  · rw [if_pos c]; omega
  · rw [if_neg c]; exact hc s (by omega) h
theorem smL_r {E : SE} {ce : Int → Int} (ok : okE E) (hc : cOk E ce) {s : List Int} (hs : preR E.1 s) : ∀ k : Nat, k ≤ s.length → 0 ≤ smL E ce s k ∧ smL E ce s k ≤ 2000 * k := by
  intro k
  induction k with
  | zero => intro _; exact ⟨Int.le_refl _, Int.le_refl _⟩
  | succ k ih =>
    intro hk1
    have h1 := ih (by omega)
    have hl := hs.1
    obtain ⟨a, b, -⟩ := hs.2 (k : Int) (by omega) (by omega)
    have h2 := ok.2.2.1 (k : Int) (sv s (k : Int)) (by omega) (by omega) a b
    have h3 := cx_r hc b
    have h4 := ok.2.2.2 k (by omega)
    have h5 := mul_r h4.1 h4.2 (b := E.2.1 (k : Int) (sv s (k : Int)) + cx ce (sv s (k : Int))) (d := 200) (by omega) (by omega)
    show 0 ≤ smL E ce s k + E.2.2.1 k * (E.2.1 (k : Int) (sv s (k : Int)) + cx ce (sv s (k : Int))) ∧ smL E ce s k + E.2.2.1 k * (E.2.1 (k : Int) (sv s (k : Int)) + cx ce (sv s (k : Int))) ≤ _
    omega
theorem lsB_mono {r m r' m' : Int} {b : BS} (h : lsB r m b) (h1 : r' ≤ r) (h2 : m' ≤ m) : lsB r' m' b := by
  match b, h with
  | none, _ => trivial
  | some (x, y, s), h =>
    have h : r < x ∨ (r = x ∧ m < y) := h
    show r' < x ∨ (r' = x ∧ m' < y)
    omega
/-- the search's state -/
def TS (h : AH) (l : Nat) (E : SE) (pre : List Int) (b : BS) : Prop := kE h l E ∧ (∀ i : Nat, i ≤ E.1 → LBr E i (ah_I h (l + 4) (i : Int)) (ah_I h (l + 5) (i : Int))) ∧ (∀ j : Int, 0 ≤ j → j < pre.length → ah_I h (l + 6) j = sv pre j) ∧ kBst h l E b
theorem q2_tryFrom {l : Nat} {E : SE} (ok : okE E) (tr : tri E) : ∀ (r f : Nat) (pre : List Int) (b : BS) (h : AH), pre.length + r = E.1 → r < f → preR E.1 pre → PA pre pre.length → TS h l E pre b → ∃ h', X2_tryFrom f l (pre.length : Int) (rmS E pre pre.length) (smL E (wr E) pre pre.length) h = some ((), h') ∧ TS h' l E pre (ev E r pre b) ∧ LF l h h' := by
  have hn := ok.1
  have hbd := ok.2.1
  have hc := wr_ok ok
  have hlb := wr_lb ok tr E.1
  intro r
  induction r with
  | zero =>
    intro f pre b h hl hf hpr hPA hT
    obtain ⟨f, rfl⟩ : ∃ f', f = f' + 1 := ⟨f - 1, by omega⟩
    obtain ⟨hE, hLR, hS, hb⟩ := id hT
    have hl2 : pre.length = E.1 := by omega
    have t0 := hE.1.1
    have f0 := hE.2.1.1
    have hs : sR E.1 pre := ⟨hl2, fun j j0 j1 => hpr.2 j j0 (by omega)⟩
    have hacy : acy E pre := by
      intro j j0 j1
      have h1 := hPA j j0 (by omega)
      rw [hl2] at h1
      have h2 := itc_r hs E.1 j (by omega) j1
      omega
    obtain ⟨h', e1, q1, q2, q3⟩ := q2_takeIfLess hE ok hs hacy (fun j j0 j1 => hS j j0 (by omega)) hb
    rw [← hl2] at e1
    have e2 : X2_tryFrom (f + 1) l (pre.length : Int) (rmS E pre pre.length) (smL E (wr E) pre pre.length) h = some ((), h') := by
      show X2_tryFromB (X2_tryFrom f) l (pre.length : Int) (rmS E pre pre.length) (smL E (wr E) pre pre.length) h = _
      simp (disch := omega) only [X2_tryFromB, rr_p, rr_bp, rr_bb, rr_0, rr_lt, rr_blt, rr_le, rr_ble, rr_eq, rr_beq, rr_nl_n, rr_nl_s, rr_bnl_n, rr_bnl_s, rr_cond_t, rr_cond_f, rr_bcond_t, rr_bcond_f, rr_bon, rr_bcv, rr_cv, rr_g, rr_gr, rr_si, rr_sz, rr_sr, rr_al, rr_ld, rr_st, rr_rl, rr_rs, rr_ni, rr_nr, rr_z, rr_div, rr_rem, rr_lc, rr_mx, rr_mn, rr_ab, rr_no, gd_t, bc_t, bc_f, gd_tt, bc_tt, bc_ff, or_true, true_or, and_true, true_and, Nat.reduceAdd, f0, mo_b_s e1]
    refine ⟨h', e2, ⟨kE_lf hE q2, ?_, ?_, q1⟩, q2⟩
    · rw [q3 4 (by omega) (by omega), q3 5 (by omega) (by omega)]; exact hLR
    · rw [q3 6 (by omega) (by omega)]; exact hS
  | succ r ih =>
    intro f pre b h hl hf hpr hPA hT
    obtain ⟨f, rfl⟩ : ∃ f', f = f' + 1 := ⟨f - 1, by omega⟩
    have t0 := hT.1.1.1
    have f0 := hT.1.2.1.1
    have hil : pre.length < E.1 := by omega
    have rR := rmS_r (s := pre) ok (fun j j0 j1 => by have := hpr.2 j j0 j1; omega) hpr.1 pre.length (Nat.le_refl _)
    have rM := smL_r ok hc hpr pre.length (Nat.le_refl _)
    have ak := ok.2.2.2 pre.length hil
    have hL := lp_inv (F := X2_tryFrom_L21 (X2_tryFrom f) l (pre.length : Int) (rmS E pre pre.length) (smL E (wr E) pre pre.length)) (fun y h' => ∃ c : Nat, (-1 ≤ y ∧ y ≤ E.1) ∧ (y ≤ pre.length → (c : Int) = y + 1) ∧ ((pre.length : Int) < y → (c : Int) = y) ∧ LF l h h' ∧ TS h' l E pre ((List.range c).foldl (fun b f => ev E r (pre ++ [fg pre.length f]) b) b)) (fun y => ((E.1 : Int) - y).toNat) (fun _ h' => LF l h h' ∧ TS h' l E pre (ev E (r + 1) pre b)) ?_ mo_N (-1) h ⟨0, by omega, fun _ => by omega, fun z => by omega, LF.rf, hT⟩ (by rw [mo_N_v]; omega)
    · obtain ⟨_, h', e1, q1, q2⟩ := hL
      refine ⟨h', ?_, q2, q1⟩
      show X2_tryFromB (X2_tryFrom f) l (pre.length : Int) (rmS E pre pre.length) (smL E (wr E) pre pre.length) h = _
      simp (disch := omega) only [X2_tryFromB, rr_p, rr_bp, rr_bb, rr_0, rr_lt, rr_blt, rr_le, rr_ble, rr_eq, rr_beq, rr_nl_n, rr_nl_s, rr_bnl_n, rr_bnl_s, rr_cond_t, rr_cond_f, rr_bcond_t, rr_bcond_f, rr_bon, rr_bcv, rr_cv, rr_g, rr_gr, rr_si, rr_sz, rr_sr, rr_al, rr_ld, rr_st, rr_rl, rr_rs, rr_ni, rr_nr, rr_z, rr_div, rr_rem, rr_lc, rr_mx, rr_mn, rr_ab, rr_no, gd_t, bc_t, bc_f, gd_tt, bc_tt, bc_ff, or_true, true_or, and_true, true_and, Nat.reduceAdd, f0, mo_b_s e1]
    · rintro y h' ⟨c, ⟨y1, y2⟩, c1, c2, hf1, hT1⟩
      obtain ⟨hE, hLR, hS, hb⟩ := id hT1
      obtain ⟨⟨t0, ⟨p2, p3, p4, p6, p7, p8, p9⟩, ⟨t1, t2, t3, t5, t6, t7, t8⟩, ⟨n1, n2, n3, n5, n6, n7, n8⟩⟩, ⟨f0, f1⟩, k3, k4, k5⟩ := id hE
      by_cases cy : y < E.1
      · left
        have e5 := q2_remadeAtLeast hE ok (i := (pre.length : Int)) (s := y) (by omega) (by omega) y1 cy
        have e6 := q2_pieceRoom hE ok (i := (pre.length : Int)) (s := y) (by omega) (by omega) y1 cy
        have w := k5 pre.length hil
        have pr := ok.2.2.1 (pre.length : Int) y (by omega) (by omega) y1 cy
        have cr := cx_r hc cy
        by_cases cyi : y = (pre.length : Int)
        · refine ⟨y + 1, h', by simp (disch := omega) only [X2_tryFrom_L21, rr_p, rr_bp, rr_bb, rr_0, rr_lt, rr_blt, rr_le, rr_ble, rr_eq, rr_beq, rr_nl_n, rr_nl_s, rr_bnl_n, rr_bnl_s, rr_cond_t, rr_cond_f, rr_bcond_t, rr_bcond_f, rr_bon, rr_bcv, rr_cv, rr_g, rr_gr, rr_si, rr_sz, rr_sr, rr_al, rr_ld, rr_st, rr_rl, rr_rs, rr_ni, rr_nr, rr_z, rr_div, rr_rem, rr_lc, rr_mx, rr_mn, rr_ab, rr_no, gd_t, bc_t, bc_f, gd_tt, bc_tt, bc_ff, or_true, true_or, and_true, true_and, Nat.reduceAdd, f0, mo_b_s e5, mo_b_s e6, p4, w], ⟨c, by omega, fun z => by omega, fun z => by have := c1 (by omega); omega, hf1, hT1⟩, by omega⟩
        · -- the next one in the order
          have hfg : fg pre.length c = y := by
            unfold fg
            by_cases z : y ≤ pre.length
            · have := c1 z
              by_cases z2 : c = 0
              · rw [if_pos z2]; omega
              · rw [if_neg z2, if_pos (by omega)]; omega
            · have := c2 (by omega)
              rw [if_neg (by omega), if_neg (by omega)]; omega
          have hnext : (List.range (c + 1)).foldl (fun b f => ev E r (pre ++ [fg pre.length f]) b) b = ev E r (pre ++ [y]) ((List.range c).foldl (fun b f => ev E r (pre ++ [fg pre.length f]) b) b) := by
            rw [range_fold, hfg]
          generalize hB : (List.range c).foldl (fun b f => ev E r (pre ++ [fg pre.length f]) b) b = B at *
          have hpr2 := preR_s hpr hil (x := y) ⟨y1, cy, cyi⟩
          have hlen2 : (pre ++ [y]).length = pre.length + 1 := by simp
          have cN1 : y + 1 ≤ (pre.length : Int) → ((c + 1 : Nat) : Int) = y + 1 + 1 := fun z => by have := c1 (by omega); omega
          have cN2 : (pre.length : Int) < y + 1 → ((c + 1 : Nat) : Int) = y + 1 := fun z => by have := c2 (by omega); omega
          have skip : (∀ s, sR E.1 s → (∀ j : Int, 0 ≤ j → j < (pre ++ [y]).length → sv s j = sv (pre ++ [y]) j) → ¬ (fs E s ∧ lsB (rmS E s E.1) (smS E s E.1) B)) → (mo_b (X2_tryFrom_L21 (X2_tryFrom f) l (pre.length : Int) (rmS E pre pre.length) (smL E (wr E) pre pre.length) y) mo_p h' = some (.inl (y + 1), h')) → ∃ a' h'', X2_tryFrom_L21 (X2_tryFrom f) l (pre.length : Int) (rmS E pre pre.length) (smL E (wr E) pre pre.length) y h' = some (.inl a', h'') ∧ (∃ c : Nat, (-1 ≤ a' ∧ a' ≤ E.1) ∧ (a' ≤ pre.length → (c : Int) = a' + 1) ∧ ((pre.length : Int) < a' → (c : Int) = a') ∧ LF l h h'' ∧ TS h'' l E pre ((List.range c).foldl (fun b f => ev E r (pre ++ [fg pre.length f]) b) b)) ∧ ((E.1 : Int) - a').toNat < ((E.1 : Int) - y).toNat := by
            intro hs he
            rw [mo_bp] at he
            have hev := ev_skip (E := E) (b := B) r (pre ++ [y]) hpr2 (by omega) hs
            refine ⟨y + 1, h', he, ⟨c + 1, by omega, cN1, cN2, hf1, ?_⟩, by omega⟩
            rw [hnext, hev]; exact hT1
          have svi : ∀ s : List Int, (∀ j : Int, 0 ≤ j → j < (pre ++ [y]).length → sv s j = sv (pre ++ [y]) j) → sv s (pre.length : Int) = y ∧ ∀ j : Int, 0 ≤ j → j < pre.length → sv s j = sv pre j := by
            intro s hs
            refine ⟨by rw [hs _ (by omega) (by omega), sv_r], fun j j0 j1 => by rw [hs j j0 (by omega), sv_l j0 j1]⟩
          by_cases cb : E.2.1 (pre.length : Int) y + cx (wr E) y ≤ E.2.2.2
          · have e7 := q2_leadsTo t0 f0 hn.2 p8 t7 n7 hil hS (fun j j0 j1 => by have := hpr.2 j j0 j1; omega) (y := y) ⟨y1, cy⟩
            by_cases cl : itc pre (pre.length : Int) E.1 y = pre.length
            · rw [bc_t cl] at e7
              refine skip (fun s hs he hfs => ?_) (by rw [mo_bp]; simp (disch := omega) only [X2_tryFrom_L21, rr_p, rr_bp, rr_bb, rr_0, rr_lt, rr_blt, rr_le, rr_ble, rr_eq, rr_beq, rr_nl_n, rr_nl_s, rr_bnl_n, rr_bnl_s, rr_cond_t, rr_cond_f, rr_bcond_t, rr_bcond_f, rr_bon, rr_bcv, rr_cv, rr_g, rr_gr, rr_si, rr_sz, rr_sr, rr_al, rr_ld, rr_st, rr_rl, rr_rs, rr_ni, rr_nr, rr_z, rr_div, rr_rem, rr_lc, rr_mx, rr_mn, rr_ab, rr_no, gd_t, bc_t, bc_f, gd_tt, bc_tt, bc_ff, or_true, true_or, and_true, true_and, Nat.reduceAdd, f0, f1, mo_b_s e5, mo_b_s e6, p4, w, mo_b_s e7])
              obtain ⟨s1, s2⟩ := svi s he
              obtain ⟨K, eK⟩ := itc_up (s := s) (i := (pre.length : Int)) (j := (E.1 : Int)) (by omega) E.1 y
              rw [itc_cg s2, cl] at eK
              have hback : itc s (E.1 : Int) (K + 1) (pre.length : Int) = (pre.length : Int) := by rw [itc_i ⟨by omega, by omega⟩, s1, eK]
              have h3 := itc_back (n := E.1) ⟨by omega, by omega⟩ hback
              have h4 := hfs.1.1 (pre.length : Int) (by omega) (by omega)
              omega
            · rw [bc_f cl] at e7
              have hLB := hLR (pre.length + 1) (by omega)
              have mr := mul_r ak.1 ak.2 (b := E.2.1 (pre.length : Int) y + cx (wr E) y) (d := 200) (by omega) (by omega)
              have e8 := q2_isLess t0 hb (r := rmS E pre pre.length + E.2.1 (pre.length : Int) y + ah_I h' (l + 4) ((pre.length + 1 : Nat) : Int)) (m := smL E (wr E) pre pre.length + E.2.2.1 pre.length * (E.2.1 (pre.length : Int) y + cx (wr E) y) + ah_I h' (l + 5) ((pre.length + 1 : Nat) : Int)) (by have := hLB.1; omega) (by have := hLB.2.1; omega)
              have ei1 : (pre.length : Int) + 1 = ((pre.length + 1 : Nat) : Int) := by omega
              have rS2 : rmS E (pre ++ [y]) (pre.length + 1) = rmS E pre pre.length + E.2.1 (pre.length : Int) y := by
                show rmS E (pre ++ [y]) pre.length + E.2.1 (pre.length : Int) (sv (pre ++ [y]) (pre.length : Int)) = _
                rw [sv_r, rmS_cg (s := pre ++ [y]) (t := pre) pre.length (fun j j0 j1 => sv_l j0 j1)]
              have mS2 : smL E (wr E) (pre ++ [y]) (pre.length + 1) = smL E (wr E) pre pre.length + E.2.2.1 pre.length * (E.2.1 (pre.length : Int) y + cx (wr E) y) := by
                show smL E (wr E) (pre ++ [y]) pre.length + E.2.2.1 pre.length * (E.2.1 (pre.length : Int) (sv (pre ++ [y]) (pre.length : Int)) + cx (wr E) (sv (pre ++ [y]) (pre.length : Int))) = _
                rw [sv_r, smL_cg (s := pre ++ [y]) (t := pre) pre.length (fun j j0 j1 => sv_l j0 j1)]
              by_cases cs : lsB (rmS E pre pre.length + E.2.1 (pre.length : Int) y + ah_I h' (l + 4) ((pre.length + 1 : Nat) : Int)) (smL E (wr E) pre pre.length + E.2.2.1 pre.length * (E.2.1 (pre.length : Int) y + cx (wr E) y) + ah_I h' (l + 5) ((pre.length + 1 : Nat) : Int)) B
              · rw [bc_t cs] at e8
                have g7 : FRM h' (ah_sI h' (l + 6) (pre.length : Int) y) (l + 6) (l + 7) := FRM.sI (by omega) (by omega)
                have hT2 : TS (ah_sI h' (l + 6) (pre.length : Int) y) l E (pre ++ [y]) B := by
                  refine ⟨kE_lf hE (LF.fr g7 (by omega) (by omega)), ?_, fun j j0 j1 => ?_, kBst_fr hb g7 (by omega)⟩
                  · rw [g7.2.2.2.2.2.2 (l + 4) (by omega), g7.2.2.2.2.2.2 (l + 5) (by omega)]; exact hLR
                  · rw [hlen2] at j1
                    by_cases z : j = (pre.length : Int)
                    · rw [z, hl_I_sI_s, sv_r]
                    · rw [hl_I_sI_n (Or.inr z), sv_l j0 (by omega)]; exact hS j j0 (by omega)
                obtain ⟨h3, e9, hT3, hf3⟩ := ih f (pre ++ [y]) B (ah_sI h' (l + 6) (pre.length : Int) y) (by omega) (by omega) hpr2 (by rw [hlen2]; exact PA_s hPA hil cyi cl) hT2
                rw [hlen2, rS2, mS2, ← ei1] at e9
                refine ⟨y + 1, h3, ?_, ⟨c + 1, by omega, cN1, cN2, hf1.tr ((LF.fr g7 (by omega) (by omega)).tr hf3), ?_⟩, by omega⟩
                · rw [← ei1] at e8
                  simp (disch := omega) only [X2_tryFrom_L21, rr_p, rr_bp, rr_bb, rr_0, rr_lt, rr_blt, rr_le, rr_ble, rr_eq, rr_beq, rr_nl_n, rr_nl_s, rr_bnl_n, rr_bnl_s, rr_cond_t, rr_cond_f, rr_bcond_t, rr_bcond_f, rr_bon, rr_bcv, rr_cv, rr_g, rr_gr, rr_si, rr_sz, rr_sr, rr_al, rr_ld, rr_st, rr_rl, rr_rs, rr_ni, rr_nr, rr_z, rr_div, rr_rem, rr_lc, rr_mx, rr_mn, rr_ab, rr_no, gd_t, bc_t, bc_f, gd_tt, bc_tt, bc_ff, or_true, true_or, and_true, true_and, Nat.reduceAdd, hl_T_sF, hl_N_sF, hl_P_sF, hl_I_sF, hl_R_sF, hl_S_sF, hl_T_sP, hl_N_sP, hl_F_sP, hl_I_sP, hl_R_sP, hl_S_sP, hl_T_sI, hl_N_sI, hl_F_sI, hl_P_sI, hl_R_sI, hl_S_sI, hl_T_sR, hl_N_sR, hl_F_sR, hl_P_sR, hl_I_sR, hl_S_sR, hl_T_wI, hl_N_wI, hl_F_wI, hl_P_wI, hl_R_wI, hl_S_wI, hl_F_sF_s, hl_F_sF_n, hl_P_sP_s, hl_P_sP_n, hl_I_sI_s, hl_I_sI_n, hl_R_sR_s, hl_R_sR_n, hl_I_wI_s, hl_I_wI_n, f0, f1, mo_b_s e5, mo_b_s e6, p4, w, mo_b_s e7, p6, p7, p8, mo_b_s e8, mo_b_s e9]
                · rw [hnext]
                  obtain ⟨u1, u3, u4, u5⟩ := hT3
                  exact ⟨u1, u3, fun j j0 j1 => by rw [u4 j j0 (by omega), sv_l j0 j1], u5⟩
              · rw [bc_f cs] at e8
                refine skip (fun s hs he hfs => cs ?_) (by
                  rw [mo_bp]
                  rw [← ei1] at e8
                  simp (disch := omega) only [X2_tryFrom_L21, rr_p, rr_bp, rr_bb, rr_0, rr_lt, rr_blt, rr_le, rr_ble, rr_eq, rr_beq, rr_nl_n, rr_nl_s, rr_bnl_n, rr_bnl_s, rr_cond_t, rr_cond_f, rr_bcond_t, rr_bcond_f, rr_bon, rr_bcv, rr_cv, rr_g, rr_gr, rr_si, rr_sz, rr_sr, rr_al, rr_ld, rr_st, rr_rl, rr_rs, rr_ni, rr_nr, rr_z, rr_div, rr_rem, rr_lc, rr_mx, rr_mn, rr_ab, rr_no, gd_t, bc_t, bc_f, gd_tt, bc_tt, bc_ff, or_true, true_or, and_true, true_and, Nat.reduceAdd, f0, f1, mo_b_s e5, mo_b_s e6, p4, w, mo_b_s e7, p6, p7, mo_b_s e8])
                have hacy := hfs.1.1
                obtain ⟨l1, l2⟩ := hLB.2.2 s hs
                have l3 := l2 hacy
                have l4 := smL_le ok hlb hs hacy (pre.length + 1) (by omega)
                have l5 := rmS_cg (E := E) (s := s) (t := pre ++ [y]) (pre.length + 1) (fun j j0 j1 => he j j0 (by omega))
                have l6 := smL_cg (E := E) (ce := wr E) (s := s) (t := pre ++ [y]) (pre.length + 1) (fun j j0 j1 => he j j0 (by omega))
                exact lsB_mono hfs.2 (by omega) (by omega)
          · refine skip (fun s hs he hfs => ?_) (by rw [mo_bp]; simp (disch := omega) only [X2_tryFrom_L21, rr_p, rr_bp, rr_bb, rr_0, rr_lt, rr_blt, rr_le, rr_ble, rr_eq, rr_beq, rr_nl_n, rr_nl_s, rr_bnl_n, rr_bnl_s, rr_cond_t, rr_cond_f, rr_bcond_t, rr_bcond_f, rr_bon, rr_bcv, rr_cv, rr_g, rr_gr, rr_si, rr_sz, rr_sr, rr_al, rr_ld, rr_st, rr_rl, rr_rs, rr_ni, rr_nr, rr_z, rr_div, rr_rem, rr_lc, rr_mx, rr_mn, rr_ab, rr_no, gd_t, bc_t, bc_f, gd_tt, bc_tt, bc_ff, or_true, true_or, and_true, true_and, Nat.reduceAdd, f0, f1, mo_b_s e5, mo_b_s e6, p4, w])
            obtain ⟨s1, s2⟩ := svi s he
            have h3 := cx_le ok hlb hs hfs.1.1 (j := (pre.length : Int)) (by omega) (by omega)
            rw [s1] at h3
            have h4 := hfs.1.2 (pre.length : Int) (by omega) (by omega)
            omega
      · right
        have hcn : c = E.1 := by have := c2 (by omega); omega
        subst hcn
        exact ⟨(), h', by simp (disch := omega) only [X2_tryFrom_L21, rr_p, rr_bp, rr_bb, rr_0, rr_lt, rr_blt, rr_le, rr_ble, rr_eq, rr_beq, rr_nl_n, rr_nl_s, rr_bnl_n, rr_bnl_s, rr_cond_t, rr_cond_f, rr_bcond_t, rr_bcond_f, rr_bon, rr_bcv, rr_cv, rr_g, rr_gr, rr_si, rr_sz, rr_sr, rr_al, rr_ld, rr_st, rr_rl, rr_rs, rr_ni, rr_nr, rr_z, rr_div, rr_rem, rr_lc, rr_mx, rr_mn, rr_ab, rr_no, gd_t, bc_t, bc_f, gd_tt, bc_tt, bc_ff, or_true, true_or, and_true, true_and, Nat.reduceAdd, f0], hf1, hT1⟩
theorem q2_find {h : AH} {l : Nat} {E : SE} (hE : kE h l E) (ok : okE E) (tr : tri E) (f10 : ah_F h l 9 = 0) : ∃ h', X2_find l h = some ((), h') ∧ LF l h h' ∧ kBst h' l E (ev E E.1 [] none) := by
  have hn := ok.1
  have hbd := ok.2.1
  have t0 := hE.1.1
  have c1 := wr_ok ok
  have lb1 := wr_lb ok tr E.1
  obtain ⟨⟨tt0, ⟨p2, -⟩, ⟨t1, -⟩, ⟨n1, -⟩⟩, ⟨f0, f1⟩, k3, -⟩ := id hE
  have hL := lp_inv (F := X2_find_L2 l) (fun y h' => h' = h ∧ ∃ k : Nat, y = (k : Int) ∧ k ≤ E.1) (fun y => ((E.1 : Int) - y).toNat) (fun _ h' => LF l h h' ∧ kBst h' l E (ev E E.1 [] none)) ?_ mo_N 0 h ⟨rfl, 0, rfl, by omega⟩ (by rw [mo_N_v]; omega)
  · obtain ⟨_, h', e2, q⟩ := hL
    exact ⟨h', by simp (disch := omega) only [X2_find, rr_p, rr_bp, rr_bb, rr_0, rr_lt, rr_blt, rr_le, rr_ble, rr_eq, rr_beq, rr_nl_n, rr_nl_s, rr_bnl_n, rr_bnl_s, rr_cond_t, rr_cond_f, rr_bcond_t, rr_bcond_f, rr_bon, rr_bcv, rr_cv, rr_g, rr_gr, rr_si, rr_sz, rr_sr, rr_al, rr_ld, rr_st, rr_rl, rr_rs, rr_ni, rr_nr, rr_z, rr_div, rr_rem, rr_lc, rr_mx, rr_mn, rr_ab, rr_no, gd_t, bc_t, bc_f, gd_tt, bc_tt, bc_ff, or_true, true_or, and_true, true_and, Nat.reduceAdd, e2], q⟩
  · rintro y h' ⟨rfl, k, rfl, hk1⟩
    by_cases ck : k < E.1
    · have cb := c1 (k : Int) (by omega) (by omega)
      have e := k3 (k : Int) (by omega) (by omega)
      have ew : E.2.1 (k : Int) (-1) = wr E (k : Int) := rfl
      by_cases cbd : wr E (k : Int) ≤ E.2.2.2
      · left
        exact ⟨(k : Int) + 1, h', by simp (disch := omega) only [X2_find_L2, rr_p, rr_bp, rr_bb, rr_0, rr_lt, rr_blt, rr_le, rr_ble, rr_eq, rr_beq, rr_nl_n, rr_nl_s, rr_bnl_n, rr_bnl_s, rr_cond_t, rr_cond_f, rr_bcond_t, rr_bcond_f, rr_bon, rr_bcv, rr_cv, rr_g, rr_gr, rr_si, rr_sz, rr_sr, rr_al, rr_ld, rr_st, rr_rl, rr_rs, rr_ni, rr_nr, rr_z, rr_div, rr_rem, rr_lc, rr_mx, rr_mn, rr_ab, rr_no, gd_t, bc_t, bc_f, gd_tt, bc_tt, bc_ff, or_true, true_or, and_true, true_and, Nat.reduceAdd, f0, f1, p2, e], ⟨rfl, k + 1, by simp, by omega⟩, by omega⟩
      · right
        refine ⟨(), h', by simp (disch := omega) only [X2_find_L2, rr_p, rr_bp, rr_bb, rr_0, rr_lt, rr_blt, rr_le, rr_ble, rr_eq, rr_beq, rr_nl_n, rr_nl_s, rr_bnl_n, rr_bnl_s, rr_cond_t, rr_cond_f, rr_bcond_t, rr_bcond_f, rr_bon, rr_bcv, rr_cv, rr_g, rr_gr, rr_si, rr_sz, rr_sr, rr_al, rr_ld, rr_st, rr_rl, rr_rs, rr_ni, rr_nr, rr_z, rr_div, rr_rem, rr_lc, rr_mx, rr_mn, rr_ab, rr_no, gd_t, bc_t, bc_f, gd_tt, bc_tt, bc_ff, or_true, true_or, and_true, true_and, Nat.reduceAdd, f0, f1, p2, e], LF.rf, ?_⟩
        rw [ev_skip (E := E) (b := none) E.1 [] ⟨by simp, fun j j0 j1 => by simp at j1; omega⟩ (by simp) (fun s hs _ hfs => ?_)]
        · exact f10
        · have h3 := lb1 s hs hfs.1.1 (k : Int) (by omega) (by omega) (hfs.1.1 _ (by omega) (by omega))
          have h4 := hfs.1.2 (k : Int) (by omega) (by omega)
          omega
    · right
      obtain ⟨h2, e2, g2, lr2⟩ := q2_leastFrom hE ok tr
      have hE2 := kE_lf hE (LF.fr g2 (by omega) (by omega))
      have tl2 := hE2.1.1
      have hT : TS h2 l E [] none := ⟨hE2, lr2, fun j j0 j1 => by simp at j1; omega, by show ah_F h2 l 9 = 0; rw [g2.2.2.2.2.2.1 l (by omega)]; exact f10⟩
      obtain ⟨h3, e3, hT3, hf3⟩ := q2_tryFrom ok tr E.1 8 [] none h2 (by simp) (by omega) ⟨by simp, fun j j0 j1 => by simp at j1; omega⟩ PA_0 hT
      have e3 : X2_tryFrom 8 l 0 0 0 h2 = some ((), h3) := e3
      exact ⟨(), h3, by simp (disch := omega) only [X2_find_L2, rr_p, rr_bp, rr_bb, rr_0, rr_lt, rr_blt, rr_le, rr_ble, rr_eq, rr_beq, rr_nl_n, rr_nl_s, rr_bnl_n, rr_bnl_s, rr_cond_t, rr_cond_f, rr_bcond_t, rr_bcond_f, rr_bon, rr_bcv, rr_cv, rr_g, rr_gr, rr_si, rr_sz, rr_sr, rr_al, rr_ld, rr_st, rr_rl, rr_rs, rr_ni, rr_nr, rr_z, rr_div, rr_rem, rr_lc, rr_mx, rr_mn, rr_ab, rr_no, gd_t, bc_t, bc_f, gd_tt, bc_tt, bc_ff, or_true, true_or, and_true, true_and, Nat.reduceAdd, f0, mo_b_s e2, mo_b_s e3], (LF.fr g2 (by omega) (by omega)).tr hf3, hT3.2.2.2⟩
