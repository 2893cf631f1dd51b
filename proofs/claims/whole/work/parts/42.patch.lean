abbrev HK : Type := Int × List Int × List Int
def hk (W : List HK) (i : Nat) : HK := W.getD i (0, [], [])
theorem hk_app_l {W V : List HK} {i : Nat} (h : i < W.length) : hk (W ++ V) i = hk W i := by
  unfold hk; simp only [List.getD_eq_getElem?_getD]; rw [List.getElem?_append_left h]
theorem hk_app_r {W V : List HK} {i : Nat} (h : W.length ≤ i) : hk (W ++ V) i = hk V (i - W.length) := by
  unfold hk; simp only [List.getD_eq_getElem?_getD]; rw [List.getElem?_append_right h]
theorem hk_last {W : List HK} {q : HK} : hk (W ++ [q]) W.length = q := by rw [hk_app_r (Nat.le_refl _), Nat.sub_self]; rfl
def hgs (W : List HK) (i : Nat) : Nat := ((W.take i).map (fun q => q.2.1.length)).sum
def fG (W : List HK) : List Int := (W.map (fun q => q.2.1)).flatten
theorem hgs_0 (W : List HK) : hgs W 0 = 0 := rfl
theorem hgs_s {W : List HK} {i : Nat} (h : i < W.length) : hgs W (i + 1) = hgs W i + (hk W i).2.1.length := by
  unfold hgs hk
  rw [List.take_add_one, List.map_append, List.sum_append, List.getElem?_eq_getElem h, List.getD_eq_getElem?_getD, List.getElem?_eq_getElem h]
  simp
theorem hgs_all (W : List HK) : hgs W W.length = (fG W).length := by
  unfold hgs fG
  rw [List.take_length, List.length_flatten, List.map_map]
  rfl
theorem hgs_app {W V : List HK} {i : Nat} (h : i ≤ W.length) : hgs (W ++ V) i = hgs W i := by
  unfold hgs; rw [List.take_append_of_le_length h]
theorem hgs_mono {W : List HK} {i j : Nat} (h : i ≤ j) : hgs W i ≤ hgs W j := by
  induction j with
  | zero => rw [Nat.le_zero.mp h]; exact Nat.le_refl _
  | succ j ih =>
    by_cases hij : i = j + 1
    · rw [hij]; exact Nat.le_refl _
    · have h1 := ih (by omega)
      by_cases hj : j < W.length
      · rw [hgs_s hj]; omega
      · have e : hgs W (j + 1) = hgs W j := by
          unfold hgs; rw [List.take_of_length_le (by omega), List.take_of_length_le (by omega)]
        omega
theorem hgs_le {W : List HK} (i : Nat) : hgs W i ≤ (fG W).length := by
  rw [← hgs_all]
  by_cases h : i ≤ W.length
  · exact hgs_mono h
  · unfold hgs; rw [List.take_of_length_le (by omega), List.take_length]; exact Nat.le_refl _
theorem fG_app (W V : List HK) : fG (W ++ V) = fG W ++ fG V := by simp [fG]
theorem fG_one (q : HK) : fG [q] = q.2.1 := by simp [fG]
theorem fG_at {W : List HK} {i k : Nat} (h : i < W.length) (hk1 : k < (hk W i).2.1.length) : (fG W).getD (hgs W i + k) 0 = (hk W i).2.1.getD k 0 := by
  induction W generalizing i with
  | nil => simp at h
  | cons q W ih =>
    have e : fG (q :: W) = q.2.1 ++ fG W := by simp [fG]
    cases i with
    | zero =>
      have e2 : hk (q :: W) 0 = q := rfl
      rw [e2] at hk1 ⊢
      rw [e, hgs_0, Nat.zero_add]
      simp only [List.getD_eq_getElem?_getD]
      rw [List.getElem?_append_left hk1]
    | succ i =>
      have e2 : hk (q :: W) (i + 1) = hk W i := rfl
      have e3 : hgs (q :: W) (i + 1) = q.2.1.length + hgs W i := by simp [hgs]
      rw [e2] at hk1 ⊢
      rw [e, e3]
      have := ih (i := i) (by simpa using h) hk1
      simp only [List.getD_eq_getElem?_getD] at this ⊢
      rw [Nat.add_assoc, List.getElem?_append_right (by omega), Nat.add_sub_cancel_left]
      exact this
theorem fG_in {W : List HK} {i k : Nat} (h : i < W.length) (hk1 : k < (hk W i).2.1.length) : hgs W i + k < (fG W).length := by
  have h1 := hgs_s h
  have h2 := @hgs_le W (i + 1)
  omega
def hcs (W : List HK) (i : Nat) : Nat := ((W.take i).map (fun q => q.2.2.length)).sum
def fC (W : List HK) : List Int := (W.map (fun q => q.2.2)).flatten
theorem hcs_0 (W : List HK) : hcs W 0 = 0 := rfl
theorem hcs_s {W : List HK} {i : Nat} (h : i < W.length) : hcs W (i + 1) = hcs W i + (hk W i).2.2.length := by
  unfold hcs hk
  rw [List.take_add_one, List.map_append, List.sum_append, List.getElem?_eq_getElem h, List.getD_eq_getElem?_getD, List.getElem?_eq_getElem h]
  simp
theorem hcs_all (W : List HK) : hcs W W.length = (fC W).length := by
  unfold hcs fC
  rw [List.take_length, List.length_flatten, List.map_map]
  rfl
theorem hcs_app {W V : List HK} {i : Nat} (h : i ≤ W.length) : hcs (W ++ V) i = hcs W i := by
  unfold hcs; rw [List.take_append_of_le_length h]
theorem hcs_mono {W : List HK} {i j : Nat} (h : i ≤ j) : hcs W i ≤ hcs W j := by
  induction j with
  | zero => rw [Nat.le_zero.mp h]; exact Nat.le_refl _
  | succ j ih =>
    by_cases hij : i = j + 1
    · rw [hij]; exact Nat.le_refl _
    · have h1 := ih (by omega)
      by_cases hj : j < W.length
      · rw [hcs_s hj]; omega
      · have e : hcs W (j + 1) = hcs W j := by
          unfold hcs; rw [List.take_of_length_le (by omega), List.take_of_length_le (by omega)]
        omega
theorem hcs_le {W : List HK} (i : Nat) : hcs W i ≤ (fC W).length := by
  rw [← hcs_all]
  by_cases h : i ≤ W.length
  · exact hcs_mono h
  · unfold hcs; rw [List.take_of_length_le (by omega), List.take_length]; exact Nat.le_refl _
theorem fC_app (W V : List HK) : fC (W ++ V) = fC W ++ fC V := by simp [fC]
theorem fC_one (q : HK) : fC [q] = q.2.2 := by simp [fC]
theorem fC_at {W : List HK} {i k : Nat} (h : i < W.length) (hk1 : k < (hk W i).2.2.length) : (fC W).getD (hcs W i + k) 0 = (hk W i).2.2.getD k 0 := by
  induction W generalizing i with
  | nil => simp at h
  | cons q W ih =>
    have e : fC (q :: W) = q.2.2 ++ fC W := by simp [fC]
    cases i with
    | zero =>
      have e2 : hk (q :: W) 0 = q := rfl
      rw [e2] at hk1 ⊢
      rw [e, hcs_0, Nat.zero_add]
      simp only [List.getD_eq_getElem?_getD]
      rw [List.getElem?_append_left hk1]
    | succ i =>
      have e2 : hk (q :: W) (i + 1) = hk W i := rfl
      have e3 : hcs (q :: W) (i + 1) = q.2.2.length + hcs W i := by simp [hcs]
      rw [e2] at hk1 ⊢
      rw [e, e3]
      have := ih (i := i) (by simpa using h) hk1
      simp only [List.getD_eq_getElem?_getD] at this ⊢
      rw [Nat.add_assoc, List.getElem?_append_right (by omega), Nat.add_sub_cancel_left]
      exact this
theorem fC_in {W : List HK} {i k : Nat} (h : i < W.length) (hk1 : k < (hk W i).2.2.length) : hcs W i + k < (fC W).length := by
  have h1 := hcs_s h
  have h2 := @hcs_le W (i + 1)
  omega
/-- kinds, references and lengths of a patch's cells -/
def kPs (h : AH) (a mh ml : Nat) : Prop :=
  (ah_T h a = 13 ∧ ah_T h (a + 1) = 1 ∧ ah_T h (a + 2) = 1 ∧ ah_T h (a + 3) = 1 ∧ ah_T h (a + 4) = 1 ∧ ah_T h (a + 5) = 1) ∧
  (ah_P h a 0 = some (a + 1) ∧ ah_P h a 1 = some (a + 2) ∧ ah_P h a 2 = some (a + 3) ∧ ah_P h a 3 = some (a + 4) ∧ ah_P h a 4 = some (a + 5)) ∧
  (ah_N h (a + 1) = mh ∧ ah_N h (a + 2) = mh + 1 ∧ ah_N h (a + 3) = mh + 1 ∧ ah_N h (a + 4) = ml ∧ ah_N h (a + 5) = ml) ∧ mh ≤ 20 ∧ ml ≤ 56
def kPc (h : AH) (a mh ml : Nat) (W : List HK) : Prop :=
  ah_F h a 5 = (W.length : Int) ∧ (W.length ≤ mh ∧ (fG W).length ≤ ml ∧ (fC W).length ≤ ml) ∧ (∀ i : Nat, i < W.length → ah_I h (a + 1) (i : Int) = (hk W i).1) ∧
  (∀ i : Nat, i ≤ W.length → ah_I h (a + 2) (i : Int) = (hgs W i : Int)) ∧ (∀ i : Nat, i ≤ W.length → ah_I h (a + 3) (i : Int) = (hcs W i : Int)) ∧
  (∀ j : Nat, j < (fG W).length → ah_I h (a + 4) (j : Int) = (fG W).getD j 0) ∧ (∀ j : Nat, j < (fC W).length → ah_I h (a + 5) (j : Int) = (fC W).getD j 0)
def kP (h : AH) (a mh ml : Nat) (W : List HK) : Prop := kPs h a mh ml ∧ kPc h a mh ml W
theorem kP_fr {h h' : AH} {a mh ml lo hi : Nat} {W : List HK} (hP : kP h a mh ml W) (f : FRM h h' lo hi) (hd : a + 6 ≤ lo ∨ hi ≤ a) : kP h' a mh ml W := by
  obtain ⟨hs, hc⟩ := hP
  obtain ⟨e1, e2, e3, e4, e5, e6, e7⟩ := f
  refine ⟨?_, ?_⟩
  · unfold kPs at hs ⊢; rw [e1, e2, e3]; exact hs
  · unfold kPc at hc ⊢
    rw [e6 a (by omega), e7 (a + 1) (by omega), e7 (a + 2) (by omega), e7 (a + 3) (by omega), e7 (a + 4) (by omega), e7 (a + 5) (by omega)]
    exact hc
theorem kPs_fr {h h' : AH} {a mh ml lo hi : Nat} (hP : kPs h a mh ml) (f : FRM h h' lo hi) : kPs h' a mh ml := by
  obtain ⟨e1, e2, e3, e4, e5, e6, e7⟩ := f
  unfold kPs at hP ⊢; rw [e1, e2, e3]; exact hP
theorem kP_b {h : AH} {a mh ml : Nat} {W : List HK} (hP : kP h a mh ml W) {i : Int} (h0 : 0 ≤ i) (h1 : i < W.length) : ah_I h (a + 1) i = (hk W i.toNat).1 := by
  have := hP.2.2.2.1 i.toNat (by omega); rwa [Int.toNat_of_nonneg h0] at this
theorem kP_gf {h : AH} {a mh ml : Nat} {W : List HK} (hP : kP h a mh ml W) {i : Int} (h0 : 0 ≤ i) (h1 : i ≤ W.length) : ah_I h (a + 2) i = (hgs W i.toNat : Int) := by
  have := hP.2.2.2.2.1 i.toNat (by omega); rwa [Int.toNat_of_nonneg h0] at this
theorem kP_cf {h : AH} {a mh ml : Nat} {W : List HK} (hP : kP h a mh ml W) {i : Int} (h0 : 0 ≤ i) (h1 : i ≤ W.length) : ah_I h (a + 3) i = (hcs W i.toNat : Int) := by
  have := hP.2.2.2.2.2.1 i.toNat (by omega); rwa [Int.toNat_of_nonneg h0] at this
theorem kP_gl {h : AH} {a mh ml : Nat} {W : List HK} (hP : kP h a mh ml W) {i : Int} (h0 : 0 ≤ i) (h1 : i < (fG W).length) : ah_I h (a + 4) i = (fG W).getD i.toNat 0 := by
  have := hP.2.2.2.2.2.2.1 i.toNat (by omega); rwa [Int.toNat_of_nonneg h0] at this
theorem kP_cl {h : AH} {a mh ml : Nat} {W : List HK} (hP : kP h a mh ml W) {i : Int} (h0 : 0 ≤ i) (h1 : i < (fC W).length) : ah_I h (a + 5) i = (fC W).getD i.toNat 0 := by
  have := hP.2.2.2.2.2.2.2 i.toNat (by omega); rwa [Int.toNat_of_nonneg h0] at this
theorem q3_hunks {h : AH} {a mh ml : Nat} {W : List HK} (hP : kP h a mh ml W) : X3_hunks a h = some ((W.length : Int), h) := by
  obtain ⟨⟨⟨t0, t1, t2, t3, t4, t5⟩, ⟨p0, p1, p2, p3, p4⟩, ⟨n1, n2, n3, n4, n5⟩, m1, m2⟩, f5, ⟨l1, l2, l3⟩, c1, c2, c3, c4, c5⟩ := hP
  simp (disch := omega) only [X3_hunks, rr_p, rr_bp, rr_bb, rr_0, rr_lt, rr_blt, rr_le, rr_ble, rr_eq, rr_beq, rr_nl_n, rr_nl_s, rr_bnl_n, rr_bnl_s, rr_cond_t, rr_cond_f, rr_bcond_t, rr_bcond_f, rr_bon, rr_bcv, rr_cv, rr_g, rr_gr, rr_si, rr_sz, rr_sr, rr_al, rr_ld, rr_st, rr_rl, rr_rs, rr_ni, rr_nr, rr_z, rr_div, rr_rem, rr_lc, rr_mx, rr_mn, rr_ab, rr_no, gd_t, bc_t, bc_f, gd_tt, bc_tt, bc_ff, or_true, true_or, and_true, true_and, Nat.reduceAdd, f5]
theorem q3_begins {h : AH} {a mh ml : Nat} {W : List HK} (hP : kP h a mh ml W) {i : Int} (h0 : 0 ≤ i) (h1 : i < W.length) : X3_begins a i h = some ((hk W i.toNat).1, h) := by
  have hb := kP_b hP h0 h1
  obtain ⟨⟨⟨t0, t1, t2, t3, t4, t5⟩, ⟨p0, p1, p2, p3, p4⟩, ⟨n1, n2, n3, n4, n5⟩, m1, m2⟩, f5, ⟨l1, l2, l3⟩, c1, c2, c3, c4, c5⟩ := hP
  simp (disch := omega) only [X3_begins, rr_p, rr_bp, rr_bb, rr_0, rr_lt, rr_blt, rr_le, rr_ble, rr_eq, rr_beq, rr_nl_n, rr_nl_s, rr_bnl_n, rr_bnl_s, rr_cond_t, rr_cond_f, rr_bcond_t, rr_bcond_f, rr_bon, rr_bcv, rr_cv, rr_g, rr_gr, rr_si, rr_sz, rr_sr, rr_al, rr_ld, rr_st, rr_rl, rr_rs, rr_ni, rr_nr, rr_z, rr_div, rr_rem, rr_lc, rr_mx, rr_mn, rr_ab, rr_no, gd_t, bc_t, bc_f, gd_tt, bc_tt, bc_ff, or_true, true_or, and_true, true_and, Nat.reduceAdd, f5, p0, hb]
theorem q3_begins_o {h : AH} {a mh ml : Nat} {W : List HK} (hP : kP h a mh ml W) {i : Int} (h0 : (W.length : Int) ≤ i) (h1 : i ≤ 100) : X3_begins a i h = some (0, h) := by
  obtain ⟨⟨⟨t0, t1, t2, t3, t4, t5⟩, ⟨p0, p1, p2, p3, p4⟩, ⟨n1, n2, n3, n4, n5⟩, m1, m2⟩, f5, ⟨l1, l2, l3⟩, c1, c2, c3, c4, c5⟩ := hP
  simp (disch := omega) only [X3_begins, rr_p, rr_bp, rr_bb, rr_0, rr_lt, rr_blt, rr_le, rr_ble, rr_eq, rr_beq, rr_nl_n, rr_nl_s, rr_bnl_n, rr_bnl_s, rr_cond_t, rr_cond_f, rr_bcond_t, rr_bcond_f, rr_bon, rr_bcv, rr_cv, rr_g, rr_gr, rr_si, rr_sz, rr_sr, rr_al, rr_ld, rr_st, rr_rl, rr_rs, rr_ni, rr_nr, rr_z, rr_div, rr_rem, rr_lc, rr_mx, rr_mn, rr_ab, rr_no, gd_t, bc_t, bc_f, gd_tt, bc_tt, bc_ff, or_true, true_or, and_true, true_and, Nat.reduceAdd, f5, p0]
theorem q3_going {h : AH} {a mh ml : Nat} {W : List HK} (hP : kP h a mh ml W) {i : Int} (h0 : 0 ≤ i) (h1 : i < W.length) : X3_going a i h = some (((hk W i.toNat).2.1.length : Int), h) := by
  have hb := kP_gf hP h0 (by omega)
  have hb2 := kP_gf hP (i := i + 1) (by omega) (by omega)
  have hb3 := kP_cf hP h0 (by omega)
  have hb4 := kP_cf hP (i := i + 1) (by omega) (by omega)
  have e1 := @hgs_s W i.toNat (by omega)
  rw [show (i + 1).toNat = i.toNat + 1 by omega] at hb2 hb4
  obtain ⟨⟨⟨t0, t1, t2, t3, t4, t5⟩, ⟨p0, p1, p2, p3, p4⟩, ⟨n1, n2, n3, n4, n5⟩, m1, m2⟩, f5, ⟨l1, l2, l3⟩, c1, c2, c3, c4, c5⟩ := hP
  have e2 : ((hgs W (i.toNat + 1) : Nat) : Int) - ((hgs W i.toNat : Nat) : Int) = ((hk W i.toNat).2.1.length : Int) := by omega
  simp (disch := omega) only [X3_going, rr_p, rr_bp, rr_bb, rr_0, rr_lt, rr_blt, rr_le, rr_ble, rr_eq, rr_beq, rr_nl_n, rr_nl_s, rr_bnl_n, rr_bnl_s, rr_cond_t, rr_cond_f, rr_bcond_t, rr_bcond_f, rr_bon, rr_bcv, rr_cv, rr_g, rr_gr, rr_si, rr_sz, rr_sr, rr_al, rr_ld, rr_st, rr_rl, rr_rs, rr_ni, rr_nr, rr_z, rr_div, rr_rem, rr_lc, rr_mx, rr_mn, rr_ab, rr_no, gd_t, bc_t, bc_f, gd_tt, bc_tt, bc_ff, or_true, true_or, and_true, true_and, Nat.reduceAdd, f5, p0, p1, p2, hb, hb2, hb3, hb4, e2]
theorem q3_going_o {h : AH} {a mh ml : Nat} {W : List HK} (hP : kP h a mh ml W) {i : Int} (h0 : (W.length : Int) ≤ i) (h1 : i ≤ 100) : X3_going a i h = some (0, h) := by
  obtain ⟨⟨⟨t0, t1, t2, t3, t4, t5⟩, ⟨p0, p1, p2, p3, p4⟩, ⟨n1, n2, n3, n4, n5⟩, m1, m2⟩, f5, ⟨l1, l2, l3⟩, c1, c2, c3, c4, c5⟩ := hP
  simp (disch := omega) only [X3_going, rr_p, rr_bp, rr_bb, rr_0, rr_lt, rr_blt, rr_le, rr_ble, rr_eq, rr_beq, rr_nl_n, rr_nl_s, rr_bnl_n, rr_bnl_s, rr_cond_t, rr_cond_f, rr_bcond_t, rr_bcond_f, rr_bon, rr_bcv, rr_cv, rr_g, rr_gr, rr_si, rr_sz, rr_sr, rr_al, rr_ld, rr_st, rr_rl, rr_rs, rr_ni, rr_nr, rr_z, rr_div, rr_rem, rr_lc, rr_mx, rr_mn, rr_ab, rr_no, gd_t, bc_t, bc_f, gd_tt, bc_tt, bc_ff, or_true, true_or, and_true, true_and, Nat.reduceAdd, f5, p0]
theorem q3_allGoing {h : AH} {a mh ml : Nat} {W : List HK} (hP : kP h a mh ml W) : X3_allGoing a h = some (((fG W).length : Int), h) := by
  have hb := kP_gf hP (i := (W.length : Int)) (by omega) (by omega)
  have hb3 := kP_cf hP (i := (W.length : Int)) (by omega) (by omega)
  have e1 := hgs_all W
  rw [show ((W.length : Nat) : Int).toNat = W.length by omega] at hb hb3
  obtain ⟨⟨⟨t0, t1, t2, t3, t4, t5⟩, ⟨p0, p1, p2, p3, p4⟩, ⟨n1, n2, n3, n4, n5⟩, m1, m2⟩, f5, ⟨l1, l2, l3⟩, c1, c2, c3, c4, c5⟩ := hP
  simp (disch := omega) only [X3_allGoing, X3_start, rr_p, rr_bp, rr_bb, rr_0, rr_lt, rr_blt, rr_le, rr_ble, rr_eq, rr_beq, rr_nl_n, rr_nl_s, rr_bnl_n, rr_bnl_s, rr_cond_t, rr_cond_f, rr_bcond_t, rr_bcond_f, rr_bon, rr_bcv, rr_cv, rr_g, rr_gr, rr_si, rr_sz, rr_sr, rr_al, rr_ld, rr_st, rr_rl, rr_rs, rr_ni, rr_nr, rr_z, rr_div, rr_rem, rr_lc, rr_mx, rr_mn, rr_ab, rr_no, gd_t, bc_t, bc_f, gd_tt, bc_tt, bc_ff, or_true, true_or, and_true, true_and, Nat.reduceAdd, f5, p0, p1, p2, hb, hb3, e1]
theorem q3_goingLine {h : AH} {a mh ml : Nat} {W : List HK} (hP : kP h a mh ml W) {i k : Int} (h0 : 0 ≤ i) (h1 : i < W.length) (hk0 : -2147483648 ≤ k ∧ k ≤ 100000) : X3_goingLine a i k h = some (if 0 ≤ k ∧ k < (hk W i.toNat).2.1.length then (hk W i.toNat).2.1.getD k.toNat 0 else -1, h) := by
  have hb := kP_gf hP h0 (by omega)
  have hb3 := kP_cf hP h0 (by omega)
  have hg := q3_going hP h0 h1
  have hl : ∀ j : Int, 0 ≤ j → j < (fG W).length → ah_I h (a + 4) j = (fG W).getD j.toNat 0 := fun j q1 q2 => by first | exact kP_gl hP q1 q2 | exact kP_cl hP q1 q2
  have hle := @hgs_le W (i.toNat + 1)
  have hss := @hgs_s W i.toNat (by omega)
  obtain ⟨⟨⟨t0, t1, t2, t3, t4, t5⟩, ⟨p0, p1, p2, p3, p4⟩, ⟨n1, n2, n3, n4, n5⟩, m1, m2⟩, f5, ⟨l1, l2, l3⟩, c1, c2, c3, c4, c5⟩ := hP
  by_cases hk1 : 0 ≤ k
  · by_cases hk2 : k < (hk W i.toNat).2.1.length
    · have e1 := @fG_at W i.toNat k.toNat (by omega) (by omega)
      have e2 := hl (((hgs W i.toNat : Nat) : Int) + k) (by omega) (by omega)
      rw [show (((hgs W i.toNat : Nat) : Int) + k).toNat = hgs W i.toNat + k.toNat by omega, e1] at e2
      rw [if_pos (by omega)]
      simp (disch := omega) only [X3_goingLine, X3_start, rr_p, rr_bp, rr_bb, rr_0, rr_lt, rr_blt, rr_le, rr_ble, rr_eq, rr_beq, rr_nl_n, rr_nl_s, rr_bnl_n, rr_bnl_s, rr_cond_t, rr_cond_f, rr_bcond_t, rr_bcond_f, rr_bon, rr_bcv, rr_cv, rr_g, rr_gr, rr_si, rr_sz, rr_sr, rr_al, rr_ld, rr_st, rr_rl, rr_rs, rr_ni, rr_nr, rr_z, rr_div, rr_rem, rr_lc, rr_mx, rr_mn, rr_ab, rr_no, gd_t, bc_t, bc_f, gd_tt, bc_tt, bc_ff, or_true, true_or, and_true, true_and, Nat.reduceAdd, f5, p0, p1, p2, p3, p4, hb, hb3, mo_b_s hg, e2]
    · rw [if_neg (by omega)]
      simp (disch := omega) only [X3_goingLine, X3_start, rr_p, rr_bp, rr_bb, rr_0, rr_lt, rr_blt, rr_le, rr_ble, rr_eq, rr_beq, rr_nl_n, rr_nl_s, rr_bnl_n, rr_bnl_s, rr_cond_t, rr_cond_f, rr_bcond_t, rr_bcond_f, rr_bon, rr_bcv, rr_cv, rr_g, rr_gr, rr_si, rr_sz, rr_sr, rr_al, rr_ld, rr_st, rr_rl, rr_rs, rr_ni, rr_nr, rr_z, rr_div, rr_rem, rr_lc, rr_mx, rr_mn, rr_ab, rr_no, gd_t, bc_t, bc_f, gd_tt, bc_tt, bc_ff, or_true, true_or, and_true, true_and, Nat.reduceAdd, f5, p0, p1, p2, p3, p4, hb, hb3, mo_b_s hg]
  · rw [if_neg (by omega)]
    simp (disch := omega) only [X3_goingLine, X3_start, rr_p, rr_bp, rr_bb, rr_0, rr_lt, rr_blt, rr_le, rr_ble, rr_eq, rr_beq, rr_nl_n, rr_nl_s, rr_bnl_n, rr_bnl_s, rr_cond_t, rr_cond_f, rr_bcond_t, rr_bcond_f, rr_bon, rr_bcv, rr_cv, rr_g, rr_gr, rr_si, rr_sz, rr_sr, rr_al, rr_ld, rr_st, rr_rl, rr_rs, rr_ni, rr_nr, rr_z, rr_div, rr_rem, rr_lc, rr_mx, rr_mn, rr_ab, rr_no, gd_t, bc_t, bc_f, gd_tt, bc_tt, bc_ff, or_true, true_or, and_true, true_and, Nat.reduceAdd, f5, p0, p1, p2, p3, p4, hb, hb3, mo_b_s hg]
theorem q3_coming {h : AH} {a mh ml : Nat} {W : List HK} (hP : kP h a mh ml W) {i : Int} (h0 : 0 ≤ i) (h1 : i < W.length) : X3_coming a i h = some (((hk W i.toNat).2.2.length : Int), h) := by
  have hb := kP_gf hP h0 (by omega)
  have hb2 := kP_gf hP (i := i + 1) (by omega) (by omega)
  have hb3 := kP_cf hP h0 (by omega)
  have hb4 := kP_cf hP (i := i + 1) (by omega) (by omega)
  have e1 := @hcs_s W i.toNat (by omega)
  rw [show (i + 1).toNat = i.toNat + 1 by omega] at hb2 hb4
  obtain ⟨⟨⟨t0, t1, t2, t3, t4, t5⟩, ⟨p0, p1, p2, p3, p4⟩, ⟨n1, n2, n3, n4, n5⟩, m1, m2⟩, f5, ⟨l1, l2, l3⟩, c1, c2, c3, c4, c5⟩ := hP
  have e2 : ((hcs W (i.toNat + 1) : Nat) : Int) - ((hcs W i.toNat : Nat) : Int) = ((hk W i.toNat).2.2.length : Int) := by omega
  simp (disch := omega) only [X3_coming, rr_p, rr_bp, rr_bb, rr_0, rr_lt, rr_blt, rr_le, rr_ble, rr_eq, rr_beq, rr_nl_n, rr_nl_s, rr_bnl_n, rr_bnl_s, rr_cond_t, rr_cond_f, rr_bcond_t, rr_bcond_f, rr_bon, rr_bcv, rr_cv, rr_g, rr_gr, rr_si, rr_sz, rr_sr, rr_al, rr_ld, rr_st, rr_rl, rr_rs, rr_ni, rr_nr, rr_z, rr_div, rr_rem, rr_lc, rr_mx, rr_mn, rr_ab, rr_no, gd_t, bc_t, bc_f, gd_tt, bc_tt, bc_ff, or_true, true_or, and_true, true_and, Nat.reduceAdd, f5, p0, p1, p2, hb, hb2, hb3, hb4, e2]
theorem q3_coming_o {h : AH} {a mh ml : Nat} {W : List HK} (hP : kP h a mh ml W) {i : Int} (h0 : (W.length : Int) ≤ i) (h1 : i ≤ 100) : X3_coming a i h = some (0, h) := by
  obtain ⟨⟨⟨t0, t1, t2, t3, t4, t5⟩, ⟨p0, p1, p2, p3, p4⟩, ⟨n1, n2, n3, n4, n5⟩, m1, m2⟩, f5, ⟨l1, l2, l3⟩, c1, c2, c3, c4, c5⟩ := hP
  simp (disch := omega) only [X3_coming, rr_p, rr_bp, rr_bb, rr_0, rr_lt, rr_blt, rr_le, rr_ble, rr_eq, rr_beq, rr_nl_n, rr_nl_s, rr_bnl_n, rr_bnl_s, rr_cond_t, rr_cond_f, rr_bcond_t, rr_bcond_f, rr_bon, rr_bcv, rr_cv, rr_g, rr_gr, rr_si, rr_sz, rr_sr, rr_al, rr_ld, rr_st, rr_rl, rr_rs, rr_ni, rr_nr, rr_z, rr_div, rr_rem, rr_lc, rr_mx, rr_mn, rr_ab, rr_no, gd_t, bc_t, bc_f, gd_tt, bc_tt, bc_ff, or_true, true_or, and_true, true_and, Nat.reduceAdd, f5, p0]
theorem q3_allComing {h : AH} {a mh ml : Nat} {W : List HK} (hP : kP h a mh ml W) : X3_allComing a h = some (((fC W).length : Int), h) := by
  have hb := kP_gf hP (i := (W.length : Int)) (by omega) (by omega)
  have hb3 := kP_cf hP (i := (W.length : Int)) (by omega) (by omega)
  have e1 := hcs_all W
  rw [show ((W.length : Nat) : Int).toNat = W.length by omega] at hb hb3
  obtain ⟨⟨⟨t0, t1, t2, t3, t4, t5⟩, ⟨p0, p1, p2, p3, p4⟩, ⟨n1, n2, n3, n4, n5⟩, m1, m2⟩, f5, ⟨l1, l2, l3⟩, c1, c2, c3, c4, c5⟩ := hP
  simp (disch := omega) only [X3_allComing, X3_start, rr_p, rr_bp, rr_bb, rr_0, rr_lt, rr_blt, rr_le, rr_ble, rr_eq, rr_beq, rr_nl_n, rr_nl_s, rr_bnl_n, rr_bnl_s, rr_cond_t, rr_cond_f, rr_bcond_t, rr_bcond_f, rr_bon, rr_bcv, rr_cv, rr_g, rr_gr, rr_si, rr_sz, rr_sr, rr_al, rr_ld, rr_st, rr_rl, rr_rs, rr_ni, rr_nr, rr_z, rr_div, rr_rem, rr_lc, rr_mx, rr_mn, rr_ab, rr_no, gd_t, bc_t, bc_f, gd_tt, bc_tt, bc_ff, or_true, true_or, and_true, true_and, Nat.reduceAdd, f5, p0, p1, p2, hb, hb3, e1]
theorem q3_comingLine {h : AH} {a mh ml : Nat} {W : List HK} (hP : kP h a mh ml W) {i k : Int} (h0 : 0 ≤ i) (h1 : i < W.length) (hk0 : -2147483648 ≤ k ∧ k ≤ 100000) : X3_comingLine a i k h = some (if 0 ≤ k ∧ k < (hk W i.toNat).2.2.length then (hk W i.toNat).2.2.getD k.toNat 0 else -1, h) := by
  have hb := kP_gf hP h0 (by omega)
  have hb3 := kP_cf hP h0 (by omega)
  have hg := q3_coming hP h0 h1
  have hl : ∀ j : Int, 0 ≤ j → j < (fC W).length → ah_I h (a + 5) j = (fC W).getD j.toNat 0 := fun j q1 q2 => by first | exact kP_gl hP q1 q2 | exact kP_cl hP q1 q2
  have hle := @hcs_le W (i.toNat + 1)
  have hss := @hcs_s W i.toNat (by omega)
  obtain ⟨⟨⟨t0, t1, t2, t3, t4, t5⟩, ⟨p0, p1, p2, p3, p4⟩, ⟨n1, n2, n3, n4, n5⟩, m1, m2⟩, f5, ⟨l1, l2, l3⟩, c1, c2, c3, c4, c5⟩ := hP
  by_cases hk1 : 0 ≤ k
  · by_cases hk2 : k < (hk W i.toNat).2.2.length
    · have e1 := @fC_at W i.toNat k.toNat (by omega) (by omega)
      have e2 := hl (((hcs W i.toNat : Nat) : Int) + k) (by omega) (by omega)
      rw [show (((hcs W i.toNat : Nat) : Int) + k).toNat = hcs W i.toNat + k.toNat by omega, e1] at e2
      rw [if_pos (by omega)]
      simp (disch := omega) only [X3_comingLine, X3_start, rr_p, rr_bp, rr_bb, rr_0, rr_lt, rr_blt, rr_le, rr_ble, rr_eq, rr_beq, rr_nl_n, rr_nl_s, rr_bnl_n, rr_bnl_s, rr_cond_t, rr_cond_f, rr_bcond_t, rr_bcond_f, rr_bon, rr_bcv, rr_cv, rr_g, rr_gr, rr_si, rr_sz, rr_sr, rr_al, rr_ld, rr_st, rr_rl, rr_rs, rr_ni, rr_nr, rr_z, rr_div, rr_rem, rr_lc, rr_mx, rr_mn, rr_ab, rr_no, gd_t, bc_t, bc_f, gd_tt, bc_tt, bc_ff, or_true, true_or, and_true, true_and, Nat.reduceAdd, f5, p0, p1, p2, p3, p4, hb, hb3, mo_b_s hg, e2]
    · rw [if_neg (by omega)]
      simp (disch := omega) only [X3_comingLine, X3_start, rr_p, rr_bp, rr_bb, rr_0, rr_lt, rr_blt, rr_le, rr_ble, rr_eq, rr_beq, rr_nl_n, rr_nl_s, rr_bnl_n, rr_bnl_s, rr_cond_t, rr_cond_f, rr_bcond_t, rr_bcond_f, rr_bon, rr_bcv, rr_cv, rr_g, rr_gr, rr_si, rr_sz, rr_sr, rr_al, rr_ld, rr_st, rr_rl, rr_rs, rr_ni, rr_nr, rr_z, rr_div, rr_rem, rr_lc, rr_mx, rr_mn, rr_ab, rr_no, gd_t, bc_t, bc_f, gd_tt, bc_tt, bc_ff, or_true, true_or, and_true, true_and, Nat.reduceAdd, f5, p0, p1, p2, p3, p4, hb, hb3, mo_b_s hg]
  · rw [if_neg (by omega)]
    simp (disch := omega) only [X3_comingLine, X3_start, rr_p, rr_bp, rr_bb, rr_0, rr_lt, rr_blt, rr_le, rr_ble, rr_eq, rr_beq, rr_nl_n, rr_nl_s, rr_bnl_n, rr_bnl_s, rr_cond_t, rr_cond_f, rr_bcond_t, rr_bcond_f, rr_bon, rr_bcv, rr_cv, rr_g, rr_gr, rr_si, rr_sz, rr_sr, rr_al, rr_ld, rr_st, rr_rl, rr_rs, rr_ni, rr_nr, rr_z, rr_div, rr_rem, rr_lc, rr_mx, rr_mn, rr_ab, rr_no, gd_t, bc_t, bc_f, gd_tt, bc_tt, bc_ff, or_true, true_or, and_true, true_and, Nat.reduceAdd, f5, p0, p1, p2, p3, p4, hb, hb3, mo_b_s hg]
theorem q3_room {h : AH} {a mh ml : Nat} {W : List HK} (hP : kP h a mh ml W) : X3_room a h = some (2 * (W.length : Int) + ((fC W).length : Int) + 1, h) := by
  have hc := q3_allComing hP
  obtain ⟨⟨⟨t0, t1, t2, t3, t4, t5⟩, ⟨p0, p1, p2, p3, p4⟩, ⟨n1, n2, n3, n4, n5⟩, m1, m2⟩, f5, ⟨l1, l2, l3⟩, c1, c2, c3, c4, c5⟩ := hP
  simp (disch := omega) only [X3_room, rr_p, rr_bp, rr_bb, rr_0, rr_lt, rr_blt, rr_le, rr_ble, rr_eq, rr_beq, rr_nl_n, rr_nl_s, rr_bnl_n, rr_bnl_s, rr_cond_t, rr_cond_f, rr_bcond_t, rr_bcond_f, rr_bon, rr_bcv, rr_cv, rr_g, rr_gr, rr_si, rr_sz, rr_sr, rr_al, rr_ld, rr_st, rr_rl, rr_rs, rr_ni, rr_nr, rr_z, rr_div, rr_rem, rr_lc, rr_mx, rr_mn, rr_ab, rr_no, gd_t, bc_t, bc_f, gd_tt, bc_tt, bc_ff, or_true, true_or, and_true, true_and, Nat.reduceAdd, f5, mo_b_s hc]
theorem q3_shift {h : AH} {a mh ml : Nat} {W : List HK} (hP : kP h a mh ml W) {i : Int} (h0 : 0 ≤ i) (h1 : i ≤ W.length) : X3_shiftBefore a i h = some ((hcs W i.toNat : Int) - (hgs W i.toNat : Int), h) := by
  have hb := kP_gf hP h0 h1
  have hb3 := kP_cf hP h0 h1
  obtain ⟨⟨⟨t0, t1, t2, t3, t4, t5⟩, ⟨p0, p1, p2, p3, p4⟩, ⟨n1, n2, n3, n4, n5⟩, m1, m2⟩, f5, ⟨l1, l2, l3⟩, c1, c2, c3, c4, c5⟩ := hP
  simp (disch := omega) only [X3_shiftBefore, rr_p, rr_bp, rr_bb, rr_0, rr_lt, rr_blt, rr_le, rr_ble, rr_eq, rr_beq, rr_nl_n, rr_nl_s, rr_bnl_n, rr_bnl_s, rr_cond_t, rr_cond_f, rr_bcond_t, rr_bcond_f, rr_bon, rr_bcv, rr_cv, rr_g, rr_gr, rr_si, rr_sz, rr_sr, rr_al, rr_ld, rr_st, rr_rl, rr_rs, rr_ni, rr_nr, rr_z, rr_div, rr_rem, rr_lc, rr_mx, rr_mn, rr_ab, rr_no, gd_t, bc_t, bc_f, gd_tt, bc_tt, bc_ff, or_true, true_or, and_true, true_and, Nat.reduceAdd, f5, p0, p1, p2, hb, hb3]
/-- where hunk i begins in the row behind -/
def hB (W : List HK) (i : Nat) : Int := (hk W i).1 + ((hcs W i : Int) - (hgs W i : Int))
def pW (W : List HK) : Prop := ∀ i : Nat, i < W.length → -100000 ≤ (hk W i).1 ∧ (hk W i).1 ≤ 100000
theorem q3_ends {h : AH} {a mh ml : Nat} {W : List HK} (hP : kP h a mh ml W) {i : Int} (h0 : 0 ≤ i) (h1 : i < W.length) : X3_ends a i h = some ((hk W i.toNat).1 + ((hk W i.toNat).2.1.length : Int), h) := by
  have e1 := q3_begins hP h0 h1
  have e2 := q3_going hP h0 h1
  have t0 := hP.1.1.1
  simp (disch := omega) only [X3_ends, rr_p, rr_bp, rr_bb, rr_0, rr_lt, rr_blt, rr_le, rr_ble, rr_eq, rr_beq, rr_nl_n, rr_nl_s, rr_bnl_n, rr_bnl_s, rr_cond_t, rr_cond_f, rr_bcond_t, rr_bcond_f, rr_bon, rr_bcv, rr_cv, rr_g, rr_gr, rr_si, rr_sz, rr_sr, rr_al, rr_ld, rr_st, rr_rl, rr_rs, rr_ni, rr_nr, rr_z, rr_div, rr_rem, rr_lc, rr_mx, rr_mn, rr_ab, rr_no, gd_t, bc_t, bc_f, gd_tt, bc_tt, bc_ff, or_true, true_or, and_true, true_and, Nat.reduceAdd, mo_b_s e1, mo_b_s e2]
theorem q3_beginsBehind {h : AH} {a mh ml : Nat} {W : List HK} (hP : kP h a mh ml W) {i : Int} (h0 : 0 ≤ i) (h1 : i < W.length) : X3_beginsBehind a i h = some (hB W i.toNat, h) := by
  have e1 := q3_begins hP h0 h1
  have e2 := q3_shift hP h0 (by omega)
  have t0 := hP.1.1.1
  simp (disch := omega) only [X3_beginsBehind, rr_p, rr_bp, rr_bb, rr_0, rr_lt, rr_blt, rr_le, rr_ble, rr_eq, rr_beq, rr_nl_n, rr_nl_s, rr_bnl_n, rr_bnl_s, rr_cond_t, rr_cond_f, rr_bcond_t, rr_bcond_f, rr_bon, rr_bcv, rr_cv, rr_g, rr_gr, rr_si, rr_sz, rr_sr, rr_al, rr_ld, rr_st, rr_rl, rr_rs, rr_ni, rr_nr, rr_z, rr_div, rr_rem, rr_lc, rr_mx, rr_mn, rr_ab, rr_no, gd_t, bc_t, bc_f, gd_tt, bc_tt, bc_ff, or_true, true_or, and_true, true_and, Nat.reduceAdd, mo_b_s e1, mo_b_s e2, hB]
theorem q3_beginsBehind_o {h : AH} {a mh ml : Nat} {W : List HK} (hP : kP h a mh ml W) : X3_beginsBehind a (W.length : Int) h = some (0 + ((hcs W W.length : Int) - (hgs W W.length : Int)), h) := by
  have hl := hP.2.2.1.1
  have hm := hP.1.2.2.2.1
  have e1 := q3_begins_o hP (i := (W.length : Int)) (by omega) (by omega)
  have e2 := q3_shift hP (i := (W.length : Int)) (by omega) (by omega)
  rw [show ((W.length : Nat) : Int).toNat = W.length by omega] at e2
  have t0 := hP.1.1.1
  simp (disch := omega) only [X3_beginsBehind, rr_p, rr_bp, rr_bb, rr_0, rr_lt, rr_blt, rr_le, rr_ble, rr_eq, rr_beq, rr_nl_n, rr_nl_s, rr_bnl_n, rr_bnl_s, rr_cond_t, rr_cond_f, rr_bcond_t, rr_bcond_f, rr_bon, rr_bcv, rr_cv, rr_g, rr_gr, rr_si, rr_sz, rr_sr, rr_al, rr_ld, rr_st, rr_rl, rr_rs, rr_ni, rr_nr, rr_z, rr_div, rr_rem, rr_lc, rr_mx, rr_mn, rr_ab, rr_no, gd_t, bc_t, bc_f, gd_tt, bc_tt, bc_ff, or_true, true_or, and_true, true_and, Nat.reduceAdd, mo_b_s e1, mo_b_s e2]
theorem q3_endsBehind {h : AH} {a mh ml : Nat} {W : List HK} (hP : kP h a mh ml W) {i : Int} (h0 : 0 ≤ i) (h1 : i < W.length) : X3_endsBehind a i h = some (hB W i.toNat + ((hk W i.toNat).2.2.length : Int), h) := by
  have e1 := q3_beginsBehind hP h0 h1
  have e2 := q3_coming hP h0 h1
  have t0 := hP.1.1.1
  simp (disch := omega) only [X3_endsBehind, rr_p, rr_bp, rr_bb, rr_0, rr_lt, rr_blt, rr_le, rr_ble, rr_eq, rr_beq, rr_nl_n, rr_nl_s, rr_bnl_n, rr_bnl_s, rr_cond_t, rr_cond_f, rr_bcond_t, rr_bcond_f, rr_bon, rr_bcv, rr_cv, rr_g, rr_gr, rr_si, rr_sz, rr_sr, rr_al, rr_ld, rr_st, rr_rl, rr_rs, rr_ni, rr_nr, rr_z, rr_div, rr_rem, rr_lc, rr_mx, rr_mn, rr_ab, rr_no, gd_t, bc_t, bc_f, gd_tt, bc_tt, bc_ff, or_true, true_or, and_true, true_and, Nat.reduceAdd, mo_b_s e1, mo_b_s e2]
