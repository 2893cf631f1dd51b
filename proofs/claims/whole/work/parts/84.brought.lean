theorem trc_f : ∀ (n : Nat) (x y : List Int) (j : Int), 0 ≤ j → x.length + y.length ≤ n → (∀ k, k < x.length → (trc x y j).getD k 0 = -1 ∨ (j ≤ (trc x y j).getD k 0 ∧ (trc x y j).getD k 0 < j + y.length)) ∧ ∀ k l, k < l → l < x.length → (trc x y j).getD k 0 ≠ -1 → (trc x y j).getD l 0 ≠ -1 → (trc x y j).getD k 0 < (trc x y j).getD l 0 := by
  intro n
  induction n with
  | zero =>
    intro x y j _ hn
    have : x = [] := List.length_eq_zero_iff.mp (by omega)
    subst this
    exact ⟨fun k hk => by simp at hk, fun k l _ hl => by simp at hl⟩
  | succ n ih =>
    intro x y j hj hn
    match x, y with
    | [], y => exact ⟨fun k hk => by simp at hk, fun k l _ hl => by simp at hl⟩
    | a :: x, [] =>
      obtain ⟨h1, h2⟩ := ih x [] j hj (by simp only [List.length_cons] at hn; simp only [List.length_nil] at hn ⊢; omega)
      rw [trc]
      refine ⟨fun k hk => ?_, fun k l hkl hl a1 a2 => ?_⟩
      · cases k with
        | zero => exact Or.inl rfl
        | succ k => exact h1 k (by simpa using hk)
      · cases k with
        | zero => exact absurd rfl a1
        | succ k =>
          cases l with
          | zero => omega
          | succ l => exact h2 k l (by omega) (by simpa using hl) a1 a2
    | a :: x, b :: y =>
      simp only [List.length_cons] at hn
      rw [trc]
      by_cases c : a = b
      · rw [if_pos c]
        obtain ⟨h1, h2⟩ := ih x y (j + 1) (by omega) (by omega)
        refine ⟨fun k hk => ?_, fun k l hkl hl a1 a2 => ?_⟩
        · cases k with
          | zero => exact Or.inr ⟨Int.le_refl _, by show j < j + ((b :: y).length : Int); rw [List.length_cons]; omega⟩
          | succ k =>
            rcases h1 k (by simpa using hk) with z | z
            · exact Or.inl z
            · refine Or.inr ?_
              show j ≤ (trc x y (j + 1)).getD k 0 ∧ (trc x y (j + 1)).getD k 0 < j + ((b :: y).length : Int)
              rw [List.length_cons]; omega
        · cases l with
          | zero => omega
          | succ l =>
            cases k with
            | zero =>
              rcases h1 l (by simpa using hl) with z | z
              · exact absurd z a2
              · show j < (trc x y (j + 1)).getD l 0; omega
            | succ k => exact h2 k l (by omega) (by simpa using hl) a1 a2
      · rw [if_neg c]
        by_cases c2 : ml x (b :: y) = ml (a :: x) (b :: y)
        · rw [if_pos c2]
          obtain ⟨h1, h2⟩ := ih x (b :: y) j hj (by simp only [List.length_cons]; omega)
          refine ⟨fun k hk => ?_, fun k l hkl hl a1 a2 => ?_⟩
          · cases k with
            | zero => exact Or.inl rfl
            | succ k => exact h1 k (by simpa using hk)
          · cases k with
            | zero => exact absurd rfl a1
            | succ k =>
              cases l with
              | zero => omega
              | succ l => exact h2 k l (by omega) (by simpa using hl) a1 a2
        · rw [if_neg c2]
          obtain ⟨h1, h2⟩ := ih (a :: x) y (j + 1) (by omega) (by simp only [List.length_cons]; omega)
          refine ⟨fun k hk => ?_, h2⟩
          rcases h1 k hk with z | z
          · exact Or.inl z
          · refine Or.inr ?_
            rw [List.length_cons]; omega
theorem trc_r {x y : List Int} {k : Nat} (hk1 : k < x.length) : (trc x y 0).getD k 0 = -1 ∨ (0 ≤ (trc x y 0).getD k 0 ∧ (trc x y 0).getD k 0 < y.length) := by
  have := (trc_f _ x y 0 (Int.le_refl _) (Nat.le_refl _)).1 k hk1
  omega
theorem trc_i {x y : List Int} {k l : Nat} (hk1 : k < x.length) (hl : l < x.length) (h0 : (trc x y 0).getD k 0 ≠ -1) (h : (trc x y 0).getD k 0 = (trc x y 0).getD l 0) : k = l := by
  have h2 := (trc_f _ x y 0 (Int.le_refl _) (Nat.le_refl _)).2
  by_cases c : k < l
  · have := h2 k l c hl h0 (by rw [← h]; exact h0); omega
  · by_cases c2 : l < k
    · have := h2 l k c2 hk1 (by rw [← h]; exact h0) h0; omega
    · omega
theorem led_y {x y : List Int} {k : Nat} {i : Int} (hk1 : k < x.length) (hi : 0 ≤ i) (h : (trc x y 0).getD k 0 = i) : led x y i = (k : Int) := by
  unfold led
  refine sr_yes _ _ k (by omega) (by omega) h (fun l _ l2 hl => ?_)
  have := trc_i (x := x) (y := y) (k := l) (l := k) (by omega) hk1 (by omega) (by omega)
  omega
theorem led_n {x y : List Int} {i : Int} (h : ∀ k, k < x.length → (trc x y 0).getD k 0 ≠ i) : led x y i = -1 := by
  unfold led
  exact sr_no _ _ (fun j _ h2 => h j (by omega))
theorem led_r {x y : List Int} {i : Int} (hi : 0 ≤ i) : led x y i = -1 ∨ (0 ≤ led x y i ∧ led x y i < x.length) := by
  by_cases c : ∃ k, k < x.length ∧ (trc x y 0).getD k 0 = i
  · obtain ⟨k, k1, k2⟩ := c
    rw [led_y k1 hi k2]; omega
  · exact Or.inl (led_n (fun k k1 k2 => c ⟨k, k1, k2⟩))
/-- what parents are -/
def oPar (V : List VR) : Prop := ∀ i : Nat, i < V.length → (-1 ≤ (vn V i).2.1 ∧ (vn V i).2.1 < i) ∧ (-1 ≤ (vn V i).2.2.1 ∧ (vn V i).2.2.1 < i)
theorem OV_par {V : List VR} (h : OV V) : oPar V := fun i hi => ⟨(h.2 i hi).2.2.1, (h.2 i hi).2.2.2.1⟩
theorem ledP_n {V : List VR} {v : Nat} {p a : Int} (h : ledP V v p a ≠ -1) : p ≠ -1 := fun z => h (by unfold ledP; rw [bc_t z])
theorem bro_st {V : List VR} (h : oPar V) : ∀ (N v n : Nat) (a : Int), v < N → v < V.length → v < n → bro V n v a = bro V (v + 1) v a := by
  intro N
  induction N with
  | zero => intro v n a hv; omega
  | succ N ih =>
    intro v n a hv hl hn
    obtain ⟨n, rfl⟩ : ∃ n', n = n' + 1 := ⟨n - 1, by omega⟩
    obtain ⟨⟨a1, a2⟩, b1, b2⟩ := h v hl
    rw [bro, bro]
    by_cases c1 : ledP V v (vn V v).2.1 a ≠ -1
    · have := ledP_n c1
      rw [bc_t c1, bc_t c1, ih (vn V v).2.1.toNat n _ (by omega) (by omega) (by omega), ih (vn V v).2.1.toNat v _ (by omega) (by omega) (by omega)]
    · rw [bc_f c1, bc_f c1]
      by_cases c2 : ledP V v (vn V v).2.2.1 a ≠ -1
      · have := ledP_n c2
        rw [bc_t c2, bc_t c2, ih (vn V v).2.2.1.toNat n _ (by omega) (by omega) (by omega), ih (vn V v).2.2.1.toNat v _ (by omega) (by omega) (by omega)]
      · rw [bc_f c2, bc_f c2]
/-- one step back -/
theorem bro_1 {V : List VR} (h : oPar V) {v : Nat} {a : Int} (hl : v < V.length) (c1 : ledP V v (vn V v).2.1 a ≠ -1) : bro V (v + 1) v a = bro V ((vn V v).2.1.toNat + 1) (vn V v).2.1.toNat (ledP V v (vn V v).2.1 a) := by
  obtain ⟨⟨a1, a2⟩, b1, b2⟩ := h v hl
  have := ledP_n c1
  rw [bro, bc_t c1, bro_st h _ _ v _ (Nat.lt_succ_self _) (by omega) (by omega)]
theorem bro_2 {V : List VR} (h : oPar V) {v : Nat} {a : Int} (hl : v < V.length) (c1 : ledP V v (vn V v).2.1 a = -1) (c2 : ledP V v (vn V v).2.2.1 a ≠ -1) : bro V (v + 1) v a = bro V ((vn V v).2.2.1.toNat + 1) (vn V v).2.2.1.toNat (ledP V v (vn V v).2.2.1 a) := by
  obtain ⟨⟨a1, a2⟩, b1, b2⟩ := h v hl
  have := ledP_n c2
  rw [bro, bc_f (fun z => z c1), bc_t c2, bro_st h _ _ v _ (Nat.lt_succ_self _) (by omega) (by omega)]
theorem bro_3 {V : List VR} {v : Nat} {a : Int} (c1 : ledP V v (vn V v).2.1 a = -1) (c2 : ledP V v (vn V v).2.2.1 a = -1) : bro V (v + 1) v a = (v : Int) := by
  rw [bro, bc_f (fun z => z c1), bc_f (fun z => z c2)]
theorem bro_r {V : List VR} (h : oPar V) : ∀ (n v : Nat) (a : Int), v < V.length → 0 ≤ bro V n v a ∧ bro V n v a < V.length := by
  intro n
  induction n with
  | zero => intro v a hv; show 0 ≤ (v : Int) ∧ (v : Int) < V.length; omega
  | succ n ih =>
    intro v a hl
    obtain ⟨⟨a1, a2⟩, b1, b2⟩ := h v hl
    rw [bro]
    by_cases c1 : ledP V v (vn V v).2.1 a ≠ -1
    · have := ledP_n c1
      rw [bc_t c1]; exact ih _ _ (by omega)
    · rw [bc_f c1]
      by_cases c2 : ledP V v (vn V v).2.2.1 a ≠ -1
      · have := ledP_n c2
        rw [bc_t c2]; exact ih _ _ (by omega)
      · rw [bc_f c2]; omega
theorem q7_ledTo {h : AH} {m v : Nat} {s : SG} (hM : MI h m s) (ho : OKS s) {p a : Int} (hv : v < s.2.1.length) (hp : -1 ≤ p ∧ p < s.2.1.length) (ha : 0 ≤ a ∧ a ≤ 100) : ∃ h', X7_ledTo m p (v : Int) a h = some (ledP s.2.1 v p a, h') ∧ MI h' m s := by
  have mT := hM.1.1
  have oV1 := ho.2.1.1
  by_cases cp : p = -1
  · subst cp
    exact ⟨h, by unfold ledP; rw [bc_t rfl]; simp (disch := omega) only [X7_ledTo, rr_p, rr_bp, rr_bb, rr_0, rr_lt, rr_blt, rr_le, rr_ble, rr_eq, rr_beq, rr_nl_n, rr_nl_s, rr_bnl_n, rr_bnl_s, rr_cond_t, rr_cond_f, rr_bcond_t, rr_bcond_f, rr_bon, rr_bcv, rr_cv, rr_g, rr_gr, rr_si, rr_sz, rr_sr, rr_al, rr_ld, rr_st, rr_rl, rr_rs, rr_ni, rr_nr, rr_z, rr_div, rr_rem, rr_lc, rr_mx, rr_mn, rr_ab, rr_no, gd_t, bc_t, bc_f, gd_tt, bc_tt, bc_ff, or_true, true_or, and_true, true_and, Nat.reduceAdd], hM⟩
  · obtain ⟨l1, l2, -⟩ := ho.2.1.2 p.toNat (by omega)
    obtain ⟨k1, k2, -⟩ := ho.2.1.2 v hv
    have hR := MI_rows hM ho (u := p) (v := (v : Int)) (by omega) (by omega)
    rw [Int.toNat_natCast] at hR
    obtain ⟨h1, e1, w1, t1, -, f1⟩ := q7_layDifference hR (wL_pL l2) (wL_pL k2) l1 k1
    have hM1 := MI_fr hM f1 (by omega)
    have mT1 := hM1.1.1
    obtain ⟨p2, t2, n2⟩ := ms2 hM1.1
    obtain ⟨p19, t19, n19⟩ := ms19 hM1.1
    have hl := (mVer_l hM1.2.2.1 (v := p) (by omega) (by omega)).1
    generalize hxe : (vn s.2.1 p.toNat).1 = xs at *
    generalize hye : (vn s.2.1 v).1 = ys at *
    have hs := lp_sr (F := X7_ledTo_L14 m p a) (h := h1) (fun k => (trc xs ys 0).getD k 0 = a) (fun k => (k : Int)) (-1) xs.length ?_ ?_ ?_ xs.length 0 mo_N (by omega) (by rw [mo_N_v]; omega)
    · have hs : mo_lp mo_N (X7_ledTo_L14 m p a) 0 h1 = some (led xs ys a, h1) := hs
      refine ⟨h1, ?_, hM1⟩
      unfold ledP
      rw [bc_f cp, hxe, hye]
      simp (disch := omega) only [X7_ledTo, rr_p, rr_bp, rr_bb, rr_0, rr_lt, rr_blt, rr_le, rr_ble, rr_eq, rr_beq, rr_nl_n, rr_nl_s, rr_bnl_n, rr_bnl_s, rr_cond_t, rr_cond_f, rr_bcond_t, rr_bcond_f, rr_bon, rr_bcv, rr_cv, rr_g, rr_gr, rr_si, rr_sz, rr_sr, rr_al, rr_ld, rr_st, rr_rl, rr_rs, rr_ni, rr_nr, rr_z, rr_div, rr_rem, rr_lc, rr_mx, rr_mn, rr_ab, rr_no, gd_t, bc_t, bc_f, gd_tt, bc_tt, bc_ff, or_true, true_or, and_true, true_and, Nat.reduceAdd, mo_b_s e1, hs]
    · intro k hk1 hn
      have q1 := t1 k hk1
      have q2 := @trc_r xs ys k hk1
      simp (disch := omega) only [X7_ledTo_L14, rr_p, rr_bp, rr_bb, rr_0, rr_lt, rr_blt, rr_le, rr_ble, rr_eq, rr_beq, rr_nl_n, rr_nl_s, rr_bnl_n, rr_bnl_s, rr_cond_t, rr_cond_f, rr_bcond_t, rr_bcond_f, rr_bon, rr_bcv, rr_cv, rr_g, rr_gr, rr_si, rr_sz, rr_sr, rr_al, rr_ld, rr_st, rr_rl, rr_rs, rr_ni, rr_nr, rr_z, rr_div, rr_rem, rr_lc, rr_mx, rr_mn, rr_ab, rr_no, gd_t, bc_t, bc_f, gd_tt, bc_tt, bc_ff, or_true, true_or, and_true, true_and, Nat.reduceAdd, p2, p19, hl, q1]
    · intro k hk1 hn
      have q1 := t1 k hk1
      have q2 := @trc_r xs ys k hk1
      simp (disch := omega) only [X7_ledTo_L14, rr_p, rr_bp, rr_bb, rr_0, rr_lt, rr_blt, rr_le, rr_ble, rr_eq, rr_beq, rr_nl_n, rr_nl_s, rr_bnl_n, rr_bnl_s, rr_cond_t, rr_cond_f, rr_bcond_t, rr_bcond_f, rr_bon, rr_bcv, rr_cv, rr_g, rr_gr, rr_si, rr_sz, rr_sr, rr_al, rr_ld, rr_st, rr_rl, rr_rs, rr_ni, rr_nr, rr_z, rr_div, rr_rem, rr_lc, rr_mx, rr_mn, rr_ab, rr_no, gd_t, bc_t, bc_f, gd_tt, bc_tt, bc_ff, or_true, true_or, and_true, true_and, Nat.reduceAdd, p2, p19, hl, q1]
    · simp (disch := omega) only [X7_ledTo_L14, rr_p, rr_bp, rr_bb, rr_0, rr_lt, rr_blt, rr_le, rr_ble, rr_eq, rr_beq, rr_nl_n, rr_nl_s, rr_bnl_n, rr_bnl_s, rr_cond_t, rr_cond_f, rr_bcond_t, rr_bcond_f, rr_bon, rr_bcv, rr_cv, rr_g, rr_gr, rr_si, rr_sz, rr_sr, rr_al, rr_ld, rr_st, rr_rl, rr_rs, rr_ni, rr_nr, rr_z, rr_div, rr_rem, rr_lc, rr_mx, rr_mn, rr_ab, rr_no, gd_t, bc_t, bc_f, gd_tt, bc_tt, bc_ff, or_true, true_or, and_true, true_and, Nat.reduceAdd, p2, hl]
theorem ledP_r {V : List VR} {v : Nat} {p a : Int} (ha : 0 ≤ a) : ledP V v p a = -1 ∨ (0 ≤ ledP V v p a ∧ ledP V v p a < (vn V p.toNat).1.length) := by
  unfold ledP
  by_cases c : p = -1
  · rw [bc_t c]; exact Or.inl rfl
  · rw [bc_f c]; exact led_r ha
theorem q7_broughtBy {h : AH} {m v : Nat} {s : SG} (hM : MI h m s) (ho : OKS s) {a : Int} (hv : v < s.2.1.length) (ha : 0 ≤ a ∧ a ≤ 100) : ∃ h', X7_broughtBy m (v : Int) a h = some (bro s.2.1 (v + 1) v a, h') ∧ MI h' m s := by
  have oV1 := ho.2.1.1
  have hpar := OV_par ho.2.1
  have hL := lp_inv (F := X7_broughtBy_L8 m) (fun t h' => ∃ (w : Nat) (x g : Int), t = ((w : Int), x, g) ∧ w < s.2.1.length ∧ (0 ≤ x ∧ x ≤ 100) ∧ MI h' m s ∧ ((g = 1 ∧ bro s.2.1 (w + 1) w x = bro s.2.1 (v + 1) v a) ∨ (g = 0 ∧ (w : Int) = bro s.2.1 (v + 1) v a))) (fun t => (t.1 * 2 + t.2.2).toNat) (fun r h' => r = bro s.2.1 (v + 1) v a ∧ MI h' m s) ?_ mo_N ((v : Int), a, 1) h ⟨v, a, 1, rfl, hv, ha, hM, Or.inl ⟨rfl, rfl⟩⟩ (by rw [mo_N_v]; dsimp only; omega)
  · obtain ⟨r, h', e1, rfl, q⟩ := hL
    exact ⟨h', by simp (disch := omega) only [X7_broughtBy, rr_p, rr_bp, rr_bb, rr_0, rr_lt, rr_blt, rr_le, rr_ble, rr_eq, rr_beq, rr_nl_n, rr_nl_s, rr_bnl_n, rr_bnl_s, rr_cond_t, rr_cond_f, rr_bcond_t, rr_bcond_f, rr_bon, rr_bcv, rr_cv, rr_g, rr_gr, rr_si, rr_sz, rr_sr, rr_al, rr_ld, rr_st, rr_rl, rr_rs, rr_ni, rr_nr, rr_z, rr_div, rr_rem, rr_lc, rr_mx, rr_mn, rr_ab, rr_no, gd_t, bc_t, bc_f, gd_tt, bc_tt, bc_ff, or_true, true_or, and_true, true_and, Nat.reduceAdd, mo_b_s e1], q⟩
  · rintro t h' ⟨w, x, g, rfl, hw, hx, hM', hg⟩
    have mT := hM'.1.1
    obtain ⟨⟨a1, a2⟩, b1, b2⟩ := hpar w hw
    obtain ⟨v1, v2, v3, v4⟩ := mVer_l hM'.2.2.1 (v := (w : Int)) (by omega) (by omega)
    rw [Int.toNat_natCast] at v2 v3
    rcases hg with ⟨rfl, hg⟩ | ⟨rfl, hg⟩
    · left
      obtain ⟨p4, t4, n4⟩ := ms4 hM'.1
      obtain ⟨p5, t5, n5⟩ := ms5 hM'.1
      obtain ⟨h1, e1, hM1⟩ := q7_ledTo hM' ho hw (p := (vn s.2.1 w).2.1) (a := x) (by omega) hx
      have mT1 := hM1.1.1
      obtain ⟨pp4, tt4, nn4⟩ := ms4 hM1.1
      obtain ⟨pp5, tt5, nn5⟩ := ms5 hM1.1
      obtain ⟨w1, w2, w3, w4⟩ := mVer_l hM1.2.2.1 (v := (w : Int)) (by omega) (by omega)
      rw [Int.toNat_natCast] at w2 w3
      have r1 := @ledP_r s.2.1 w (vn s.2.1 w).2.1 x hx.1
      by_cases c1 : ledP s.2.1 w (vn s.2.1 w).2.1 x = -1
      · rw [c1] at e1
        obtain ⟨h2, e2, hM2⟩ := q7_ledTo hM1 ho hw (p := (vn s.2.1 w).2.2.1) (a := x) (by omega) hx
        have mT2 := hM2.1.1
        obtain ⟨qq5, uu5, oo5⟩ := ms5 hM2.1
        obtain ⟨x1, x2, x3, x4⟩ := mVer_l hM2.2.2.1 (v := (w : Int)) (by omega) (by omega)
        rw [Int.toNat_natCast] at x3
        have r2 := @ledP_r s.2.1 w (vn s.2.1 w).2.2.1 x hx.1
        by_cases c2 : ledP s.2.1 w (vn s.2.1 w).2.2.1 x = -1
        · rw [c2] at e2
          refine ⟨((w : Int), x, 0), h2, by simp (disch := omega) only [X7_broughtBy_L8, rr_p, rr_bp, rr_bb, rr_0, rr_lt, rr_blt, rr_le, rr_ble, rr_eq, rr_beq, rr_nl_n, rr_nl_s, rr_bnl_n, rr_bnl_s, rr_cond_t, rr_cond_f, rr_bcond_t, rr_bcond_f, rr_bon, rr_bcv, rr_cv, rr_g, rr_gr, rr_si, rr_sz, rr_sr, rr_al, rr_ld, rr_st, rr_rl, rr_rs, rr_ni, rr_nr, rr_z, rr_div, rr_rem, rr_lc, rr_mx, rr_mn, rr_ab, rr_no, gd_t, bc_t, bc_f, gd_tt, bc_tt, bc_ff, or_true, true_or, and_true, true_and, Nat.reduceAdd, p4, v2, mo_b_s e1, pp5, w3, mo_b_s e2], ⟨w, x, 0, rfl, hw, hx, hM2, Or.inr ⟨rfl, by rw [← hg, bro_3 c1 c2]⟩⟩, by dsimp only; omega⟩
        · have hb := bro_2 hpar hw c1 c2
          have pn := ledP_n c2
          have lr := (ho.2.1.2 (vn s.2.1 w).2.2.1.toNat (by omega)).1
          refine ⟨((((vn s.2.1 w).2.2.1.toNat : Nat) : Int), ledP s.2.1 w (vn s.2.1 w).2.2.1 x, 1), h2, ?_, ⟨(vn s.2.1 w).2.2.1.toNat, _, 1, rfl, by omega, by omega, hM2, Or.inl ⟨rfl, by rw [← hg, hb]⟩⟩, by dsimp only; omega⟩
          rw [Int.toNat_of_nonneg (by omega)]
          simp (disch := omega) only [X7_broughtBy_L8, rr_p, rr_bp, rr_bb, rr_0, rr_lt, rr_blt, rr_le, rr_ble, rr_eq, rr_beq, rr_nl_n, rr_nl_s, rr_bnl_n, rr_bnl_s, rr_cond_t, rr_cond_f, rr_bcond_t, rr_bcond_f, rr_bon, rr_bcv, rr_cv, rr_g, rr_gr, rr_si, rr_sz, rr_sr, rr_al, rr_ld, rr_st, rr_rl, rr_rs, rr_ni, rr_nr, rr_z, rr_div, rr_rem, rr_lc, rr_mx, rr_mn, rr_ab, rr_no, gd_t, bc_t, bc_f, gd_tt, bc_tt, bc_ff, or_true, true_or, and_true, true_and, Nat.reduceAdd, p4, v2, mo_b_s e1, pp5, w3, mo_b_s e2, qq5, x3]
      · have hb := bro_1 hpar hw c1
        have pn := ledP_n c1
        have lr := (ho.2.1.2 (vn s.2.1 w).2.1.toNat (by omega)).1
        refine ⟨((((vn s.2.1 w).2.1.toNat : Nat) : Int), ledP s.2.1 w (vn s.2.1 w).2.1 x, 1), h1, ?_, ⟨(vn s.2.1 w).2.1.toNat, _, 1, rfl, by omega, by omega, hM1, Or.inl ⟨rfl, by rw [← hg, hb]⟩⟩, by dsimp only; omega⟩
        rw [Int.toNat_of_nonneg (by omega)]
        simp (disch := omega) only [X7_broughtBy_L8, rr_p, rr_bp, rr_bb, rr_0, rr_lt, rr_blt, rr_le, rr_ble, rr_eq, rr_beq, rr_nl_n, rr_nl_s, rr_bnl_n, rr_bnl_s, rr_cond_t, rr_cond_f, rr_bcond_t, rr_bcond_f, rr_bon, rr_bcv, rr_cv, rr_g, rr_gr, rr_si, rr_sz, rr_sr, rr_al, rr_ld, rr_st, rr_rl, rr_rs, rr_ni, rr_nr, rr_z, rr_div, rr_rem, rr_lc, rr_mx, rr_mn, rr_ab, rr_no, gd_t, bc_t, bc_f, gd_tt, bc_tt, bc_ff, or_true, true_or, and_true, true_and, Nat.reduceAdd, p4, v2, mo_b_s e1, pp4, w2]
    · right
      exact ⟨(w : Int), h', by simp (disch := omega) only [X7_broughtBy_L8, rr_p, rr_bp, rr_bb, rr_0, rr_lt, rr_blt, rr_le, rr_ble, rr_eq, rr_beq, rr_nl_n, rr_nl_s, rr_bnl_n, rr_bnl_s, rr_cond_t, rr_cond_f, rr_bcond_t, rr_bcond_f, rr_bon, rr_bcv, rr_cv, rr_g, rr_gr, rr_si, rr_sz, rr_sr, rr_al, rr_ld, rr_st, rr_rl, rr_rs, rr_ni, rr_nr, rr_z, rr_div, rr_rem, rr_lc, rr_mx, rr_mn, rr_ab, rr_no, gd_t, bc_t, bc_f, gd_tt, bc_tt, bc_ff, or_true, true_or, and_true, true_and, Nat.reduceAdd], hg, hM'⟩
theorem q5_bringerOf {h : AH} {a : Nat} {v : VR} (hV : kV h a v) {i : Int} (hi : 0 ≤ i ∧ i < 14) : X5_bringerOf a i h = some (ah_I h (a + 3) i, h) := by
  obtain ⟨t1, p1, p3, t3, n3, -⟩ := hV
  simp (disch := omega) only [X5_bringerOf, rr_p, rr_bp, rr_bb, rr_0, rr_lt, rr_blt, rr_le, rr_ble, rr_eq, rr_beq, rr_nl_n, rr_nl_s, rr_bnl_n, rr_bnl_s, rr_cond_t, rr_cond_f, rr_bcond_t, rr_bcond_f, rr_bon, rr_bcv, rr_cv, rr_g, rr_gr, rr_si, rr_sz, rr_sr, rr_al, rr_ld, rr_st, rr_rl, rr_rs, rr_ni, rr_nr, rr_z, rr_div, rr_rem, rr_lc, rr_mx, rr_mn, rr_ab, rr_no, gd_t, bc_t, bc_f, gd_tt, bc_tt, bc_ff, or_true, true_or, and_true, true_and, Nat.reduceAdd, p3]
theorem c_brought (v i : Int) (hv : am_r v) (hi : am_r i) (s : SG) (ho : OKS s) : CJ (fun x => X6_brought x v i) (fun m => X7_brought m v i) s := by
  have oV1 := ho.2.1.1
  have hv2 := hv
  have hi2 := hi
  unfold am_r at hv hi
  by_cases cv : 0 ≤ v ∧ v < s.2.1.length
  · obtain ⟨vn', rfl⟩ := Int.eq_ofNat_of_zero_le cv.1
    have hvl : vn' < s.2.1.length := by omega
    obtain ⟨l1, l2, -⟩ := ho.2.1.2 vn' hvl
    by_cases ci : 0 ≤ i ∧ i < (vn s.2.1 vn').1.length
    · obtain ⟨k, rfl⟩ := Int.eq_ofNat_of_zero_le ci.1
      refine ⟨bro s.2.1 (vn' + 1) vn' (k : Int), s, ho, ?_, ?_⟩
      · intro x h hK
        obtain ⟨hR, nD, hSc, A, B, hB⟩ := id hK
        obtain ⟨⟨o1, ⟨p0, p1, p2, p4, p6, p7, p8, p9, p10, p11, p12⟩, o3, o4, o5, o6, o7, o8, o9⟩, ⟨f3, f5, f13⟩, hA, hQ, hM, hX⟩ := id hB
        have e1 := q6_versionOrNull hB oV1 hv2
        rw [if_pos cv, Int.toNat_natCast] at e1
        obtain ⟨a1, a2, a3, a4, a5⟩ := hA vn' hvl
        have b1 := a5 k (by omega)
        have e2 := q5_bringerOf a2 (i := (k : Int)) (by omega)
        obtain ⟨t1, pp1, -, -, -, -, -, -, r1, -⟩ := id a2
        have e3 := q4_size r1
        have tR := r1.1
        exact ⟨h, by rw [← b1]; simp (disch := omega) only [X6_brought, rr_p, rr_bp, rr_bb, rr_0, rr_lt, rr_blt, rr_le, rr_ble, rr_eq, rr_beq, rr_nl_n, rr_nl_s, rr_bnl_n, rr_bnl_s, rr_cond_t, rr_cond_f, rr_bcond_t, rr_bcond_f, rr_bon, rr_bcv, rr_cv, rr_g, rr_gr, rr_si, rr_sz, rr_sr, rr_al, rr_ld, rr_st, rr_rl, rr_rs, rr_ni, rr_nr, rr_z, rr_div, rr_rem, rr_lc, rr_mx, rr_mn, rr_ab, rr_no, gd_t, bc_t, bc_f, gd_tt, bc_tt, bc_ff, or_true, true_or, and_true, true_and, Nat.reduceAdd, mo_b_s e1, pp1, mo_b_s e3, mo_b_s e2], hK⟩
      · intro m h hM
        have mT := hM.1.1
        have e1 := q7_isVersion hM oV1 hv2
        rw [bc_t cv] at e1
        obtain ⟨p2, t2, n2⟩ := ms2 hM.1
        have hl := (mVer_l hM.2.2.1 (v := (vn' : Int)) (by omega) (by omega)).1
        rw [Int.toNat_natCast] at hl
        have e2 := q7_within (h := h) (v := (k : Int)) (lo := 0) (hi := ((vn s.2.1 vn').1.length : Int) - 1) hi2 (by unfold am_r; omega) (by unfold am_r; omega)
        rw [bc_t (by omega)] at e2
        obtain ⟨h1, e3, hM1⟩ := q7_broughtBy hM ho hvl (a := (k : Int)) (by omega)
        exact ⟨h1, by simp (disch := omega) only [X7_brought, rr_p, rr_bp, rr_bb, rr_0, rr_lt, rr_blt, rr_le, rr_ble, rr_eq, rr_beq, rr_nl_n, rr_nl_s, rr_bnl_n, rr_bnl_s, rr_cond_t, rr_cond_f, rr_bcond_t, rr_bcond_f, rr_bon, rr_bcv, rr_cv, rr_g, rr_gr, rr_si, rr_sz, rr_sr, rr_al, rr_ld, rr_st, rr_rl, rr_rs, rr_ni, rr_nr, rr_z, rr_div, rr_rem, rr_lc, rr_mx, rr_mn, rr_ab, rr_no, gd_t, bc_t, bc_f, gd_tt, bc_tt, bc_ff, or_true, true_or, and_true, true_and, Nat.reduceAdd, mo_b_s e1, p2, hl, mo_b_s e2, mo_b_s e3], hM1⟩
    · refine CJ.same (-101) ho ?_ ?_
      · intro x h hK
        obtain ⟨hR, nD, hSc, A, B, hB⟩ := id hK
        obtain ⟨⟨o1, ⟨p0, p1, p2, p4, p6, p7, p8, p9, p10, p11, p12⟩, o3, o4, o5, o6, o7, o8, o9⟩, ⟨f3, f5, f13⟩, hA, hQ, hM, hX⟩ := id hB
        have e1 := q6_versionOrNull hB oV1 hv2
        rw [if_pos cv, Int.toNat_natCast] at e1
        obtain ⟨a1, a2, a3, a4, a5⟩ := hA vn' hvl
        obtain ⟨t1, pp1, -, -, -, -, -, -, r1, -⟩ := id a2
        have e3 := q4_size r1
        have tR := r1.1
        by_cases c0 : i < 0
        · simp (disch := omega) only [X6_brought, rr_p, rr_bp, rr_bb, rr_0, rr_lt, rr_blt, rr_le, rr_ble, rr_eq, rr_beq, rr_nl_n, rr_nl_s, rr_bnl_n, rr_bnl_s, rr_cond_t, rr_cond_f, rr_bcond_t, rr_bcond_f, rr_bon, rr_bcv, rr_cv, rr_g, rr_gr, rr_si, rr_sz, rr_sr, rr_al, rr_ld, rr_st, rr_rl, rr_rs, rr_ni, rr_nr, rr_z, rr_div, rr_rem, rr_lc, rr_mx, rr_mn, rr_ab, rr_no, gd_t, bc_t, bc_f, gd_tt, bc_tt, bc_ff, or_true, true_or, and_true, true_and, Nat.reduceAdd, mo_b_s e1]
        · simp (disch := omega) only [X6_brought, rr_p, rr_bp, rr_bb, rr_0, rr_lt, rr_blt, rr_le, rr_ble, rr_eq, rr_beq, rr_nl_n, rr_nl_s, rr_bnl_n, rr_bnl_s, rr_cond_t, rr_cond_f, rr_bcond_t, rr_bcond_f, rr_bon, rr_bcv, rr_cv, rr_g, rr_gr, rr_si, rr_sz, rr_sr, rr_al, rr_ld, rr_st, rr_rl, rr_rs, rr_ni, rr_nr, rr_z, rr_div, rr_rem, rr_lc, rr_mx, rr_mn, rr_ab, rr_no, gd_t, bc_t, bc_f, gd_tt, bc_tt, bc_ff, or_true, true_or, and_true, true_and, Nat.reduceAdd, mo_b_s e1, pp1, mo_b_s e3]
      · intro m h hM
        have mT := hM.1.1
        have e1 := q7_isVersion hM oV1 hv2
        rw [bc_t cv] at e1
        obtain ⟨p2, t2, n2⟩ := ms2 hM.1
        have hl := (mVer_l hM.2.2.1 (v := (vn' : Int)) (by omega) (by omega)).1
        rw [Int.toNat_natCast] at hl
        have e2 := q7_within (h := h) (v := i) (lo := 0) (hi := ((vn s.2.1 vn').1.length : Int) - 1) hi2 (by unfold am_r; omega) (by unfold am_r; omega)
        rw [bc_f (by omega)] at e2
        simp (disch := omega) only [X7_brought, rr_p, rr_bp, rr_bb, rr_0, rr_lt, rr_blt, rr_le, rr_ble, rr_eq, rr_beq, rr_nl_n, rr_nl_s, rr_bnl_n, rr_bnl_s, rr_cond_t, rr_cond_f, rr_bcond_t, rr_bcond_f, rr_bon, rr_bcv, rr_cv, rr_g, rr_gr, rr_si, rr_sz, rr_sr, rr_al, rr_ld, rr_st, rr_rl, rr_rs, rr_ni, rr_nr, rr_z, rr_div, rr_rem, rr_lc, rr_mx, rr_mn, rr_ab, rr_no, gd_t, bc_t, bc_f, gd_tt, bc_tt, bc_ff, or_true, true_or, and_true, true_and, Nat.reduceAdd, mo_b_s e1, p2, hl, mo_b_s e2]
  · refine CJ.same (-101) ho ?_ ?_
    · intro x h hK
      obtain ⟨hR, nD, hSc, A, B, hB⟩ := id hK
      obtain ⟨⟨o1, ⟨p0, p1, p2, p4, p6, p7, p8, p9, p10, p11, p12⟩, o3, o4, o5, o6, o7, o8, o9⟩, ⟨f3, f5, f13⟩, hA, hQ, hM, hX⟩ := id hB
      have e1 := q6_versionOrNull hB oV1 hv2
      rw [if_neg cv] at e1
      simp (disch := omega) only [X6_brought, rr_p, rr_bp, rr_bb, rr_0, rr_lt, rr_blt, rr_le, rr_ble, rr_eq, rr_beq, rr_nl_n, rr_nl_s, rr_bnl_n, rr_bnl_s, rr_cond_t, rr_cond_f, rr_bcond_t, rr_bcond_f, rr_bon, rr_bcv, rr_cv, rr_g, rr_gr, rr_si, rr_sz, rr_sr, rr_al, rr_ld, rr_st, rr_rl, rr_rs, rr_ni, rr_nr, rr_z, rr_div, rr_rem, rr_lc, rr_mx, rr_mn, rr_ab, rr_no, gd_t, bc_t, bc_f, gd_tt, bc_tt, bc_ff, or_true, true_or, and_true, true_and, Nat.reduceAdd, mo_b_s e1]
    · intro m h hM
      have mT := hM.1.1
      have e1 := q7_isVersion hM oV1 hv2
      rw [bc_f cv] at e1
      simp (disch := omega) only [X7_brought, rr_p, rr_bp, rr_bb, rr_0, rr_lt, rr_blt, rr_le, rr_ble, rr_eq, rr_beq, rr_nl_n, rr_nl_s, rr_bnl_n, rr_bnl_s, rr_cond_t, rr_cond_f, rr_bcond_t, rr_bcond_f, rr_bon, rr_bcv, rr_cv, rr_g, rr_gr, rr_si, rr_sz, rr_sr, rr_al, rr_ld, rr_st, rr_rl, rr_rs, rr_ni, rr_nr, rr_z, rr_div, rr_rem, rr_lc, rr_mx, rr_mn, rr_ab, rr_no, gd_t, bc_t, bc_f, gd_tt, bc_tt, bc_ff, or_true, true_or, and_true, true_and, Nat.reduceAdd, mo_b_s e1]
/-- how many of the first n lines of v were brought by b -/
def shr (V : List VR) (v : Nat) (b : Int) (f : Nat → Int) : Nat → Nat
  | 0 => 0
  | n + 1 => shr V v b f n + (if f n = b then 1 else 0)
theorem shr_c {V : List VR} {v : Nat} {b : Int} {f : Nat → Int} {n : Nat} : (shr V v b f (n + 1) : Int) = (shr V v b f n : Int) + (if f n = b then 1 else 0) := by
  show ((shr V v b f n + (if f n = b then 1 else 0) : Nat) : Int) = _
  by_cases c : f n = b
  · rw [if_pos c, if_pos c]; omega
  · rw [if_neg c, if_neg c]; omega
theorem c_share (v b : Int) (hv : am_r v) (hb : am_r b) (s : SG) (ho : OKS s) : CJ (fun x => X6_share x v b) (fun m => X7_share m v b) s := by
  have oV1 := ho.2.1.1
  have hpar := OV_par ho.2.1
  have hv2 := hv
  have hb2 := hb
  unfold am_r at hv hb
  by_cases cv : 0 ≤ v ∧ v < s.2.1.length
  · by_cases cb : 0 ≤ b ∧ b < s.2.1.length
    · obtain ⟨vn', rfl⟩ := Int.eq_ofNat_of_zero_le cv.1
      have hvl : vn' < s.2.1.length := by omega
      obtain ⟨l1, l2, -⟩ := ho.2.1.2 vn' hvl
      refine ⟨(shr s.2.1 vn' b (fun k => bro s.2.1 (vn' + 1) vn' (k : Int)) (vn s.2.1 vn').1.length : Int), s, ho, ?_, ?_⟩
      · intro x h hK
        obtain ⟨hR, nD, hSc, A, B, hB⟩ := id hK
        obtain ⟨⟨o1, ⟨p0, p1, p2, p4, p6, p7, p8, p9, p10, p11, p12⟩, o3, o4, o5, o6, o7, o8, o9⟩, ⟨f3, f5, f13⟩, hA, hQ, hM, hX⟩ := id hB
        have e1 := q6_versionOrNull hB oV1 hv2
        rw [if_pos cv, Int.toNat_natCast] at e1
        have e2 := q6_versionOrNull hB oV1 hb2
        rw [if_pos cb] at e2
        obtain ⟨a1, a2, a3, a4, a5⟩ := hA vn' hvl
        obtain ⟨t1, pp1, -, -, -, -, -, -, r1, -⟩ := id a2
        have e3 := q4_size r1
        have tR := r1.1
        have hs := lp_seq (F := X6_share_L27 (some (A vn')) b) (fun j : Nat => ((shr s.2.1 vn' b (fun k => bro s.2.1 (vn' + 1) vn' (k : Int)) j : Int), (j : Int))) (fun _ => h) (vn s.2.1 vn').1.length (b := (shr s.2.1 vn' b (fun k => bro s.2.1 (vn' + 1) vn' (k : Int)) (vn s.2.1 vn').1.length : Int)) (hE := h) ?_ ?_ mo_N (by rw [mo_N_v]; omega)
        · have hs : mo_lp mo_N (X6_share_L27 (some (A vn')) b) (0, 0) h = _ := hs
          exact ⟨h, by simp (disch := omega) only [X6_share, rr_p, rr_bp, rr_bb, rr_0, rr_lt, rr_blt, rr_le, rr_ble, rr_eq, rr_beq, rr_nl_n, rr_nl_s, rr_bnl_n, rr_bnl_s, rr_cond_t, rr_cond_f, rr_bcond_t, rr_bcond_f, rr_bon, rr_bcv, rr_cv, rr_g, rr_gr, rr_si, rr_sz, rr_sr, rr_al, rr_ld, rr_st, rr_rl, rr_rs, rr_ni, rr_nr, rr_z, rr_div, rr_rem, rr_lc, rr_mx, rr_mn, rr_ab, rr_no, gd_t, bc_t, bc_f, gd_tt, bc_tt, bc_ff, or_true, true_or, and_true, true_and, Nat.reduceAdd, mo_b_s e1, mo_b_s e2, mo_b_s hs], hK⟩
        · intro j hj
          have b1 := a5 j hj
          have e4 := q5_bringerOf a2 (i := (j : Int)) (by omega)
          rw [b1] at e4
          have br1 := bro_r hpar (vn' + 1) vn' (j : Int) hvl
          rw [shr_c]
          by_cases c : bro s.2.1 (vn' + 1) vn' (j : Int) = b
          · simp (disch := omega) only [X6_share_L27, rr_p, rr_bp, rr_bb, rr_0, rr_lt, rr_blt, rr_le, rr_ble, rr_eq, rr_beq, rr_nl_n, rr_nl_s, rr_bnl_n, rr_bnl_s, rr_cond_t, rr_cond_f, rr_bcond_t, rr_bcond_f, rr_bon, rr_bcv, rr_cv, rr_g, rr_gr, rr_si, rr_sz, rr_sr, rr_al, rr_ld, rr_st, rr_rl, rr_rs, rr_ni, rr_nr, rr_z, rr_div, rr_rem, rr_lc, rr_mx, rr_mn, rr_ab, rr_no, gd_t, bc_t, bc_f, gd_tt, bc_tt, bc_ff, or_true, true_or, and_true, true_and, Nat.reduceAdd, pp1, mo_b_s e3, mo_b_s e4, if_pos c, Int.natCast_add, Int.natCast_one]
          · simp (disch := omega) only [X6_share_L27, rr_p, rr_bp, rr_bb, rr_0, rr_lt, rr_blt, rr_le, rr_ble, rr_eq, rr_beq, rr_nl_n, rr_nl_s, rr_bnl_n, rr_bnl_s, rr_cond_t, rr_cond_f, rr_bcond_t, rr_bcond_f, rr_bon, rr_bcv, rr_cv, rr_g, rr_gr, rr_si, rr_sz, rr_sr, rr_al, rr_ld, rr_st, rr_rl, rr_rs, rr_ni, rr_nr, rr_z, rr_div, rr_rem, rr_lc, rr_mx, rr_mn, rr_ab, rr_no, gd_t, bc_t, bc_f, gd_tt, bc_tt, bc_ff, or_true, true_or, and_true, true_and, Nat.reduceAdd, pp1, mo_b_s e3, mo_b_s e4, if_neg c, Int.natCast_add, Int.natCast_one, Int.add_zero]
        · simp (disch := omega) only [X6_share_L27, rr_p, rr_bp, rr_bb, rr_0, rr_lt, rr_blt, rr_le, rr_ble, rr_eq, rr_beq, rr_nl_n, rr_nl_s, rr_bnl_n, rr_bnl_s, rr_cond_t, rr_cond_f, rr_bcond_t, rr_bcond_f, rr_bon, rr_bcv, rr_cv, rr_g, rr_gr, rr_si, rr_sz, rr_sr, rr_al, rr_ld, rr_st, rr_rl, rr_rs, rr_ni, rr_nr, rr_z, rr_div, rr_rem, rr_lc, rr_mx, rr_mn, rr_ab, rr_no, gd_t, bc_t, bc_f, gd_tt, bc_tt, bc_ff, or_true, true_or, and_true, true_and, Nat.reduceAdd, pp1, mo_b_s e3]
      · intro m h hM
        have mT := hM.1.1
        have e1 := q7_isVersion hM oV1 hv2
        rw [bc_t cv] at e1
        have e2 := q7_isVersion hM oV1 hb2
        rw [bc_t cb] at e2
        have hL := lp_inv (F := X7_share_L24 m (vn' : Int) b) (fun t h' => ∃ j : Nat, t = ((shr s.2.1 vn' b (fun k => bro s.2.1 (vn' + 1) vn' (k : Int)) j : Int), (j : Int)) ∧ j ≤ (vn s.2.1 vn').1.length ∧ MI h' m s) (fun t => (((vn s.2.1 vn').1.length : Int) - t.2).toNat) (fun r h' => r = (shr s.2.1 vn' b (fun k => bro s.2.1 (vn' + 1) vn' (k : Int)) (vn s.2.1 vn').1.length : Int) ∧ MI h' m s) ?_ mo_N (0, 0) h ⟨0, rfl, by omega, hM⟩ (by rw [mo_N_v]; dsimp only; omega)
        · obtain ⟨r, h', e3, rfl, q⟩ := hL
          exact ⟨h', by simp (disch := omega) only [X7_share, rr_p, rr_bp, rr_bb, rr_0, rr_lt, rr_blt, rr_le, rr_ble, rr_eq, rr_beq, rr_nl_n, rr_nl_s, rr_bnl_n, rr_bnl_s, rr_cond_t, rr_cond_f, rr_bcond_t, rr_bcond_f, rr_bon, rr_bcv, rr_cv, rr_g, rr_gr, rr_si, rr_sz, rr_sr, rr_al, rr_ld, rr_st, rr_rl, rr_rs, rr_ni, rr_nr, rr_z, rr_div, rr_rem, rr_lc, rr_mx, rr_mn, rr_ab, rr_no, gd_t, bc_t, bc_f, gd_tt, bc_tt, bc_ff, or_true, true_or, and_true, true_and, Nat.reduceAdd, mo_b_s e1, mo_b_s e2, mo_b_s e3], q⟩
        · rintro t h' ⟨j, rfl, hj, hM'⟩
          have mT' := hM'.1.1
          obtain ⟨p2, t2, n2⟩ := ms2 hM'.1
          have hl := (mVer_l hM'.2.2.1 (v := (vn' : Int)) (by omega) (by omega)).1
          rw [Int.toNat_natCast] at hl
          by_cases cj : j < (vn s.2.1 vn').1.length
          · left
            obtain ⟨h1, e3, hM1⟩ := q7_broughtBy hM' ho hvl (a := (j : Int)) (by omega)
            have br1 := bro_r hpar (vn' + 1) vn' (j : Int) hvl
            refine ⟨((shr s.2.1 vn' b (fun k => bro s.2.1 (vn' + 1) vn' (k : Int)) (j + 1) : Int), ((j + 1 : Nat) : Int)), h1, ?_, ⟨j + 1, rfl, by omega, hM1⟩, by dsimp only; omega⟩
            rw [shr_c]
            by_cases c : bro s.2.1 (vn' + 1) vn' (j : Int) = b
            · simp (disch := omega) only [X7_share_L24, rr_p, rr_bp, rr_bb, rr_0, rr_lt, rr_blt, rr_le, rr_ble, rr_eq, rr_beq, rr_nl_n, rr_nl_s, rr_bnl_n, rr_bnl_s, rr_cond_t, rr_cond_f, rr_bcond_t, rr_bcond_f, rr_bon, rr_bcv, rr_cv, rr_g, rr_gr, rr_si, rr_sz, rr_sr, rr_al, rr_ld, rr_st, rr_rl, rr_rs, rr_ni, rr_nr, rr_z, rr_div, rr_rem, rr_lc, rr_mx, rr_mn, rr_ab, rr_no, gd_t, bc_t, bc_f, gd_tt, bc_tt, bc_ff, or_true, true_or, and_true, true_and, Nat.reduceAdd, p2, hl, mo_b_s e3, if_pos c, Int.natCast_add, Int.natCast_one]
            · simp (disch := omega) only [X7_share_L24, rr_p, rr_bp, rr_bb, rr_0, rr_lt, rr_blt, rr_le, rr_ble, rr_eq, rr_beq, rr_nl_n, rr_nl_s, rr_bnl_n, rr_bnl_s, rr_cond_t, rr_cond_f, rr_bcond_t, rr_bcond_f, rr_bon, rr_bcv, rr_cv, rr_g, rr_gr, rr_si, rr_sz, rr_sr, rr_al, rr_ld, rr_st, rr_rl, rr_rs, rr_ni, rr_nr, rr_z, rr_div, rr_rem, rr_lc, rr_mx, rr_mn, rr_ab, rr_no, gd_t, bc_t, bc_f, gd_tt, bc_tt, bc_ff, or_true, true_or, and_true, true_and, Nat.reduceAdd, p2, hl, mo_b_s e3, if_neg c, Int.natCast_add, Int.natCast_one]
          · right
            have : j = (vn s.2.1 vn').1.length := by omega
            subst this
            exact ⟨_, h', by simp (disch := omega) only [X7_share_L24, rr_p, rr_bp, rr_bb, rr_0, rr_lt, rr_blt, rr_le, rr_ble, rr_eq, rr_beq, rr_nl_n, rr_nl_s, rr_bnl_n, rr_bnl_s, rr_cond_t, rr_cond_f, rr_bcond_t, rr_bcond_f, rr_bon, rr_bcv, rr_cv, rr_g, rr_gr, rr_si, rr_sz, rr_sr, rr_al, rr_ld, rr_st, rr_rl, rr_rs, rr_ni, rr_nr, rr_z, rr_div, rr_rem, rr_lc, rr_mx, rr_mn, rr_ab, rr_no, gd_t, bc_t, bc_f, gd_tt, bc_tt, bc_ff, or_true, true_or, and_true, true_and, Nat.reduceAdd, p2, hl], rfl, hM'⟩
    · refine CJ.same (-101) ho ?_ ?_
      · intro x h hK
        obtain ⟨hR, nD, hSc, A, B, hB⟩ := id hK
        obtain ⟨⟨o1, ⟨p0, p1, p2, p4, p6, p7, p8, p9, p10, p11, p12⟩, o3, o4, o5, o6, o7, o8, o9⟩, ⟨f3, f5, f13⟩, hA, hQ, hM, hX⟩ := id hB
        have e1 := q6_versionOrNull hB oV1 hv2
        rw [if_pos cv] at e1
        have e2 := q6_versionOrNull hB oV1 hb2
        rw [if_neg cb] at e2
        simp (disch := omega) only [X6_share, rr_p, rr_bp, rr_bb, rr_0, rr_lt, rr_blt, rr_le, rr_ble, rr_eq, rr_beq, rr_nl_n, rr_nl_s, rr_bnl_n, rr_bnl_s, rr_cond_t, rr_cond_f, rr_bcond_t, rr_bcond_f, rr_bon, rr_bcv, rr_cv, rr_g, rr_gr, rr_si, rr_sz, rr_sr, rr_al, rr_ld, rr_st, rr_rl, rr_rs, rr_ni, rr_nr, rr_z, rr_div, rr_rem, rr_lc, rr_mx, rr_mn, rr_ab, rr_no, gd_t, bc_t, bc_f, gd_tt, bc_tt, bc_ff, or_true, true_or, and_true, true_and, Nat.reduceAdd, mo_b_s e1, mo_b_s e2]
      · intro m h hM
        have mT := hM.1.1
        have e1 := q7_isVersion hM oV1 hv2
        rw [bc_t cv] at e1
        have e2 := q7_isVersion hM oV1 hb2
        rw [bc_f cb] at e2
        simp (disch := omega) only [X7_share, rr_p, rr_bp, rr_bb, rr_0, rr_lt, rr_blt, rr_le, rr_ble, rr_eq, rr_beq, rr_nl_n, rr_nl_s, rr_bnl_n, rr_bnl_s, rr_cond_t, rr_cond_f, rr_bcond_t, rr_bcond_f, rr_bon, rr_bcv, rr_cv, rr_g, rr_gr, rr_si, rr_sz, rr_sr, rr_al, rr_ld, rr_st, rr_rl, rr_rs, rr_ni, rr_nr, rr_z, rr_div, rr_rem, rr_lc, rr_mx, rr_mn, rr_ab, rr_no, gd_t, bc_t, bc_f, gd_tt, bc_tt, bc_ff, or_true, true_or, and_true, true_and, Nat.reduceAdd, mo_b_s e1, mo_b_s e2]
  · refine CJ.same (-101) ho ?_ ?_
    · intro x h hK
      obtain ⟨hR, nD, hSc, A, B, hB⟩ := id hK
      obtain ⟨⟨o1, ⟨p0, p1, p2, p4, p6, p7, p8, p9, p10, p11, p12⟩, o3, o4, o5, o6, o7, o8, o9⟩, ⟨f3, f5, f13⟩, hA, hQ, hM, hX⟩ := id hB
      have e1 := q6_versionOrNull hB oV1 hv2
      rw [if_neg cv] at e1
      simp (disch := omega) only [X6_share, rr_p, rr_bp, rr_bb, rr_0, rr_lt, rr_blt, rr_le, rr_ble, rr_eq, rr_beq, rr_nl_n, rr_nl_s, rr_bnl_n, rr_bnl_s, rr_cond_t, rr_cond_f, rr_bcond_t, rr_bcond_f, rr_bon, rr_bcv, rr_cv, rr_g, rr_gr, rr_si, rr_sz, rr_sr, rr_al, rr_ld, rr_st, rr_rl, rr_rs, rr_ni, rr_nr, rr_z, rr_div, rr_rem, rr_lc, rr_mx, rr_mn, rr_ab, rr_no, gd_t, bc_t, bc_f, gd_tt, bc_tt, bc_ff, or_true, true_or, and_true, true_and, Nat.reduceAdd, mo_b_s e1]
    · intro m h hM
      have mT := hM.1.1
      have e1 := q7_isVersion hM oV1 hv2
      rw [bc_f cv] at e1
      simp (disch := omega) only [X7_share, rr_p, rr_bp, rr_bb, rr_0, rr_lt, rr_blt, rr_le, rr_ble, rr_eq, rr_beq, rr_nl_n, rr_nl_s, rr_bnl_n, rr_bnl_s, rr_cond_t, rr_cond_f, rr_bcond_t, rr_bcond_f, rr_bon, rr_bcv, rr_cv, rr_g, rr_gr, rr_si, rr_sz, rr_sr, rr_al, rr_ld, rr_st, rr_rl, rr_rs, rr_ni, rr_nr, rr_z, rr_div, rr_rem, rr_lc, rr_mx, rr_mn, rr_ab, rr_no, gd_t, bc_t, bc_f, gd_tt, bc_tt, bc_ff, or_true, true_or, and_true, true_and, Nat.reduceAdd, mo_b_s e1]
