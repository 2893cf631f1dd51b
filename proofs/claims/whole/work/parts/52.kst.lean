abbrev VR : Type := List Int × Int × Int × Int
abbrev SG : Type := List Int × List VR × List (List HK) × Nat
def vn (V : List VR) (i : Nat) : VR := V.getD i ([], -1, -1, 0)
def pt (Q : List (List HK)) (i : Nat) : List HK := Q.getD i []
/-- the first line of xs that is kept as line i of ys, or -1 -/
noncomputable def led (xs ys : List Int) (i : Int) : Int := sr (fun k => (trc xs ys 0).getD k 0 = i) (fun k => (k : Int)) (-1) xs.length 0
noncomputable def ledP (V : List VR) (v : Nat) (p : Int) (i : Int) : Int := br (p = -1) (-1) (led (vn V p.toNat).1 (vn V v).1 i)
/-- who brought line a of version v -/
noncomputable def bro (V : List VR) : Nat → Nat → Int → Int
  | 0, v, _ => (v : Int)
  | n + 1, v, a => br (ledP V v (vn V v).2.1 a ≠ -1) (bro V n (vn V v).2.1.toNat (ledP V v (vn V v).2.1 a)) (br (ledP V v (vn V v).2.2.1 a ≠ -1) (bro V n (vn V v).2.2.1.toNat (ledP V v (vn V v).2.2.1 a)) (v : Int))
def rm (W : List HK) : Int := 2 * (W.length : Int) + ((fC W).length : Int) + 1
/-- a kept version's object -/
def kV (h : AH) (a : Nat) (v : VR) : Prop := ah_T h a = 15 ∧ ah_P h a 0 = some (a + 1) ∧ ah_P h a 3 = some (a + 3) ∧ ah_T h (a + 3) = 1 ∧ ah_N h (a + 3) = 14 ∧ ah_F h a 1 = v.2.1 ∧ ah_F h a 2 = v.2.2.1 ∧ ah_F h a 4 = v.2.2.2 ∧ kR h (a + 1) v.1 ∧ ah_N h (a + 2) = 14
theorem kV_sm {h h' : AH} {a : Nat} {v : VR} (hV : kV h a v) (s : SM h h' a (a + 4)) : kV h' a v := by
  obtain ⟨a1, a2, a3, a4, a5, a6⟩ := s a (by omega) (by omega)
  obtain ⟨c1, c2, c3, c4, c5, c6⟩ := s (a + 2) (by omega) (by omega)
  obtain ⟨d1, d2, d3, d4, d5, d6⟩ := s (a + 3) (by omega) (by omega)
  obtain ⟨v1, v2, v3, v4, v5, v6, v7, v8, v9, v10⟩ := hV
  exact ⟨by rw [a1]; exact v1, by rw [a4]; exact v2, by rw [a4]; exact v3, by rw [d1]; exact v4, by rw [d2]; exact v5, by rw [a3]; exact v6, by rw [a3]; exact v7, by rw [a3]; exact v8, kR_sm v9 (s.mono (by omega) (by omega)), by rw [c2]; exact v10⟩
/-- the object's own cell and its tables -/
def kO (h : AH) (x : Nat) : Prop := ah_T h x = 16 ∧ (ah_P h x 0 = some (x + 1) ∧ ah_P h x 1 = some (x + 3) ∧ ah_P h x 2 = some (x + 5) ∧ ah_P h x 4 = some (x + 6) ∧ ah_P h x 6 = some (x + 7) ∧ ah_P h x 7 = some (x + 8) ∧ ah_P h x 8 = some (x + 11) ∧ ah_P h x 9 = some (x + 17) ∧ ah_P h x 10 = some (x + 23) ∧ ah_P h x 11 = some (x + 29) ∧ ah_P h x 12 = some (x + 30)) ∧ ah_T h (x + 5) = 2 ∧ ah_N h (x + 5) = 10 ∧ ah_T h (x + 6) = 3 ∧ ah_N h (x + 6) = 12 ∧ ah_T h (x + 7) = 1 ∧ ah_N h (x + 7) = 100 ∧ x + 38 ≤ ah_S h
def kA (h : AH) (x : Nat) (V : List VR) (A : Nat → Nat) : Prop := ∀ v : Nat, v < V.length → ah_R h (x + 5) (v : Int) = some (A v) ∧ kV h (A v) (vn V v) ∧ x + 38 ≤ A v ∧ A v + 4 ≤ ah_S h ∧ ∀ i : Nat, i < (vn V v).1.length → ah_I h (A v + 3) (i : Int) = bro V (v + 1) v (i : Int)
def kQ (h : AH) (x : Nat) (Q : List (List HK)) (B : Nat → Nat) : Prop := ∀ p : Nat, p < Q.length → ah_R h (x + 6) (p : Int) = some (B p) ∧ kP h (B p) 10 28 (pt Q p) ∧ x + 38 ≤ B p ∧ B p + 6 ≤ ah_S h
def kM (h : AH) (x : Nat) (V : List VR) : Prop := ∀ u v : Nat, u < V.length → v < V.length → ah_I h (x + 7) ((u : Int) * 10 + (v : Int)) = rm (dW (vn V u).1 (vn V v).1)
/-- apart from each other -/
def kX (nV nQ : Nat) (A B : Nat → Nat) : Prop := (∀ u v, u < nV → v < nV → u ≠ v → A u + 4 ≤ A v ∨ A v + 4 ≤ A u) ∧ (∀ p q, p < nQ → q < nQ → p ≠ q → B p + 6 ≤ B q ∨ B q + 6 ≤ B p) ∧ (∀ v p, v < nV → p < nQ → A v + 4 ≤ B p ∨ B p + 6 ≤ A v)
def KB (h : AH) (x : Nat) (V : List VR) (Q : List (List HK)) (d : Nat) (A B : Nat → Nat) : Prop := kO h x ∧ (ah_F h x 3 = (V.length : Int) ∧ ah_F h x 5 = (Q.length : Int) ∧ ah_F h x 13 = (d : Int)) ∧ kA h x V A ∧ kQ h x Q B ∧ kM h x V ∧ kX V.length Q.length A B
theorem KB_sm {h h' : AH} {x d : Nat} {V : List VR} {Q : List (List HK)} {A B : Nat → Nat} (hK : KB h x V Q d A B) (s0 : SM h h' x (x + 1)) (s1 : SM h h' (x + 5) (x + 8)) (s2 : SM h h' (x + 38) (ah_S h)) (sS : ah_S h ≤ ah_S h') : KB h' x V Q d A B := by
  obtain ⟨a1, a2, a3, a4, a5, a6⟩ := s0 x (by omega) (by omega)
  obtain ⟨b1, b2, b3, b4, b5, b6⟩ := s1 (x + 5) (by omega) (by omega)
  obtain ⟨c1, c2, c3, c4, c5, c6⟩ := s1 (x + 6) (by omega) (by omega)
  obtain ⟨d1, d2, d3, d4, d5, d6⟩ := s1 (x + 7) (by omega) (by omega)
  obtain ⟨hO, hF, hA, hQ, hM, hX⟩ := hK
  refine ⟨?_, ?_, ?_, ?_, ?_, hX⟩
  · obtain ⟨o1, o2, o3, o4, o5, o6, o7, o8, o9⟩ := hO
    exact ⟨by rw [a1]; exact o1, by rw [a4]; exact o2, by rw [b1]; exact o3, by rw [b2]; exact o4, by rw [c1]; exact o5, by rw [c2]; exact o6, by rw [d1]; exact o7, by rw [d2]; exact o8, by omega⟩
  · rw [a3]; exact hF
  · intro v hv
    obtain ⟨v1, v2, v3, v4, v5⟩ := hA v hv
    refine ⟨by rw [b6]; exact v1, kV_sm v2 (s2.mono v3 v4), v3, by omega, fun i hi => ?_⟩
    rw [(s2 (A v + 3) (by omega) (by omega)).2.2.2.2.1]; exact v5 i hi
  · intro p hp
    obtain ⟨p1, p2, p3, p4⟩ := hQ p hp
    exact ⟨by rw [c6]; exact p1, kP_sm p2 (s2.mono p3 p4), p3, by omega⟩
  · intro u v hu hv
    rw [d5]; exact hM u v hu hv
theorem KB_fr {h h' : AH} {x d lo hi : Nat} {V : List VR} {Q : List (List HK)} {A B : Nat → Nat} (hK : KB h x V Q d A B) (f : FRM h h' lo hi) (hd : (x + 1 ≤ lo ∧ hi ≤ x + 5) ∨ (x + 8 ≤ lo ∧ hi ≤ x + 38)) : KB h' x V Q d A B :=
  KB_sm hK (SM.fr f (by omega)) (SM.fr f (by omega)) (SM.fr f (by omega)) (by rw [f.2.2.2.2.1]; exact Nat.le_refl _)
/-- the store finder's cells -/
def kLs (h : AH) (l : Nat) : Prop := ah_T h l = 12 ∧ (ah_P h l 2 = some (l + 1) ∧ ah_P h l 3 = some (l + 2) ∧ ah_P h l 4 = some (l + 3) ∧ ah_P h l 5 = some (l + 4) ∧ ah_P h l 6 = some (l + 5) ∧ ah_P h l 7 = some (l + 6) ∧ ah_P h l 8 = some (l + 7)) ∧ (ah_T h (l + 1) = 1 ∧ ah_T h (l + 2) = 1 ∧ ah_T h (l + 3) = 1 ∧ ah_T h (l + 4) = 1 ∧ ah_T h (l + 5) = 1 ∧ ah_T h (l + 6) = 1 ∧ ah_T h (l + 7) = 1) ∧ (ah_N h (l + 1) = 6 ∧ ah_N h (l + 2) = 36 ∧ ah_N h (l + 3) = 6 ∧ ah_N h (l + 4) = 7 ∧ ah_N h (l + 5) = 7 ∧ ah_N h (l + 6) = 6 ∧ ah_N h (l + 7) = 6)
theorem kLs_fr {h h' : AH} {l lo hi : Nat} (hL : kLs h l) (f : FRM h h' lo hi) : kLs h' l := by
  obtain ⟨e1, e2, e3, e4, e5, e6, e7⟩ := f
  unfold kLs at hL ⊢; rw [e1, e2, e3]; exact hL
theorem kLs_sm {h h' : AH} {l : Nat} (hL : kLs h l) (s : SM h h' l (l + 8)) : kLs h' l := by
  obtain ⟨a1, a2, a3, a4, a5, a6⟩ := s l (by omega) (by omega)
  have t := fun k (hk : k < 8) => (s (l + k) (by omega) (by omega)).1
  have n := fun k (hk : k < 8) => (s (l + k) (by omega) (by omega)).2.1
  unfold kLs at hL ⊢
  rw [a1, a4, t 1 (by omega), t 2 (by omega), t 3 (by omega), t 4 (by omega), t 5 (by omega), t 6 (by omega), t 7 (by omega), n 1 (by omega), n 2 (by omega), n 3 (by omega), n 4 (by omega), n 5 (by omega), n 6 (by omega), n 7 (by omega)]
  exact hL
/-- what is only written before it is read -/
def KSc (h : AH) (x : Nat) : Prop := (∃ ts, kR h (x + 3) ts) ∧ ah_N h (x + 4) = 42 ∧ kDs h (x + 8) ∧ (∃ W, kP h (x + 11) 10 14 W) ∧ (∃ W, kP h (x + 17) 10 14 W) ∧ (∃ W, kP h (x + 23) 20 56 W) ∧ ah_T h (x + 29) = 10 ∧ kLs h (x + 30)
theorem KSc_sm {h h' : AH} {x : Nat} (hS : KSc h x) (s1 : SM h h' (x + 3) (x + 5)) (s2 : SM h h' (x + 8) (x + 38)) : KSc h' x := by
  obtain ⟨⟨ts, h1⟩, h2, h3, ⟨W1, h4⟩, ⟨W2, h5⟩, ⟨W3, h6⟩, h7, h8⟩ := hS
  exact ⟨⟨ts, kR_sm h1 s1⟩, by rw [(s1 (x + 4) (by omega) (by omega)).2.1]; exact h2, kDs_sm h3 (s2.mono (by omega) (by omega)), ⟨W1, kP_sm h4 (s2.mono (by omega) (by omega))⟩, ⟨W2, kP_sm h5 (s2.mono (by omega) (by omega))⟩, ⟨W3, kP_sm h6 (s2.mono (by omega) (by omega))⟩, by rw [(s2 (x + 29) (by omega) (by omega)).1]; exact h7, kLs_sm h8 (s2.mono (by omega) (by omega))⟩
def KI (h : AH) (x : Nat) (s : SG) : Prop := kR h (x + 1) s.1 ∧ ah_N h (x + 2) = 14 ∧ KSc h x ∧ ∃ A B, KB h x s.2.1 s.2.2.1 s.2.2.2 A B
theorem KI_desk {h h' : AH} {x d : Nat} {D D' : List Int} {V : List VR} {Q : List (List HK)} (hK : KI h x (D, V, Q, d)) (f : FRM h h' (x + 1) (x + 1 + 2)) (hR : kR h' (x + 1) D') : KI h' x (D', V, Q, d) := by
  obtain ⟨h1, h2, h3, A, B, h4⟩ := hK
  exact ⟨hR, by rw [f.2.1]; exact h2, KSc_sm h3 (SM.fr f (by omega)) (SM.fr f (by omega)), A, B, KB_fr h4 f (by omega)⟩
theorem KI_scr {h h' : AH} {x lo hi : Nat} {s : SG} (hK : KI h x s) (f : FRM h h' lo hi) (hd : (x + 3 ≤ lo ∧ hi ≤ x + 5) ∨ (x + 8 ≤ lo ∧ hi ≤ x + 38)) (hS : KSc h' x) : KI h' x s := by
  obtain ⟨h1, h2, h3, A, B, h4⟩ := hK
  exact ⟨kR_fr h1 f (by omega), by rw [f.2.1]; exact h2, hS, A, B, KB_fr h4 f (by omega)⟩
/-! one by one -/
theorem KSc_tr {h h' : AH} {x : Nat} {ts : List Int} (hS : KSc h x) (f : FRM h h' (x + 3) (x + 3 + 2)) (hR : kR h' (x + 3) ts) : KSc h' x := by
  obtain ⟨_, h2, h3, ⟨W1, h4⟩, ⟨W2, h5⟩, ⟨W3, h6⟩, h7, h8⟩ := hS
  exact ⟨⟨ts, hR⟩, by rw [f.2.1]; exact h2, kDs_fr h3 f, ⟨W1, kP_fr h4 f (by omega)⟩, ⟨W2, kP_fr h5 f (by omega)⟩, ⟨W3, kP_fr h6 f (by omega)⟩, by rw [f.1]; exact h7, kLs_fr h8 f⟩
theorem KSc_di {h h' : AH} {x : Nat} (hS : KSc h x) (f : FRM h h' (x + 8) (x + 8 + 3)) : KSc h' x := by
  obtain ⟨⟨ts, h1⟩, h2, h3, ⟨W1, h4⟩, ⟨W2, h5⟩, ⟨W3, h6⟩, h7, h8⟩ := hS
  exact ⟨⟨ts, kR_fr h1 f (by omega)⟩, by rw [f.2.1]; exact h2, kDs_fr h3 f, ⟨W1, kP_fr h4 f (by omega)⟩, ⟨W2, kP_fr h5 f (by omega)⟩, ⟨W3, kP_fr h6 f (by omega)⟩, by rw [f.1]; exact h7, kLs_fr h8 f⟩
theorem KSc_p1 {h h' : AH} {x : Nat} {W : List HK} (hS : KSc h x) (f : FRM h h' (x + 11) (x + 11 + 6)) (hP : kP h' (x + 11) 10 14 W) : KSc h' x := by
  obtain ⟨⟨ts, h1⟩, h2, h3, ⟨W1, h4⟩, ⟨W2, h5⟩, ⟨W3, h6⟩, h7, h8⟩ := hS
  exact ⟨⟨ts, kR_fr h1 f (by omega)⟩, by rw [f.2.1]; exact h2, kDs_fr h3 f, ⟨W, hP⟩, ⟨W2, kP_fr h5 f (by omega)⟩, ⟨W3, kP_fr h6 f (by omega)⟩, by rw [f.1]; exact h7, kLs_fr h8 f⟩
theorem KSc_p2 {h h' : AH} {x : Nat} {W : List HK} (hS : KSc h x) (f : FRM h h' (x + 17) (x + 17 + 6)) (hP : kP h' (x + 17) 10 14 W) : KSc h' x := by
  obtain ⟨⟨ts, h1⟩, h2, h3, ⟨W1, h4⟩, ⟨W2, h5⟩, ⟨W3, h6⟩, h7, h8⟩ := hS
  exact ⟨⟨ts, kR_fr h1 f (by omega)⟩, by rw [f.2.1]; exact h2, kDs_fr h3 f, ⟨W1, kP_fr h4 f (by omega)⟩, ⟨W, hP⟩, ⟨W3, kP_fr h6 f (by omega)⟩, by rw [f.1]; exact h7, kLs_fr h8 f⟩
theorem KSc_p3 {h h' : AH} {x : Nat} {W : List HK} (hS : KSc h x) (f : FRM h h' (x + 23) (x + 23 + 6)) (hP : kP h' (x + 23) 20 56 W) : KSc h' x := by
  obtain ⟨⟨ts, h1⟩, h2, h3, ⟨W1, h4⟩, ⟨W2, h5⟩, ⟨W3, h6⟩, h7, h8⟩ := hS
  exact ⟨⟨ts, kR_fr h1 f (by omega)⟩, by rw [f.2.1]; exact h2, kDs_fr h3 f, ⟨W1, kP_fr h4 f (by omega)⟩, ⟨W2, kP_fr h5 f (by omega)⟩, ⟨W, hP⟩, by rw [f.1]; exact h7, kLs_fr h8 f⟩
theorem KSc_co {h h' : AH} {x : Nat} (hS : KSc h x) (f : FRM h h' (x + 29) (x + 29 + 1)) : KSc h' x := by
  obtain ⟨⟨ts, h1⟩, h2, h3, ⟨W1, h4⟩, ⟨W2, h5⟩, ⟨W3, h6⟩, h7, h8⟩ := hS
  exact ⟨⟨ts, kR_fr h1 f (by omega)⟩, by rw [f.2.1]; exact h2, kDs_fr h3 f, ⟨W1, kP_fr h4 f (by omega)⟩, ⟨W2, kP_fr h5 f (by omega)⟩, ⟨W3, kP_fr h6 f (by omega)⟩, by rw [f.1]; exact h7, kLs_fr h8 f⟩
theorem KSc_ls {h h' : AH} {x : Nat} (hS : KSc h x) (f : FRM h h' (x + 30) (x + 30 + 8)) : KSc h' x := by
  obtain ⟨⟨ts, h1⟩, h2, h3, ⟨W1, h4⟩, ⟨W2, h5⟩, ⟨W3, h6⟩, h7, h8⟩ := hS
  exact ⟨⟨ts, kR_fr h1 f (by omega)⟩, by rw [f.2.1]; exact h2, kDs_fr h3 f, ⟨W1, kP_fr h4 f (by omega)⟩, ⟨W2, kP_fr h5 f (by omega)⟩, ⟨W3, kP_fr h6 f (by omega)⟩, by rw [f.1]; exact h7, kLs_fr h8 f⟩
theorem q6_versionOrNull {h : AH} {x d : Nat} {V : List VR} {Q : List (List HK)} {A B : Nat → Nat} (hK : KB h x V Q d A B) (hV : V.length ≤ 10) {n : Int} (hn : am_r n) : X6_versionOrNull x n h = some (if 0 ≤ n ∧ n < V.length then some (A n.toNat) else none, h) := by
  obtain ⟨⟨o1, ⟨p0, p1, p2, p4, p6, p7, p8, p9, p10, p11, p12⟩, o3, o4, o5, o6, o7, o8, o9⟩, ⟨f3, f5, f13⟩, hA, hQ, hM, hX⟩ := hK
  unfold am_r at hn
  by_cases h1 : 0 ≤ n
  · by_cases h2 : n < V.length
    · rw [if_pos ⟨h1, h2⟩]
      have e := (hA n.toNat (by omega)).1
      rw [Int.toNat_of_nonneg h1] at e
      simp (disch := omega) only [X6_versionOrNull, rr_p, rr_bp, rr_bb, rr_0, rr_lt, rr_blt, rr_le, rr_ble, rr_eq, rr_beq, rr_nl_n, rr_nl_s, rr_bnl_n, rr_bnl_s, rr_cond_t, rr_cond_f, rr_bcond_t, rr_bcond_f, rr_bon, rr_bcv, rr_cv, rr_g, rr_gr, rr_si, rr_sz, rr_sr, rr_al, rr_ld, rr_st, rr_rl, rr_rs, rr_ni, rr_nr, rr_z, rr_div, rr_rem, rr_lc, rr_mx, rr_mn, rr_ab, rr_no, gd_t, bc_t, bc_f, gd_tt, bc_tt, bc_ff, or_true, true_or, and_true, true_and, Nat.reduceAdd, f3, p2, e]
    · rw [if_neg (by omega)]
      simp (disch := omega) only [X6_versionOrNull, rr_p, rr_bp, rr_bb, rr_0, rr_lt, rr_blt, rr_le, rr_ble, rr_eq, rr_beq, rr_nl_n, rr_nl_s, rr_bnl_n, rr_bnl_s, rr_cond_t, rr_cond_f, rr_bcond_t, rr_bcond_f, rr_bon, rr_bcv, rr_cv, rr_g, rr_gr, rr_si, rr_sz, rr_sr, rr_al, rr_ld, rr_st, rr_rl, rr_rs, rr_ni, rr_nr, rr_z, rr_div, rr_rem, rr_lc, rr_mx, rr_mn, rr_ab, rr_no, gd_t, bc_t, bc_f, gd_tt, bc_tt, bc_ff, or_true, true_or, and_true, true_and, Nat.reduceAdd, f3, p2]
  · rw [if_neg (by omega)]
    simp (disch := omega) only [X6_versionOrNull, rr_p, rr_bp, rr_bb, rr_0, rr_lt, rr_blt, rr_le, rr_ble, rr_eq, rr_beq, rr_nl_n, rr_nl_s, rr_bnl_n, rr_bnl_s, rr_cond_t, rr_cond_f, rr_bcond_t, rr_bcond_f, rr_bon, rr_bcv, rr_cv, rr_g, rr_gr, rr_si, rr_sz, rr_sr, rr_al, rr_ld, rr_st, rr_rl, rr_rs, rr_ni, rr_nr, rr_z, rr_div, rr_rem, rr_lc, rr_mx, rr_mn, rr_ab, rr_no, gd_t, bc_t, bc_f, gd_tt, bc_tt, bc_ff, or_true, true_or, and_true, true_and, Nat.reduceAdd, f3, p2]
theorem q6_patchOrNull {h : AH} {x d : Nat} {V : List VR} {Q : List (List HK)} {A B : Nat → Nat} (hK : KB h x V Q d A B) (hV : Q.length ≤ 12) {n : Int} (hn : am_r n) : X6_patchOrNull x n h = some (if 0 ≤ n ∧ n < Q.length then some (B n.toNat) else none, h) := by
  obtain ⟨⟨o1, ⟨p0, p1, p2, p4, p6, p7, p8, p9, p10, p11, p12⟩, o3, o4, o5, o6, o7, o8, o9⟩, ⟨f3, f5, f13⟩, hA, hQ, hM, hX⟩ := hK
  unfold am_r at hn
  by_cases h1 : 0 ≤ n
  · by_cases h2 : n < Q.length
    · rw [if_pos ⟨h1, h2⟩]
      have e := (hQ n.toNat (by omega)).1
      rw [Int.toNat_of_nonneg h1] at e
      simp (disch := omega) only [X6_patchOrNull, rr_p, rr_bp, rr_bb, rr_0, rr_lt, rr_blt, rr_le, rr_ble, rr_eq, rr_beq, rr_nl_n, rr_nl_s, rr_bnl_n, rr_bnl_s, rr_cond_t, rr_cond_f, rr_bcond_t, rr_bcond_f, rr_bon, rr_bcv, rr_cv, rr_g, rr_gr, rr_si, rr_sz, rr_sr, rr_al, rr_ld, rr_st, rr_rl, rr_rs, rr_ni, rr_nr, rr_z, rr_div, rr_rem, rr_lc, rr_mx, rr_mn, rr_ab, rr_no, gd_t, bc_t, bc_f, gd_tt, bc_tt, bc_ff, or_true, true_or, and_true, true_and, Nat.reduceAdd, f5, p4, e]
    · rw [if_neg (by omega)]
      simp (disch := omega) only [X6_patchOrNull, rr_p, rr_bp, rr_bb, rr_0, rr_lt, rr_blt, rr_le, rr_ble, rr_eq, rr_beq, rr_nl_n, rr_nl_s, rr_bnl_n, rr_bnl_s, rr_cond_t, rr_cond_f, rr_bcond_t, rr_bcond_f, rr_bon, rr_bcv, rr_cv, rr_g, rr_gr, rr_si, rr_sz, rr_sr, rr_al, rr_ld, rr_st, rr_rl, rr_rs, rr_ni, rr_nr, rr_z, rr_div, rr_rem, rr_lc, rr_mx, rr_mn, rr_ab, rr_no, gd_t, bc_t, bc_f, gd_tt, bc_tt, bc_ff, or_true, true_or, and_true, true_and, Nat.reduceAdd, f5, p4]
  · rw [if_neg (by omega)]
    simp (disch := omega) only [X6_patchOrNull, rr_p, rr_bp, rr_bb, rr_0, rr_lt, rr_blt, rr_le, rr_ble, rr_eq, rr_beq, rr_nl_n, rr_nl_s, rr_bnl_n, rr_bnl_s, rr_cond_t, rr_cond_f, rr_bcond_t, rr_bcond_f, rr_bon, rr_bcv, rr_cv, rr_g, rr_gr, rr_si, rr_sz, rr_sr, rr_al, rr_ld, rr_st, rr_rl, rr_rs, rr_ni, rr_nr, rr_z, rr_div, rr_rem, rr_lc, rr_mx, rr_mn, rr_ab, rr_no, gd_t, bc_t, bc_f, gd_tt, bc_tt, bc_ff, or_true, true_or, and_true, true_and, Nat.reduceAdd, f5, p4]
