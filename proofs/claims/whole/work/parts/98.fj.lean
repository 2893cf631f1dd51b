theorem q2_init {h : AH} {a : Nat} (hT : ah_T h a = 12) (hS : ah_S h = a + 1) : ∃ h', X2_init a h = some ((), h') ∧ kLs h' a ∧ SM h h' 0 a ∧ ah_S h' = a + 8 := by
  obtain ⟨h1, E1, A1, T1, F1, S1⟩ := ar_step (ci := 2) (cap := 6) (k := 2) (n := 6) (AR.nil hS) hT (by omega) (by simp)
  obtain ⟨h2, E2, A2, T2, F2, S2⟩ := ar_step (ci := 2) (cap := 36) (k := 3) (n := 36) A1 T1 (by omega) (by simp)
  obtain ⟨h3, E3, A3, T3, F3, S3⟩ := ar_step (ci := 2) (cap := 6) (k := 4) (n := 6) A2 T2 (by omega) (by simp)
  obtain ⟨h4, E4, A4, T4, F4, S4⟩ := ar_step (ci := 2) (cap := 7) (k := 5) (n := 7) A3 T3 (by omega) (by simp)
  obtain ⟨h5, E5, A5, T5, F5, S5⟩ := ar_step (ci := 2) (cap := 7) (k := 6) (n := 7) A4 T4 (by omega) (by simp)
  obtain ⟨h6, E6, A6, T6, F6, S6⟩ := ar_step (ci := 2) (cap := 6) (k := 7) (n := 6) A5 T5 (by omega) (by simp)
  obtain ⟨h7, E7, A7, T7, F7, S7⟩ := ar_step (ci := 2) (cap := 6) (k := 8) (n := 6) A6 T6 (by omega) (by simp)
  obtain ⟨aS, ac⟩ := A7
  obtain ⟨c01, c02, c03, c04⟩ := ac 0 (by simp)
  obtain ⟨c11, c12, c13, c14⟩ := ac 1 (by simp)
  obtain ⟨c21, c22, c23, c24⟩ := ac 2 (by simp)
  obtain ⟨c31, c32, c33, c34⟩ := ac 3 (by simp)
  obtain ⟨c41, c42, c43, c44⟩ := ac 4 (by simp)
  obtain ⟨c51, c52, c53, c54⟩ := ac 5 (by simp)
  obtain ⟨c61, c62, c63, c64⟩ := ac 6 (by simp)
  refine ⟨h7, ?_, ⟨T7, ⟨c04, c14, c24, c34, c44, c54, c64⟩, ⟨c01, c11, c21, c31, c41, c51, c61⟩, ⟨c02, c12, c22, c32, c42, c52, c62⟩⟩, ((S1.tr S2).tr (S3.tr S4)).tr ((S5.tr S6).tr S7), aS⟩
  unfold X2_init
  rw [E1, E2, E3, E4, E5, E6, E7]; rfl
theorem q7_init (n : Nat) : ∃ h2, X7_init n (ah_nO (ah_e n) 7) = some ((), h2) ∧ MI h2 n ([], [], [], 0) := by
  have hS : ah_S (ah_nO (ah_e n) 7) = n + 1 := rfl
  have hT : ah_T (ah_nO (ah_e n) 7) n = 10 + 7 := hn_T_nO_s rfl
  have hF : ah_F (ah_nO (ah_e n) 7) n = fun _ => 0 := hn_F_nO_s rfl
  obtain ⟨h1, E1, A1, T1, F1, S1⟩ := ar_step (ci := 7) (cap := 48) (k := 1) (n := 48) (AR.nil hS) hT (by omega) (by decide)
  obtain ⟨h2, E2, A2, T2, F2, S2⟩ := ar_step (ci := 7) (cap := 10) (k := 3) (n := 10) A1 T1 (by omega) (by decide)
  obtain ⟨h3, E3, A3, T3, F3, S3⟩ := ar_step (ci := 7) (cap := 140) (k := 4) (n := 140) A2 T2 (by omega) (by decide)
  obtain ⟨h4, E4, A4, T4, F4, S4⟩ := ar_step (ci := 7) (cap := 10) (k := 5) (n := 10) A3 T3 (by omega) (by decide)
  obtain ⟨h5, E5, A5, T5, F5, S5⟩ := ar_step (ci := 7) (cap := 10) (k := 6) (n := 10) A4 T4 (by omega) (by decide)
  obtain ⟨h6, E6, A6, T6, F6, S6⟩ := ar_step (ci := 7) (cap := 10) (k := 7) (n := 10) A5 T5 (by omega) (by decide)
  obtain ⟨h7, E7, A7, T7, F7, S7⟩ := ar_step (ci := 7) (cap := 12) (k := 9) (n := 12) A6 T6 (by omega) (by decide)
  obtain ⟨h8, E8, A8, T8, F8, S8⟩ := ar_step (ci := 7) (cap := 120) (k := 10) (n := 120) A7 T7 (by omega) (by decide)
  obtain ⟨h9, E9, A9, T9, F9, S9⟩ := ar_step (ci := 7) (cap := 120) (k := 11) (n := 120) A8 T8 (by omega) (by decide)
  obtain ⟨h10, E10, A10, T10, F10, S10⟩ := ar_step (ci := 7) (cap := 120) (k := 12) (n := 120) A9 T9 (by omega) (by decide)
  obtain ⟨h11, E11, A11, T11, F11, S11⟩ := ar_step (ci := 7) (cap := 336) (k := 13) (n := 336) A10 T10 (by omega) (by decide)
  obtain ⟨h12, E12, A12, T12, F12, S12⟩ := ar_step (ci := 7) (cap := 336) (k := 14) (n := 336) A11 T11 (by omega) (by decide)
  obtain ⟨h13, E13, A13, T13, F13, S13⟩ := ar_step (ci := 7) (cap := 40) (k := 17) (n := 40) A12 T12 (by omega) (by decide)
  obtain ⟨h14, E14, A14, T14, F14, S14⟩ := ar_step (ci := 7) (cap := 40) (k := 18) (n := 40) A13 T13 (by omega) (by decide)
  obtain ⟨h15, E15, A15, T15, F15, S15⟩ := ar_step (ci := 7) (cap := 40) (k := 19) (n := 40) A14 T14 (by omega) (by decide)
  obtain ⟨h16, E16, A16, T16, F16, S16⟩ := ar_step (ci := 7) (cap := 120) (k := 21) (n := 120) A15 T15 (by omega) (by decide)
  obtain ⟨h17, E17, A17, T17, F17, S17⟩ := ar_step (ci := 7) (cap := 120) (k := 23) (n := 120) A16 T16 (by omega) (by decide)
  obtain ⟨h18, E18, A18, T18, F18, S18⟩ := ar_step (ci := 7) (cap := 225) (k := 24) (n := 225) A17 T17 (by omega) (by decide)
  obtain ⟨h19, E19, A19, T19, F19, S19⟩ := ar_step (ci := 7) (cap := 14) (k := 25) (n := 14) A18 T18 (by omega) (by decide)
  obtain ⟨h20, E20, A20, T20, F20, S20⟩ := ar_step (ci := 7) (cap := 80) (k := 28) (n := 80) A19 T19 (by omega) (by decide)
  obtain ⟨h21, E21, A21, T21, F21, S21⟩ := ar_step (ci := 7) (cap := 15) (k := 29) (n := 15) A20 T20 (by omega) (by decide)
  obtain ⟨h22, E22, A22, T22, F22, S22⟩ := ar_step (ci := 7) (cap := 15) (k := 30) (n := 15) A21 T21 (by omega) (by decide)
  obtain ⟨h23, E23, A23, T23, F23, S23⟩ := ar_step (ci := 7) (cap := 15) (k := 31) (n := 15) A22 T22 (by omega) (by decide)
  obtain ⟨h24, E24, A24, T24, F24, S24⟩ := ar_step (ci := 7) (cap := 28) (k := 32) (n := 28) A23 T23 (by omega) (by decide)
  obtain ⟨h25, E25, A25, T25, F25, S25⟩ := ar_step (ci := 7) (cap := 36) (k := 34) (n := 36) A24 T24 (by omega) (by decide)
  obtain ⟨h26, E26, A26, T26, F26, S26⟩ := ar_step (ci := 7) (cap := 6) (k := 35) (n := 6) A25 T25 (by omega) (by decide)
  obtain ⟨h27, E27, A27, T27, F27, S27⟩ := ar_step (ci := 7) (cap := 6) (k := 36) (n := 6) A26 T26 (by omega) (by decide)
  obtain ⟨h28, E28, A28, T28, F28, S28⟩ := ar_step (ci := 7) (cap := 6) (k := 37) (n := 6) A27 T27 (by omega) (by decide)
  obtain ⟨h29, E29, A29, T29, F29, S29⟩ := ar_step (ci := 7) (cap := 6) (k := 38) (n := 6) A28 T28 (by omega) (by decide)
  have eF : ah_F h29 n = fun _ => 0 := by rw [F29, F28, F27, F26, F25, F24, F23, F22, F21, F20, F19, F18, F17, F16, F15, F14, F13, F12, F11, F10, F9, F8, F7, F6, F5, F4, F3, F2, F1]; exact hF
  have aA : AR h29 n m_l := A29
  refine ⟨h29, ?_, ⟨T29, fun i hi => ?_⟩, ⟨?_, fun j hj => by simp at hj⟩, ⟨?_, fun v hv => by simp at hv⟩, ⟨?_, fun p hp => by simp at hp⟩, ?_⟩
  · unfold X7_init
    rw [E1, E2, E3, E4, E5, E6, E7, E8, E9, E10, E11, E12, E13, E14, E15, E16, E17, E18, E19, E20, E21, E22, E23, E24, E25, E26, E27, E28, E29]; rfl
  · obtain ⟨c1, c2, c3, c4⟩ := aA.2 i (by show i < 29; exact hi)
    exact ⟨c1, c2, c4⟩
  · rw [eF]; rfl
  · rw [eF]; rfl
  · rw [eF]; rfl
  · rw [eF]; rfl
theorem ob_new {h : AH} {x k ci s len : Nat} {f : Nat → MO Unit} {G : AH → Prop} (hT : ah_T h x = 16) (hS : ah_S h = s) (hx : x < s) (hi : ∃ h2, f s (ah_nO h ci) = some ((), h2) ∧ G h2 ∧ SM (ah_nO h ci) h2 0 s ∧ ah_S h2 = s + len) (hG : ∀ h2 h3, G h2 → SM h2 h3 s (s + len) → G h3) : ∃ h3, (∀ {β : Type} (K : Unit → MO β), mo_b (op_no ci) (fun t => mo_b (mo_on t f) fun _ => mo_b (op_sr 6 (some x) k t) K) h = K () h3) ∧ G h3 ∧ ah_T h3 x = 16 ∧ ah_F h3 x = ah_F h x ∧ ah_P h3 x k = some s ∧ (∀ j, j ≠ k → ah_P h3 x j = ah_P h x j) ∧ SM h h3 (x + 1) s ∧ ah_S h3 = s + len := by
  obtain ⟨h2, e2, g2, s2, v2⟩ := hi
  subst hS
  have cx := s2 x (by omega) hx
  have sN : SM h (ah_nO h ci) 0 (ah_S h) := SM.nO (Nat.le_refl _)
  have cn := sN x (by omega) hx
  have tx : ah_T h2 x = 16 := by rw [cx.1, cn.1]; exact hT
  refine ⟨ah_sP h2 x k (some (ah_S h)), ?_, hG _ _ g2 (SM.sP (by omega)), tx, ?_, hl_P_sP_s, fun j hj => ?_, ?_, v2⟩
  · intro β K
    rw [rr_no, rr_bon, mo_b_s e2, rr_sr, gd_t tx]
  · rw [hl_F_sP, cx.2.2.1, cn.2.2.1]
  · rw [hl_P_sP_n (Or.inr hj), cx.2.2.2.1, cn.2.2.2.1]
  · exact ((sN.mono (by omega) (Nat.le_refl _)).tr (s2.mono (by omega) (Nat.le_refl _))).tr (SM.sP (by omega))
theorem ar_new {h h2 : AH} {x k s T0 N0 : Nat} {cr : MO (Option Nat)} (hT : ah_T h x = 16) (hx : x < s) (he : ∀ {β : Type} (K : Option Nat → MO β), mo_b cr K h = K (some s) h2) (c1 : ah_T h2 s = T0) (c2 : ah_N h2 s = N0) (sm : SM h h2 0 s) (hS : ah_S h2 = s + 1) : ∃ h3, (∀ {β : Type} (K : Unit → MO β), mo_b cr (fun t => mo_b (op_sr 6 (some x) k t) K) h = K () h3) ∧ (ah_T h3 s = T0 ∧ ah_N h3 s = N0) ∧ ah_T h3 x = 16 ∧ ah_F h3 x = ah_F h x ∧ ah_P h3 x k = some s ∧ (∀ j, j ≠ k → ah_P h3 x j = ah_P h x j) ∧ SM h h3 (x + 1) s ∧ ah_S h3 = s + 1 := by
  have cx := sm x (by omega) hx
  have tx : ah_T h2 x = 16 := by rw [cx.1]; exact hT
  refine ⟨ah_sP h2 x k (some s), ?_, ⟨c1, c2⟩, tx, ?_, hl_P_sP_s, fun j hj => ?_, ?_, hS⟩
  · intro β K
    rw [he, rr_sr, gd_t tx]
  · rw [hl_F_sP, cx.2.2.1]
  · rw [hl_P_sP_n (Or.inr hj), cx.2.2.2.1]
  · exact (sm.mono (by omega) (Nat.le_refl _)).tr (SM.sP (by omega))
theorem q6_fin {h : AH} {x : Nat} (T : ah_T h x = 16) (eF : ah_F h x = fun _ => 0) (p1 : ah_P h x 0 = some (x + 1)) (p2 : ah_P h x 1 = some (x + 3)) (p3 : ah_P h x 2 = some (x + 5)) (p4 : ah_P h x 4 = some (x + 6)) (p5 : ah_P h x 6 = some (x + 7)) (p6 : ah_P h x 7 = some (x + 8)) (p7 : ah_P h x 8 = some (x + 11)) (p8 : ah_P h x 9 = some (x + 17)) (p9 : ah_P h x 10 = some (x + 23)) (p10 : ah_P h x 11 = some (x + 29)) (p11 : ah_P h x 12 = some (x + 30)) (k1 : kR h (x + 1) []) (n1 : ah_N h (x + 2) = 14) (k2 : kR h (x + 3) []) (n2 : ah_N h (x + 4) = 42) (k6 : kDs h (x + 8)) (k7 : kP h (x + 11) 10 14 []) (k8 : kP h (x + 17) 10 14 []) (k9 : kP h (x + 23) 20 56 []) (t10 : ah_T h (x + 29) = 10) (k11 : kLs h (x + 30)) (t3 : ah_T h (x + 5) = 2) (n3 : ah_N h (x + 5) = 10) (t4 : ah_T h (x + 6) = 3) (n4 : ah_N h (x + 6) = 12) (t5 : ah_T h (x + 7) = 1) (n5 : ah_N h (x + 7) = 100) (hS : ah_S h = x + 38) : KI h x ([], [], [], 0) :=
  ⟨k1, n1, ⟨⟨_, k2⟩, n2, k6, ⟨_, k7⟩, ⟨_, k8⟩, ⟨_, k9⟩, t10, k11⟩, fun _ => 0, fun _ => 0, ⟨T, ⟨p1, p2, p3, p4, p5, p6, p7, p8, p9, p10, p11⟩, t3, n3, t4, n4, t5, n5, by rw [hS]; exact Nat.le_refl _⟩, ⟨by rw [eF]; rfl, by rw [eF]; rfl, by rw [eF]; rfl⟩, fun v hv => by simp at hv, fun p hp => by simp at hp, fun u v hu => by simp at hu, ⟨fun u v hu => by simp at hu, fun p q hp => by simp at hp, fun v p hv => by simp at hv⟩⟩
theorem q6_init (x : Nat) : ∃ h1, X6_init x (ah_nO (ah_e x) 6) = some ((), h1) ∧ KI h1 x ([], [], [], 0) := by
  have S0 : ah_S (ah_nO (ah_e x) 6) = x + 1 := rfl
  have T0 : ah_T (ah_nO (ah_e x) 6) x = 16 := hn_T_nO_s rfl
  have F0 : ah_F (ah_nO (ah_e x) 6) x = fun _ => 0 := hn_F_nO_s rfl
  generalize ah_nO (ah_e x) 6 = h0 at *
  have z1 : ∃ h2, (fun b => X4_init b 14) (x + 1) (ah_nO h0 4) = some ((), h2) ∧ (fun h => kR h (x + 1) [] ∧ ah_N h (x + 2) = 14) h2 ∧ SM (ah_nO h0 4) h2 0 (x + 1) ∧ ah_S h2 = x + 1 + 2 := by
    have a1 : ah_T (ah_nO h0 4) (x + 1) = 14 := hn_T_nO_s S0.symm
    have a2 : ah_S (ah_nO h0 4) = x + 1 + 1 := by rw [hn_S_nO, S0]
    have a3 : ah_F (ah_nO h0 4) (x + 1) 1 = 0 := by rw [hn_F_nO_s S0.symm]
    obtain ⟨h2, q1, q2, q3, q4, q5⟩ := q4_init (n := 14) a1 a3 a2 (by omega)
    exact ⟨h2, q1, ⟨q2, q3⟩, q4, q5⟩
  obtain ⟨h1, E1, G1, T1, F1, P1, Q1, M1, S1⟩ := ob_new (x := x) (k := 0) (ci := 4) (len := 2) (f := fun b => X4_init b 14) (G := fun h => kR h (x + 1) [] ∧ ah_N h (x + 2) = 14) T0 S0 (by omega) z1 (fun h2 h3 g s => ⟨kR_sm g.1 (s.mono (by omega) (by omega)), by rw [(s (x + 2) (by omega) (by omega)).2.1]; exact g.2⟩)
  have S1 : ah_S h1 = x + 3 := S1
  have z2 : ∃ h2, (fun b => X4_init b 42) (x + 3) (ah_nO h1 4) = some ((), h2) ∧ (fun h => kR h (x + 3) [] ∧ ah_N h (x + 4) = 42) h2 ∧ SM (ah_nO h1 4) h2 0 (x + 3) ∧ ah_S h2 = x + 3 + 2 := by
    have a1 : ah_T (ah_nO h1 4) (x + 3) = 14 := hn_T_nO_s S1.symm
    have a2 : ah_S (ah_nO h1 4) = x + 3 + 1 := by rw [hn_S_nO, S1]
    have a3 : ah_F (ah_nO h1 4) (x + 3) 1 = 0 := by rw [hn_F_nO_s S1.symm]
    obtain ⟨h2, q1, q2, q3, q4, q5⟩ := q4_init (n := 42) a1 a3 a2 (by omega)
    exact ⟨h2, q1, ⟨q2, q3⟩, q4, q5⟩
  obtain ⟨h2, E2, G2, T2, F2, P2, Q2, M2, S2⟩ := ob_new (x := x) (k := 1) (ci := 4) (len := 2) (f := fun b => X4_init b 42) (G := fun h => kR h (x + 3) [] ∧ ah_N h (x + 4) = 42) T1 S1 (by omega) z2 (fun h2 h3 g s => ⟨kR_sm g.1 (s.mono (by omega) (by omega)), by rw [(s (x + 4) (by omega) (by omega)).2.1]; exact g.2⟩)
  have S2 : ah_S h2 = x + 5 := S2
  have z3 : ∀ {β : Type} (K : Option Nat → MO β), mo_b (op_nr 2 10 10) K h2 = K (some (x + 5)) (ah_nR h2 2 10) := fun K => by rw [rr_nr, gd_t (by omega), S2]; rfl
  obtain ⟨h3, E3, G3, T3, F3, P3, Q3, M3, S3⟩ := ar_new (x := x) (k := 2) T2 (by omega) z3 (hn_T_nR_s S2.symm) (hn_N_nR_s S2.symm) (SM.nR (by omega)) (by rw [hn_S_nR, S2])
  have S3 : ah_S h3 = x + 6 := S3
  have z4 : ∀ {β : Type} (K : Option Nat → MO β), mo_b (op_nr 3 12 12) K h3 = K (some (x + 6)) (ah_nR h3 3 12) := fun K => by rw [rr_nr, gd_t (by omega), S3]; rfl
  obtain ⟨h4, E4, G4, T4, F4, P4, Q4, M4, S4⟩ := ar_new (x := x) (k := 4) T3 (by omega) z4 (hn_T_nR_s S3.symm) (hn_N_nR_s S3.symm) (SM.nR (by omega)) (by rw [hn_S_nR, S3])
  have S4 : ah_S h4 = x + 7 := S4
  have z5 : ∀ {β : Type} (K : Option Nat → MO β), mo_b (op_ni 100 100) K h4 = K (some (x + 7)) (ah_nI h4 100) := fun K => by rw [rr_ni, gd_t (by omega), S4]; rfl
  obtain ⟨h5, E5, G5, T5, F5, P5, Q5, M5, S5⟩ := ar_new (x := x) (k := 6) T4 (by omega) z5 (hn_T_nI_s S4.symm) (hn_N_nI_s S4.symm) (SM.nI (by omega)) (by rw [hn_S_nI, S4])
  have S5 : ah_S h5 = x + 8 := S5
  have z6 : ∃ h2, (fun b => X1_init b) (x + 8) (ah_nO h5 1) = some ((), h2) ∧ (fun h => kDs h (x + 8)) h2 ∧ SM (ah_nO h5 1) h2 0 (x + 8) ∧ ah_S h2 = x + 8 + 3 := by
    have a1 : ah_T (ah_nO h5 1) (x + 8) = 11 := hn_T_nO_s S5.symm
    have a2 : ah_S (ah_nO h5 1) = x + 8 + 1 := by rw [hn_S_nO, S5]
    obtain ⟨h2, q1, q2, q3, q4⟩ := q1_init a1 a2
    exact ⟨h2, q1, q2, q3, q4⟩
  obtain ⟨h6, E6, G6, T6, F6, P6, Q6, M6, S6⟩ := ob_new (x := x) (k := 7) (ci := 1) (len := 3) (f := fun b => X1_init b) (G := fun h => kDs h (x + 8)) T5 S5 (by omega) z6 (fun h2 h3 g s => kDs_sm g (s.mono (by omega) (by omega)))
  have S6 : ah_S h6 = x + 11 := S6
  have z7 : ∃ h2, (fun b => X3_init b 10 14) (x + 11) (ah_nO h6 3) = some ((), h2) ∧ (fun h => kP h (x + 11) 10 14 []) h2 ∧ SM (ah_nO h6 3) h2 0 (x + 11) ∧ ah_S h2 = x + 11 + 6 := by
    have a1 : ah_T (ah_nO h6 3) (x + 11) = 13 := hn_T_nO_s S6.symm
    have a2 : ah_S (ah_nO h6 3) = x + 11 + 1 := by rw [hn_S_nO, S6]
    have a3 : ah_F (ah_nO h6 3) (x + 11) 5 = 0 := by rw [hn_F_nO_s S6.symm]
    obtain ⟨h2, q1, q2, q3, q4⟩ := q3_init (mh := 10) (ml := 14) a1 a3 a2 (by omega) (by omega)
    exact ⟨h2, q1, q2, q3, q4⟩
  obtain ⟨h7, E7, G7, T7, F7, P7, Q7, M7, S7⟩ := ob_new (x := x) (k := 8) (ci := 3) (len := 6) (f := fun b => X3_init b 10 14) (G := fun h => kP h (x + 11) 10 14 []) T6 S6 (by omega) z7 (fun h2 h3 g s => kP_sm g (s.mono (by omega) (by omega)))
  have S7 : ah_S h7 = x + 17 := S7
  have z8 : ∃ h2, (fun b => X3_init b 10 14) (x + 17) (ah_nO h7 3) = some ((), h2) ∧ (fun h => kP h (x + 17) 10 14 []) h2 ∧ SM (ah_nO h7 3) h2 0 (x + 17) ∧ ah_S h2 = x + 17 + 6 := by
    have a1 : ah_T (ah_nO h7 3) (x + 17) = 13 := hn_T_nO_s S7.symm
    have a2 : ah_S (ah_nO h7 3) = x + 17 + 1 := by rw [hn_S_nO, S7]
    have a3 : ah_F (ah_nO h7 3) (x + 17) 5 = 0 := by rw [hn_F_nO_s S7.symm]
    obtain ⟨h2, q1, q2, q3, q4⟩ := q3_init (mh := 10) (ml := 14) a1 a3 a2 (by omega) (by omega)
    exact ⟨h2, q1, q2, q3, q4⟩
  obtain ⟨h8, E8, G8, T8, F8, P8, Q8, M8, S8⟩ := ob_new (x := x) (k := 9) (ci := 3) (len := 6) (f := fun b => X3_init b 10 14) (G := fun h => kP h (x + 17) 10 14 []) T7 S7 (by omega) z8 (fun h2 h3 g s => kP_sm g (s.mono (by omega) (by omega)))
  have S8 : ah_S h8 = x + 23 := S8
  have z9 : ∃ h2, (fun b => X3_init b 20 56) (x + 23) (ah_nO h8 3) = some ((), h2) ∧ (fun h => kP h (x + 23) 20 56 []) h2 ∧ SM (ah_nO h8 3) h2 0 (x + 23) ∧ ah_S h2 = x + 23 + 6 := by
    have a1 : ah_T (ah_nO h8 3) (x + 23) = 13 := hn_T_nO_s S8.symm
    have a2 : ah_S (ah_nO h8 3) = x + 23 + 1 := by rw [hn_S_nO, S8]
    have a3 : ah_F (ah_nO h8 3) (x + 23) 5 = 0 := by rw [hn_F_nO_s S8.symm]
    obtain ⟨h2, q1, q2, q3, q4⟩ := q3_init (mh := 20) (ml := 56) a1 a3 a2 (by omega) (by omega)
    exact ⟨h2, q1, q2, q3, q4⟩
  obtain ⟨h9, E9, G9, T9, F9, P9, Q9, M9, S9⟩ := ob_new (x := x) (k := 10) (ci := 3) (len := 6) (f := fun b => X3_init b 20 56) (G := fun h => kP h (x + 23) 20 56 []) T8 S8 (by omega) z9 (fun h2 h3 g s => kP_sm g (s.mono (by omega) (by omega)))
  have S9 : ah_S h9 = x + 29 := S9
  have z10 : ∃ h2, (fun b => X0_init b) (x + 29) (ah_nO h9 0) = some ((), h2) ∧ (fun h => ah_T h (x + 29) = 10) h2 ∧ SM (ah_nO h9 0) h2 0 (x + 29) ∧ ah_S h2 = x + 29 + 1 := by
    have a1 : ah_T (ah_nO h9 0) (x + 29) = 10 := hn_T_nO_s S9.symm
    have a2 : ah_S (ah_nO h9 0) = x + 29 + 1 := by rw [hn_S_nO, S9]
    exact ⟨_, rfl, a1, SM.rf, a2⟩
  obtain ⟨h10, E10, G10, T10, F10, P10, Q10, M10, S10⟩ := ob_new (x := x) (k := 11) (ci := 0) (len := 1) (f := fun b => X0_init b) (G := fun h => ah_T h (x + 29) = 10) T9 S9 (by omega) z10 (fun h2 h3 g s => by rw [(s (x + 29) (by omega) (by omega)).1]; exact g)
  have S10 : ah_S h10 = x + 30 := S10
  have z11 : ∃ h2, (fun b => X2_init b) (x + 30) (ah_nO h10 2) = some ((), h2) ∧ (fun h => kLs h (x + 30)) h2 ∧ SM (ah_nO h10 2) h2 0 (x + 30) ∧ ah_S h2 = x + 30 + 8 := by
    have a1 : ah_T (ah_nO h10 2) (x + 30) = 12 := hn_T_nO_s S10.symm
    have a2 : ah_S (ah_nO h10 2) = x + 30 + 1 := by rw [hn_S_nO, S10]
    obtain ⟨h2, q1, q2, q3, q4⟩ := q2_init a1 a2
    exact ⟨h2, q1, q2, q3, q4⟩
  obtain ⟨h11, E11, G11, T11, F11, P11, Q11, M11, S11⟩ := ob_new (x := x) (k := 12) (ci := 2) (len := 8) (f := fun b => X2_init b) (G := fun h => kLs h (x + 30)) T10 S10 (by omega) z11 (fun h2 h3 g s => kLs_sm g (s.mono (by omega) (by omega)))
  have S11 : ah_S h11 = x + 38 := S11
  have eF : ah_F h11 x = fun _ => 0 := by rw [F11, F10, F9, F8, F7, F6, F5, F4, F3, F2, F1]; exact F0
  have m10 : SM h10 h11 (x + 1) (x + 30) := M11
  have m9 : SM h9 h11 (x + 1) (x + 29) := SM.tr M10 (SM.mono m10 (Nat.le_refl _) (Nat.add_le_add_left (by decide) x))
  have m8 : SM h8 h11 (x + 1) (x + 23) := SM.tr M9 (SM.mono m9 (Nat.le_refl _) (Nat.add_le_add_left (by decide) x))
  have m7 : SM h7 h11 (x + 1) (x + 17) := SM.tr M8 (SM.mono m8 (Nat.le_refl _) (Nat.add_le_add_left (by decide) x))
  have m6 : SM h6 h11 (x + 1) (x + 11) := SM.tr M7 (SM.mono m7 (Nat.le_refl _) (Nat.add_le_add_left (by decide) x))
  have m5 : SM h5 h11 (x + 1) (x + 8) := SM.tr M6 (SM.mono m6 (Nat.le_refl _) (Nat.add_le_add_left (by decide) x))
  have m4 : SM h4 h11 (x + 1) (x + 7) := SM.tr M5 (SM.mono m5 (Nat.le_refl _) (Nat.add_le_add_left (by decide) x))
  have m3 : SM h3 h11 (x + 1) (x + 6) := SM.tr M4 (SM.mono m4 (Nat.le_refl _) (Nat.add_le_add_left (by decide) x))
  have m2 : SM h2 h11 (x + 1) (x + 5) := SM.tr M3 (SM.mono m3 (Nat.le_refl _) (Nat.add_le_add_left (by decide) x))
  have m1 : SM h1 h11 (x + 1) (x + 3) := SM.tr M2 (SM.mono m2 (Nat.le_refl _) (Nat.add_le_add_left (by decide) x))
  have p1 : ah_P h11 x 0 = some (x + 1) := by rw [Q11 0 (by decide), Q10 0 (by decide), Q9 0 (by decide), Q8 0 (by decide), Q7 0 (by decide), Q6 0 (by decide), Q5 0 (by decide), Q4 0 (by decide), Q3 0 (by decide), Q2 0 (by decide), P1]
  have p2 : ah_P h11 x 1 = some (x + 3) := by rw [Q11 1 (by decide), Q10 1 (by decide), Q9 1 (by decide), Q8 1 (by decide), Q7 1 (by decide), Q6 1 (by decide), Q5 1 (by decide), Q4 1 (by decide), Q3 1 (by decide), P2]
  have p3 : ah_P h11 x 2 = some (x + 5) := by rw [Q11 2 (by decide), Q10 2 (by decide), Q9 2 (by decide), Q8 2 (by decide), Q7 2 (by decide), Q6 2 (by decide), Q5 2 (by decide), Q4 2 (by decide), P3]
  have p4 : ah_P h11 x 4 = some (x + 6) := by rw [Q11 4 (by decide), Q10 4 (by decide), Q9 4 (by decide), Q8 4 (by decide), Q7 4 (by decide), Q6 4 (by decide), Q5 4 (by decide), P4]
  have p5 : ah_P h11 x 6 = some (x + 7) := by rw [Q11 6 (by decide), Q10 6 (by decide), Q9 6 (by decide), Q8 6 (by decide), Q7 6 (by decide), Q6 6 (by decide), P5]
  have p6 : ah_P h11 x 7 = some (x + 8) := by rw [Q11 7 (by decide), Q10 7 (by decide), Q9 7 (by decide), Q8 7 (by decide), Q7 7 (by decide), P6]
  have p7 : ah_P h11 x 8 = some (x + 11) := by rw [Q11 8 (by decide), Q10 8 (by decide), Q9 8 (by decide), Q8 8 (by decide), P7]
  have p8 : ah_P h11 x 9 = some (x + 17) := by rw [Q11 9 (by decide), Q10 9 (by decide), Q9 9 (by decide), P8]
  have p9 : ah_P h11 x 10 = some (x + 23) := by rw [Q11 10 (by decide), Q10 10 (by decide), P9]
  have p10 : ah_P h11 x 11 = some (x + 29) := by rw [Q11 11 (by decide), P10]
  have p11 : ah_P h11 x 12 = some (x + 30) := by rw [P11]
  obtain ⟨g1a, g1b⟩ := G1
  obtain ⟨g2a, g2b⟩ := G2
  obtain ⟨g3a, g3b⟩ := G3
  obtain ⟨g4a, g4b⟩ := G4
  obtain ⟨g5a, g5b⟩ := G5
  refine ⟨h11, ?_, q6_fin T11 eF p1 p2 p3 p4 p5 p6 p7 p8 p9 p10 p11 (kR_sm g1a (SM.mono m1 (Nat.add_le_add_left (by decide) x) (Nat.le_refl _))) (by rw [(m1 (x + 2) (Nat.add_le_add_left (by decide) x) (Nat.add_lt_add_left (by decide) x)).2.1]; exact g1b) (kR_sm g2a (SM.mono m2 (Nat.add_le_add_left (by decide) x) (Nat.le_refl _))) (by rw [(m2 (x + 4) (Nat.add_le_add_left (by decide) x) (Nat.add_lt_add_left (by decide) x)).2.1]; exact g2b) (kDs_sm G6 (SM.mono m6 (Nat.add_le_add_left (by decide) x) (Nat.le_refl _))) (kP_sm G7 (SM.mono m7 (Nat.add_le_add_left (by decide) x) (Nat.le_refl _))) (kP_sm G8 (SM.mono m8 (Nat.add_le_add_left (by decide) x) (Nat.le_refl _))) (kP_sm G9 (SM.mono m9 (Nat.add_le_add_left (by decide) x) (Nat.le_refl _))) (by rw [(m10 (x + 29) (Nat.add_le_add_left (by decide) x) (Nat.add_lt_add_left (by decide) x)).1]; exact G10) G11 (by rw [(m3 (x + 5) (Nat.add_le_add_left (by decide) x) (Nat.add_lt_add_left (by decide) x)).1]; exact g3a) (by rw [(m3 (x + 5) (Nat.add_le_add_left (by decide) x) (Nat.add_lt_add_left (by decide) x)).2.1]; exact g3b) (by rw [(m4 (x + 6) (Nat.add_le_add_left (by decide) x) (Nat.add_lt_add_left (by decide) x)).1]; exact g4a) (by rw [(m4 (x + 6) (Nat.add_le_add_left (by decide) x) (Nat.add_lt_add_left (by decide) x)).2.1]; exact g4b) (by rw [(m5 (x + 7) (Nat.add_le_add_left (by decide) x) (Nat.add_lt_add_left (by decide) x)).1]; exact g5a) (by rw [(m5 (x + 7) (Nat.add_le_add_left (by decide) x) (Nat.add_lt_add_left (by decide) x)).2.1]; exact g5b) S11⟩
  unfold X6_init
  rw [E1]
  rw [E2]
  rw [E3]
  rw [E4]
  rw [E5]
  rw [E6]
  rw [E7]
  rw [E8]
  rw [E9]
  rw [E10]
  rw [E11]
  rfl
def fj_J (x m : Nat) (h1 h2 : AH) : Prop := ∃ s : SG, OKS s ∧ KI h1 x s ∧ MI h2 m s
theorem sm_z {h : AH} {n lo hi : Nat} : SM h (ah_z h n) lo hi := fun _ _ _ => ⟨rfl, rfl, rfl, rfl, rfl, rfl⟩
theorem KI_z {h : AH} {x n : Nat} {s : SG} (hK : KI h x s) (hn : ah_S h ≤ n) : KI (ah_z h n) x s := by
  obtain ⟨hR, nD, hSc, A, B, hB⟩ := hK
  exact ⟨kR_sm hR sm_z, nD, KSc_sm hSc sm_z sm_z, A, B, KB_sm hB sm_z sm_z sm_z hn⟩
theorem MI_z {h : AH} {m n : Nat} {s : SG} (hM : MI h m s) : MI (ah_z h n) m s := hM
theorem st_of {f1 f2 : Nat → MO Int} (hc : ∀ s, OKS s → CJ f1 f2 s) (x m : Nat) : st_c fj_J x m (f1 x) (f2 m) := by
  rintro h1 h2 ⟨s, ho, hK, hM⟩
  obtain ⟨r, s', ho', k, q⟩ := hc s ho
  obtain ⟨h1', e1, hK'⟩ := k x h1 hK
  obtain ⟨h2', e2, hM'⟩ := q m h2 hM
  exact ⟨r, h1', h2', e1, e2, s', ho', hK', hM'⟩
theorem OKS_0 : OKS ([], [], [], 0) := ⟨⟨by simp, wL_nil⟩, ⟨by simp, fun i hi => by simp at hi⟩, ⟨by simp, fun i hi => by simp at hi⟩, by simp⟩
theorem fj_all : fj_K fj_J := by
  refine ⟨?_, ?_, ?_, ?_⟩
  · rintro x m h1 h2 ⟨s, ho, hK, hM⟩
    obtain ⟨-, -, -, A, B, hB⟩ := hK
    exact ⟨hB.1.1, hM.1.1⟩
  · rintro x m h1 h2 s1 s2 ⟨s, ho, hK, hM⟩ hs1 hs2
    exact ⟨s, ho, KI_z hK hs1, MI_z hM⟩
  · intro n
    obtain ⟨h1, e1, k1⟩ := q6_init n
    refine ⟨h1, e1, fun n' _ => ?_⟩
    obtain ⟨h2, e2, m2⟩ := q7_init n'
    exact ⟨h2, e2, _, OKS_0, k1, m2⟩
  · exact ⟨fun x m a1 a2 r1 r2 => st_of (f1 := fun x => X6_line x a1 a2) (f2 := fun m => X7_line m a1 a2) (fun s ho => c_line a1 a2 r1 r2 s ho) x m,
    fun x m a1 r1 => st_of (f1 := fun x => X6_drop x a1) (f2 := fun m => X7_drop m a1) (fun s ho => c_drop a1 r1 s ho) x m,
    fun x m a1 r1 => st_of (f1 := fun x => X6_take x a1) (f2 := fun m => X7_take m a1) (fun s ho => c_take a1 r1 s ho) x m,
    fun x m a1 r1 => st_of (f1 := fun x => X6_desk x a1) (f2 := fun m => X7_desk m a1) (fun s ho => c_desk a1 r1 s ho) x m,
    fun x m a1 a2 r1 r2 => st_of (f1 := fun x => X6_keep x a1 a2) (f2 := fun m => X7_keep m a1 a2) (fun s ho => c_keep a1 a2 r1 r2 s ho) x m,
    fun x m a1 a2 r1 r2 => st_of (f1 := fun x => X6_text x a1 a2) (f2 := fun m => X7_text m a1 a2) (fun s ho => c_text a1 a2 r1 r2 s ho) x m,
    fun x m a1 a2 r1 r2 => st_of (f1 := fun x => X6_about x a1 a2) (f2 := fun m => X7_about m a1 a2) (fun s ho => c_about a1 a2 r1 r2 s ho) x m,
    fun x m a1 a2 r1 r2 => st_of (f1 := fun x => X6_asked x a1 a2) (f2 := fun m => X7_asked m a1 a2) (fun s ho => c_asked a1 a2 r1 r2 s ho) x m,
    fun x m a1 a2 a3 r1 r2 r3 => st_of (f1 := fun x => X6_differ x a1 a2 a3) (f2 := fun m => X7_differ m a1 a2 a3) (fun s ho => c_differ a1 a2 a3 r1 r2 r3 s ho) x m,
    fun x m a1 a2 a3 r1 r2 r3 => st_of (f1 := fun x => X6_kept x a1 a2 a3) (f2 := fun m => X7_kept m a1 a2 a3) (fun s ho => c_kept a1 a2 a3 r1 r2 r3 s ho) x m,
    fun x m a1 a2 r1 r2 => st_of (f1 := fun x => X6_patch x a1 a2) (f2 := fun m => X7_patch m a1 a2) (fun s ho => c_patch a1 a2 r1 r2 s ho) x m,
    fun x m  => st_of (f1 := fun x => X6_blank x ) (f2 := fun m => X7_blank m ) (fun s ho => c_blank  s ho) x m,
    fun x m a1 a2 a3 a4 r1 r2 r3 r4 => st_of (f1 := fun x => X6_hunk x a1 a2 a3 a4) (f2 := fun m => X7_hunk m a1 a2 a3 a4) (fun s ho => c_hunk a1 a2 a3 a4 r1 r2 r3 r4 s ho) x m,
    fun x m a1 a2 r1 r2 => st_of (f1 := fun x => X6_of x a1 a2) (f2 := fun m => X7_of m a1 a2) (fun s ho => c_of a1 a2 r1 r2 s ho) x m,
    fun x m a1 a2 a3 r1 r2 r3 => st_of (f1 := fun x => X6_hunkOf x a1 a2 a3) (f2 := fun m => X7_hunkOf m a1 a2 a3) (fun s ho => c_hunkOf a1 a2 a3 r1 r2 r3 s ho) x m,
    fun x m a1 r1 => st_of (f1 := fun x => X6_fits x a1) (f2 := fun m => X7_fits m a1) (fun s ho => c_fits a1 r1 s ho) x m,
    fun x m a1 r1 => st_of (f1 := fun x => X6_lay x a1) (f2 := fun m => X7_lay m a1) (fun s ho => c_lay a1 r1 s ho) x m,
    fun x m a1 r1 => st_of (f1 := fun x => X6_loose x a1) (f2 := fun m => X7_loose m a1) (fun s ho => c_loose a1 r1 s ho) x m,
    fun x m a1 r1 => st_of (f1 := fun x => X6_turn x a1) (f2 := fun m => X7_turn m a1) (fun s ho => c_turn a1 r1 s ho) x m,
    fun x m a1 a2 r1 r2 => st_of (f1 := fun x => X6_together x a1 a2) (f2 := fun m => X7_together m a1 a2) (fun s ho => c_together a1 a2 r1 r2 s ho) x m,
    fun x m a1 a2 r1 r2 => st_of (f1 := fun x => X6_swap x a1 a2) (f2 := fun m => X7_swap m a1 a2) (fun s ho => c_swap a1 a2 r1 r2 s ho) x m,
    fun x m a1 a2 a3 r1 r2 r3 => st_of (f1 := fun x => X6_clash x a1 a2 a3) (f2 := fun m => X7_clash m a1 a2 a3) (fun s ho => c_clash a1 a2 a3 r1 r2 r3 s ho) x m,
    fun x m a1 a2 a3 r1 r2 r3 => st_of (f1 := fun x => X6_join x a1 a2 a3) (f2 := fun m => X7_join m a1 a2 a3) (fun s ho => c_join a1 a2 a3 r1 r2 r3 s ho) x m,
    fun x m a1 a2 r1 r2 => st_of (f1 := fun x => X6_brought x a1 a2) (f2 := fun m => X7_brought m a1 a2) (fun s ho => c_brought a1 a2 r1 r2 s ho) x m,
    fun x m a1 a2 r1 r2 => st_of (f1 := fun x => X6_share x a1 a2) (f2 := fun m => X7_share m a1 a2) (fun s ho => c_share a1 a2 r1 r2 s ho) x m,
    fun x m a1 a2 a3 r1 r2 r3 => st_of (f1 := fun x => X6_store x a1 a2 a3) (f2 := fun m => X7_store m a1 a2 a3) (fun s ho => c_store a1 a2 a3 r1 r2 r3 s ho) x m,
    fun x m a1 a2 a3 r1 r2 r3 => st_of (f1 := fun x => X6_worst x a1 a2 a3) (f2 := fun m => X7_worst m a1 a2 a3) (fun s ho => c_worst a1 a2 a3 r1 r2 r3 s ho) x m,
    fun x m a1 a2 a3 a4 r1 r2 r3 r4 => st_of (f1 := fun x => X6_saved x a1 a2 a3 a4) (f2 := fun m => X7_saved m a1 a2 a3 a4) (fun s ho => c_saved a1 a2 a3 a4 r1 r2 r3 r4 s ho) x m,
    fun x m a1 r1 => st_of (f1 := fun x => X6_count x a1) (f2 := fun m => X7_count m a1) (fun s ho => c_count a1 r1 s ho) x m,
    fun x m  => st_of (f1 := fun x => X6_digest x ) (f2 := fun m => X7_digest m ) (fun s ho => c_digest  s ho) x m⟩
