def m_l : List (Nat × Nat) := [(1, 48), (3, 10), (4, 140), (5, 10), (6, 10), (7, 10), (9, 12), (10, 120), (11, 120), (12, 120), (13, 336), (14, 336), (17, 40), (18, 40), (19, 40), (21, 120), (23, 120), (24, 225), (25, 14), (28, 80), (29, 15), (30, 15), (31, 15), (32, 28), (34, 36), (35, 6), (36, 6), (37, 6), (38, 6)]
/-- kinds, references and lengths of the cells of m -/
def mS (h : AH) (m : Nat) : Prop := ah_T h m = 17 ∧ ∀ i, i < 29 → ah_T h (m + 1 + i) = 1 ∧ ah_N h (m + 1 + i) = (m_l.getD i (0, 0)).2 ∧ ah_P h m (m_l.getD i (0, 0)).1 = some (m + 1 + i)
theorem ms1 {h : AH} {m : Nat} (hS : mS h m) : ah_P h m 1 = some (m + 1) ∧ ah_T h (m + 1) = 1 ∧ ah_N h (m + 1) = 48 := by
  obtain ⟨a, b, c⟩ := hS.2 0 (by omega)
  rw [show m + 1 + 0 = m + 1 by omega] at a b c
  exact ⟨c, a, b⟩
theorem ms2 {h : AH} {m : Nat} (hS : mS h m) : ah_P h m 3 = some (m + 2) ∧ ah_T h (m + 2) = 1 ∧ ah_N h (m + 2) = 10 := by
  obtain ⟨a, b, c⟩ := hS.2 1 (by omega)
  rw [show m + 1 + 1 = m + 2 by omega] at a b c
  exact ⟨c, a, b⟩
theorem ms3 {h : AH} {m : Nat} (hS : mS h m) : ah_P h m 4 = some (m + 3) ∧ ah_T h (m + 3) = 1 ∧ ah_N h (m + 3) = 140 := by
  obtain ⟨a, b, c⟩ := hS.2 2 (by omega)
  rw [show m + 1 + 2 = m + 3 by omega] at a b c
  exact ⟨c, a, b⟩
theorem ms4 {h : AH} {m : Nat} (hS : mS h m) : ah_P h m 5 = some (m + 4) ∧ ah_T h (m + 4) = 1 ∧ ah_N h (m + 4) = 10 := by
  obtain ⟨a, b, c⟩ := hS.2 3 (by omega)
  rw [show m + 1 + 3 = m + 4 by omega] at a b c
  exact ⟨c, a, b⟩
theorem ms5 {h : AH} {m : Nat} (hS : mS h m) : ah_P h m 6 = some (m + 5) ∧ ah_T h (m + 5) = 1 ∧ ah_N h (m + 5) = 10 := by
  obtain ⟨a, b, c⟩ := hS.2 4 (by omega)
  rw [show m + 1 + 4 = m + 5 by omega] at a b c
  exact ⟨c, a, b⟩
theorem ms6 {h : AH} {m : Nat} (hS : mS h m) : ah_P h m 7 = some (m + 6) ∧ ah_T h (m + 6) = 1 ∧ ah_N h (m + 6) = 10 := by
  obtain ⟨a, b, c⟩ := hS.2 5 (by omega)
  rw [show m + 1 + 5 = m + 6 by omega] at a b c
  exact ⟨c, a, b⟩
theorem ms7 {h : AH} {m : Nat} (hS : mS h m) : ah_P h m 9 = some (m + 7) ∧ ah_T h (m + 7) = 1 ∧ ah_N h (m + 7) = 12 := by
  obtain ⟨a, b, c⟩ := hS.2 6 (by omega)
  rw [show m + 1 + 6 = m + 7 by omega] at a b c
  exact ⟨c, a, b⟩
theorem ms8 {h : AH} {m : Nat} (hS : mS h m) : ah_P h m 10 = some (m + 8) ∧ ah_T h (m + 8) = 1 ∧ ah_N h (m + 8) = 120 := by
  obtain ⟨a, b, c⟩ := hS.2 7 (by omega)
  rw [show m + 1 + 7 = m + 8 by omega] at a b c
  exact ⟨c, a, b⟩
theorem ms9 {h : AH} {m : Nat} (hS : mS h m) : ah_P h m 11 = some (m + 9) ∧ ah_T h (m + 9) = 1 ∧ ah_N h (m + 9) = 120 := by
  obtain ⟨a, b, c⟩ := hS.2 8 (by omega)
  rw [show m + 1 + 8 = m + 9 by omega] at a b c
  exact ⟨c, a, b⟩
theorem ms10 {h : AH} {m : Nat} (hS : mS h m) : ah_P h m 12 = some (m + 10) ∧ ah_T h (m + 10) = 1 ∧ ah_N h (m + 10) = 120 := by
  obtain ⟨a, b, c⟩ := hS.2 9 (by omega)
  rw [show m + 1 + 9 = m + 10 by omega] at a b c
  exact ⟨c, a, b⟩
theorem ms11 {h : AH} {m : Nat} (hS : mS h m) : ah_P h m 13 = some (m + 11) ∧ ah_T h (m + 11) = 1 ∧ ah_N h (m + 11) = 336 := by
  obtain ⟨a, b, c⟩ := hS.2 10 (by omega)
  rw [show m + 1 + 10 = m + 11 by omega] at a b c
  exact ⟨c, a, b⟩
theorem ms12 {h : AH} {m : Nat} (hS : mS h m) : ah_P h m 14 = some (m + 12) ∧ ah_T h (m + 12) = 1 ∧ ah_N h (m + 12) = 336 := by
  obtain ⟨a, b, c⟩ := hS.2 11 (by omega)
  rw [show m + 1 + 11 = m + 12 by omega] at a b c
  exact ⟨c, a, b⟩
theorem ms13 {h : AH} {m : Nat} (hS : mS h m) : ah_P h m 17 = some (m + 13) ∧ ah_T h (m + 13) = 1 ∧ ah_N h (m + 13) = 40 := by
  obtain ⟨a, b, c⟩ := hS.2 12 (by omega)
  rw [show m + 1 + 12 = m + 13 by omega] at a b c
  exact ⟨c, a, b⟩
theorem ms14 {h : AH} {m : Nat} (hS : mS h m) : ah_P h m 18 = some (m + 14) ∧ ah_T h (m + 14) = 1 ∧ ah_N h (m + 14) = 40 := by
  obtain ⟨a, b, c⟩ := hS.2 13 (by omega)
  rw [show m + 1 + 13 = m + 14 by omega] at a b c
  exact ⟨c, a, b⟩
theorem ms15 {h : AH} {m : Nat} (hS : mS h m) : ah_P h m 19 = some (m + 15) ∧ ah_T h (m + 15) = 1 ∧ ah_N h (m + 15) = 40 := by
  obtain ⟨a, b, c⟩ := hS.2 14 (by omega)
  rw [show m + 1 + 14 = m + 15 by omega] at a b c
  exact ⟨c, a, b⟩
theorem ms16 {h : AH} {m : Nat} (hS : mS h m) : ah_P h m 21 = some (m + 16) ∧ ah_T h (m + 16) = 1 ∧ ah_N h (m + 16) = 120 := by
  obtain ⟨a, b, c⟩ := hS.2 15 (by omega)
  rw [show m + 1 + 15 = m + 16 by omega] at a b c
  exact ⟨c, a, b⟩
theorem ms17 {h : AH} {m : Nat} (hS : mS h m) : ah_P h m 23 = some (m + 17) ∧ ah_T h (m + 17) = 1 ∧ ah_N h (m + 17) = 120 := by
  obtain ⟨a, b, c⟩ := hS.2 16 (by omega)
  rw [show m + 1 + 16 = m + 17 by omega] at a b c
  exact ⟨c, a, b⟩
theorem ms18 {h : AH} {m : Nat} (hS : mS h m) : ah_P h m 24 = some (m + 18) ∧ ah_T h (m + 18) = 1 ∧ ah_N h (m + 18) = 225 := by
  obtain ⟨a, b, c⟩ := hS.2 17 (by omega)
  rw [show m + 1 + 17 = m + 18 by omega] at a b c
  exact ⟨c, a, b⟩
theorem ms19 {h : AH} {m : Nat} (hS : mS h m) : ah_P h m 25 = some (m + 19) ∧ ah_T h (m + 19) = 1 ∧ ah_N h (m + 19) = 14 := by
  obtain ⟨a, b, c⟩ := hS.2 18 (by omega)
  rw [show m + 1 + 18 = m + 19 by omega] at a b c
  exact ⟨c, a, b⟩
theorem ms20 {h : AH} {m : Nat} (hS : mS h m) : ah_P h m 28 = some (m + 20) ∧ ah_T h (m + 20) = 1 ∧ ah_N h (m + 20) = 80 := by
  obtain ⟨a, b, c⟩ := hS.2 19 (by omega)
  rw [show m + 1 + 19 = m + 20 by omega] at a b c
  exact ⟨c, a, b⟩
theorem ms21 {h : AH} {m : Nat} (hS : mS h m) : ah_P h m 29 = some (m + 21) ∧ ah_T h (m + 21) = 1 ∧ ah_N h (m + 21) = 15 := by
  obtain ⟨a, b, c⟩ := hS.2 20 (by omega)
  rw [show m + 1 + 20 = m + 21 by omega] at a b c
  exact ⟨c, a, b⟩
theorem ms22 {h : AH} {m : Nat} (hS : mS h m) : ah_P h m 30 = some (m + 22) ∧ ah_T h (m + 22) = 1 ∧ ah_N h (m + 22) = 15 := by
  obtain ⟨a, b, c⟩ := hS.2 21 (by omega)
  rw [show m + 1 + 21 = m + 22 by omega] at a b c
  exact ⟨c, a, b⟩
theorem ms23 {h : AH} {m : Nat} (hS : mS h m) : ah_P h m 31 = some (m + 23) ∧ ah_T h (m + 23) = 1 ∧ ah_N h (m + 23) = 15 := by
  obtain ⟨a, b, c⟩ := hS.2 22 (by omega)
  rw [show m + 1 + 22 = m + 23 by omega] at a b c
  exact ⟨c, a, b⟩
theorem ms24 {h : AH} {m : Nat} (hS : mS h m) : ah_P h m 32 = some (m + 24) ∧ ah_T h (m + 24) = 1 ∧ ah_N h (m + 24) = 28 := by
  obtain ⟨a, b, c⟩ := hS.2 23 (by omega)
  rw [show m + 1 + 23 = m + 24 by omega] at a b c
  exact ⟨c, a, b⟩
theorem ms25 {h : AH} {m : Nat} (hS : mS h m) : ah_P h m 34 = some (m + 25) ∧ ah_T h (m + 25) = 1 ∧ ah_N h (m + 25) = 36 := by
  obtain ⟨a, b, c⟩ := hS.2 24 (by omega)
  rw [show m + 1 + 24 = m + 25 by omega] at a b c
  exact ⟨c, a, b⟩
theorem ms26 {h : AH} {m : Nat} (hS : mS h m) : ah_P h m 35 = some (m + 26) ∧ ah_T h (m + 26) = 1 ∧ ah_N h (m + 26) = 6 := by
  obtain ⟨a, b, c⟩ := hS.2 25 (by omega)
  rw [show m + 1 + 25 = m + 26 by omega] at a b c
  exact ⟨c, a, b⟩
theorem ms27 {h : AH} {m : Nat} (hS : mS h m) : ah_P h m 36 = some (m + 27) ∧ ah_T h (m + 27) = 1 ∧ ah_N h (m + 27) = 6 := by
  obtain ⟨a, b, c⟩ := hS.2 26 (by omega)
  rw [show m + 1 + 26 = m + 27 by omega] at a b c
  exact ⟨c, a, b⟩
theorem ms28 {h : AH} {m : Nat} (hS : mS h m) : ah_P h m 37 = some (m + 28) ∧ ah_T h (m + 28) = 1 ∧ ah_N h (m + 28) = 6 := by
  obtain ⟨a, b, c⟩ := hS.2 27 (by omega)
  rw [show m + 1 + 27 = m + 28 by omega] at a b c
  exact ⟨c, a, b⟩
theorem ms29 {h : AH} {m : Nat} (hS : mS h m) : ah_P h m 38 = some (m + 29) ∧ ah_T h (m + 29) = 1 ∧ ah_N h (m + 29) = 6 := by
  obtain ⟨a, b, c⟩ := hS.2 28 (by omega)
  rw [show m + 1 + 28 = m + 29 by omega] at a b c
  exact ⟨c, a, b⟩
/-- only the int arrays from al up to ah_ and the number fields from fl up to fh are changed -/
def MF (m al ah_ fl fh : Nat) (h h' : AH) : Prop := ah_T h' = ah_T h ∧ ah_N h' = ah_N h ∧ ah_P h' = ah_P h ∧ ah_S h' = ah_S h ∧ (∀ k, k < al ∨ ah_ ≤ k → ah_I h' (m + k) = ah_I h (m + k)) ∧ ∀ k, k < fl ∨ fh ≤ k → ah_F h' m k = ah_F h m k
theorem MF.rf {m al ah_ fl fh : Nat} {h : AH} : MF m al ah_ fl fh h h := ⟨rfl, rfl, rfl, rfl, fun _ _ => rfl, fun _ _ => rfl⟩
theorem MF.tr {m a1 b1 c1 d1 a2 b2 c2 d2 a3 b3 c3 d3 : Nat} {h h' h'' : AH} (x : MF m a1 b1 c1 d1 h h') (y : MF m a2 b2 c2 d2 h' h'') (q : (a3 ≤ a1 ∧ a3 ≤ a2 ∧ b1 ≤ b3 ∧ b2 ≤ b3) ∧ (c3 ≤ c1 ∧ c3 ≤ c2 ∧ d1 ≤ d3 ∧ d2 ≤ d3)) : MF m a3 b3 c3 d3 h h'' :=
  ⟨y.1.trans x.1, y.2.1.trans x.2.1, y.2.2.1.trans x.2.2.1, y.2.2.2.1.trans x.2.2.2.1, fun k hk => (y.2.2.2.2.1 k (by omega)).trans (x.2.2.2.2.1 k (by omega)), fun k hk => (y.2.2.2.2.2 k (by omega)).trans (x.2.2.2.2.2 k (by omega))⟩
theorem MF.mono {m a1 b1 c1 d1 a3 b3 c3 d3 : Nat} {h h' : AH} (x : MF m a1 b1 c1 d1 h h') (q : (a3 ≤ a1 ∧ b1 ≤ b3) ∧ (c3 ≤ c1 ∧ d1 ≤ d3)) : MF m a3 b3 c3 d3 h h' := x.tr (a2 := a1) (b2 := b1) (c2 := c1) (d2 := d1) MF.rf (by omega)
theorem MF.sF {m al ah_ fl fh k : Nat} {h : AH} {v : Int} (h1 : fl ≤ k) (h2 : k < fh) : MF m al ah_ fl fh h (ah_sF h m k v) := ⟨rfl, rfl, rfl, rfl, fun _ _ => rfl, fun j hj => hl_F_sF_n (Or.inr (by omega))⟩
theorem MF.wI {m al ah_ fl fh k : Nat} {h : AH} {f : Int → Int} (h1 : al ≤ k) (h2 : k < ah_) : MF m al ah_ fl fh h (ah_wI h (m + k) f) := ⟨rfl, rfl, rfl, rfl, fun j hj => hl_I_wI_n (by omega), fun _ _ => rfl⟩
theorem MF.sI {m al ah_ fl fh k : Nat} {h : AH} {i v : Int} (h1 : al ≤ k) (h2 : k < ah_) : MF m al ah_ fl fh h (ah_sI h (m + k) i v) := by rw [hl_sI]; exact MF.wI h1 h2
theorem mS_fr {m al ah_ fl fh : Nat} {h h' : AH} (hS : mS h m) (f : MF m al ah_ fl fh h h') : mS h' m := by
  unfold mS at hS ⊢; rw [f.1, f.2.1, f.2.2.1]; exact hS
def mDesk (h : AH) (m : Nat) (D : List Int) : Prop := ah_F h m 0 = (D.length : Int) ∧ ∀ j : Nat, j < D.length → ah_I h (m + 1) (j : Int) = D.getD j 0
def mVer (h : AH) (m : Nat) (V : List VR) : Prop := ah_F h m 2 = (V.length : Int) ∧ ∀ v : Nat, v < V.length → ah_I h (m + 2) (v : Int) = ((vn V v).1.length : Int) ∧ (∀ k : Nat, k < (vn V v).1.length → ah_I h (m + 3) (14 * (v : Int) + (k : Int)) = (vn V v).1.getD k 0) ∧ ah_I h (m + 4) (v : Int) = (vn V v).2.1 ∧ ah_I h (m + 5) (v : Int) = (vn V v).2.2.1 ∧ ah_I h (m + 6) (v : Int) = (vn V v).2.2.2
def mPt (h : AH) (m p : Nat) (W : List HK) : Prop := ah_I h (m + 7) (p : Int) = (W.length : Int) ∧ (∀ i : Nat, i < W.length → ah_I h (m + 8) (10 * (p : Int) + (i : Int)) = (hk W i).1 ∧ ah_I h (m + 9) (10 * (p : Int) + (i : Int)) = ((hk W i).2.1.length : Int) ∧ ah_I h (m + 10) (10 * (p : Int) + (i : Int)) = ((hk W i).2.2.length : Int)) ∧ (∀ j : Nat, j < (fG W).length → ah_I h (m + 11) (28 * (p : Int) + (j : Int)) = (fG W).getD j 0) ∧ ∀ j : Nat, j < (fC W).length → ah_I h (m + 12) (28 * (p : Int) + (j : Int)) = (fC W).getD j 0
def mPat (h : AH) (m : Nat) (Q : List (List HK)) : Prop := ah_F h m 8 = (Q.length : Int) ∧ ∀ p : Nat, p < Q.length → mPt h m p (pt Q p)
def MI (h : AH) (m : Nat) (s : SG) : Prop := mS h m ∧ mDesk h m s.1 ∧ mVer h m s.2.1 ∧ mPat h m s.2.2.1 ∧ ah_F h m 15 = (s.2.2.2 : Int)
theorem mDesk_fr {m al ah_ fl fh : Nat} {h h' : AH} {D : List Int} (hD : mDesk h m D) (f : MF m al ah_ fl fh h h') (q : (2 ≤ al ∨ ah_ ≤ 1) ∧ (1 ≤ fl ∨ fh ≤ 0)) : mDesk h' m D := by
  unfold mDesk at hD ⊢; rw [f.2.2.2.2.2 0 (by omega), f.2.2.2.2.1 1 (by omega)]; exact hD
theorem mVer_fr {m al ah_ fl fh : Nat} {h h' : AH} {V : List VR} (hD : mVer h m V) (f : MF m al ah_ fl fh h h') (q : (7 ≤ al ∨ ah_ ≤ 2) ∧ (3 ≤ fl ∨ fh ≤ 2)) : mVer h' m V := by
  unfold mVer at hD ⊢; rw [f.2.2.2.2.2 2 (by omega), f.2.2.2.2.1 2 (by omega), f.2.2.2.2.1 3 (by omega), f.2.2.2.2.1 4 (by omega), f.2.2.2.2.1 5 (by omega), f.2.2.2.2.1 6 (by omega)]; exact hD
theorem mPt_fr {m al ah_ fl fh p : Nat} {h h' : AH} {W : List HK} (hD : mPt h m p W) (f : MF m al ah_ fl fh h h') (q : 13 ≤ al ∨ ah_ ≤ 7) : mPt h' m p W := by
  unfold mPt at hD ⊢; rw [f.2.2.2.2.1 7 (by omega), f.2.2.2.2.1 8 (by omega), f.2.2.2.2.1 9 (by omega), f.2.2.2.2.1 10 (by omega), f.2.2.2.2.1 11 (by omega), f.2.2.2.2.1 12 (by omega)]; exact hD
theorem mPat_fr {m al ah_ fl fh : Nat} {h h' : AH} {Q : List (List HK)} (hD : mPat h m Q) (f : MF m al ah_ fl fh h h') (q : (13 ≤ al ∨ ah_ ≤ 7) ∧ (9 ≤ fl ∨ fh ≤ 8)) : mPat h' m Q :=
  ⟨by rw [f.2.2.2.2.2 8 (by omega)]; exact hD.1, fun p hp => mPt_fr (hD.2 p hp) f q.1⟩
theorem MI_fr {m al ah_ fl fh : Nat} {h h' : AH} {s : SG} (hM : MI h m s) (f : MF m al ah_ fl fh h h') (q : 13 ≤ al ∧ 16 ≤ fl) : MI h' m s :=
  ⟨mS_fr hM.1 f, mDesk_fr hM.2.1 f (by omega), mVer_fr hM.2.2.1 f (by omega), mPat_fr hM.2.2.2.1 f (by omega), by rw [f.2.2.2.2.2 15 (by omega)]; exact hM.2.2.2.2⟩
theorem MI_desk {m : Nat} {h h' : AH} {D D' : List Int} {r : List VR × List (List HK) × Nat} (hM : MI h m (D, r)) (f : MF m 1 2 0 1 h h') (hD : mDesk h' m D') : MI h' m (D', r) :=
  ⟨mS_fr hM.1 f, hD, mVer_fr hM.2.2.1 f (by omega), mPat_fr hM.2.2.2.1 f (by omega), by rw [f.2.2.2.2.2 15 (by omega)]; exact hM.2.2.2.2⟩
theorem mDesk_at {h : AH} {m : Nat} {D : List Int} (hD : mDesk h m D) {i : Int} (h0 : 0 ≤ i) (h1 : i < D.length) : ah_I h (m + 1) i = D.getD i.toNat 0 := by
  have := hD.2 i.toNat (by omega); rwa [Int.toNat_of_nonneg h0] at this
/-- the row's lines become f -/
theorem mDesk_new {h : AH} {m : Nat} {D : List Int} {f : Int → Int} (hc : ∀ j : Nat, j < D.length → f (j : Int) = D.getD j 0) : mDesk (ah_sF (ah_wI h (m + 1) f) m 0 (D.length : Int)) m D :=
  ⟨hl_F_sF_s, fun j hj => by rw [hl_I_sF, hl_I_wI_s]; exact hc j hj⟩
theorem mDesk_newF {h : AH} {m : Nat} {n : Int} {f : Int → Int} : MF m 1 2 0 1 h (ah_sF (ah_wI h (m + 1) f) m 0 n) :=
  MF.tr (MF.wI (al := 1) (ah_ := 2) (fl := 0) (fh := 1) (by omega) (by omega)) (MF.sF (al := 1) (ah_ := 2) (fl := 0) (fh := 1) (by omega) (by omega)) (by omega)
theorem br_01 {c : Prop} : br c (1 : Int) 0 = 0 ∨ br c (1 : Int) 0 = 1 := by
  by_cases h : c
  · right; exact bc_t h
  · left; exact bc_f h
theorem q7_within {h : AH} {v lo hi : Int} (hv : am_r v) (hl : am_r lo) (hh : am_r hi) : X7_within v lo hi h = some (br (lo ≤ v ∧ v ≤ hi) 1 0, h) := by
  unfold am_r at hv hl hh
  by_cases h1 : lo ≤ v
  · by_cases h2 : v ≤ hi
    · rw [bc_t (by omega)]
      simp (disch := omega) only [X7_within, rr_p, rr_bp, rr_bb, rr_0, rr_lt, rr_blt, rr_le, rr_ble, rr_eq, rr_beq, rr_nl_n, rr_nl_s, rr_bnl_n, rr_bnl_s, rr_cond_t, rr_cond_f, rr_bcond_t, rr_bcond_f, rr_bon, rr_bcv, rr_cv, rr_g, rr_gr, rr_si, rr_sz, rr_sr, rr_al, rr_ld, rr_st, rr_rl, rr_rs, rr_ni, rr_nr, rr_z, rr_div, rr_rem, rr_lc, rr_mx, rr_mn, rr_ab, rr_no, gd_t, bc_t, bc_f, gd_tt, bc_tt, bc_ff, or_true, true_or, and_true, true_and, Nat.reduceAdd]
    · rw [bc_f (by omega)]
      simp (disch := omega) only [X7_within, rr_p, rr_bp, rr_bb, rr_0, rr_lt, rr_blt, rr_le, rr_ble, rr_eq, rr_beq, rr_nl_n, rr_nl_s, rr_bnl_n, rr_bnl_s, rr_cond_t, rr_cond_f, rr_bcond_t, rr_bcond_f, rr_bon, rr_bcv, rr_cv, rr_g, rr_gr, rr_si, rr_sz, rr_sr, rr_al, rr_ld, rr_st, rr_rl, rr_rs, rr_ni, rr_nr, rr_z, rr_div, rr_rem, rr_lc, rr_mx, rr_mn, rr_ab, rr_no, gd_t, bc_t, bc_f, gd_tt, bc_tt, bc_ff, or_true, true_or, and_true, true_and, Nat.reduceAdd]
  · rw [bc_f (by omega)]
    simp (disch := omega) only [X7_within, rr_p, rr_bp, rr_bb, rr_0, rr_lt, rr_blt, rr_le, rr_ble, rr_eq, rr_beq, rr_nl_n, rr_nl_s, rr_bnl_n, rr_bnl_s, rr_cond_t, rr_cond_f, rr_bcond_t, rr_bcond_f, rr_bon, rr_bcv, rr_cv, rr_g, rr_gr, rr_si, rr_sz, rr_sr, rr_al, rr_ld, rr_st, rr_rl, rr_rs, rr_ni, rr_nr, rr_z, rr_div, rr_rem, rr_lc, rr_mx, rr_mn, rr_ab, rr_no, gd_t, bc_t, bc_f, gd_tt, bc_tt, bc_ff, or_true, true_or, and_true, true_and, Nat.reduceAdd]
theorem q7_isVersion {h : AH} {m : Nat} {s : SG} (hM : MI h m s) (hs : s.2.1.length ≤ 10) {v : Int} (hv : am_r v) : X7_isVersion m v h = some (br (0 ≤ v ∧ v < s.2.1.length) 1 0, h) := by
  have mT := hM.1.1
  have f := hM.2.2.1.1
  have e := q7_within (h := h) (v := v) (lo := 0) (hi := (s.2.1.length : Int) - 1) hv (by unfold am_r; omega) (by unfold am_r; omega)
  have e2 : (0 ≤ v ∧ v ≤ (s.2.1.length : Int) - 1) = (0 ≤ v ∧ v < (s.2.1.length : Int)) := propext (by omega)
  rw [e2] at e
  simp (disch := omega) only [X7_isVersion, rr_p, rr_bp, rr_bb, rr_0, rr_lt, rr_blt, rr_le, rr_ble, rr_eq, rr_beq, rr_nl_n, rr_nl_s, rr_bnl_n, rr_bnl_s, rr_cond_t, rr_cond_f, rr_bcond_t, rr_bcond_f, rr_bon, rr_bcv, rr_cv, rr_g, rr_gr, rr_si, rr_sz, rr_sr, rr_al, rr_ld, rr_st, rr_rl, rr_rs, rr_ni, rr_nr, rr_z, rr_div, rr_rem, rr_lc, rr_mx, rr_mn, rr_ab, rr_no, gd_t, bc_t, bc_f, gd_tt, bc_tt, bc_ff, or_true, true_or, and_true, true_and, Nat.reduceAdd, f, mo_b_s e]
  exact gd_t br_01
theorem q7_isPatch {h : AH} {m : Nat} {s : SG} (hM : MI h m s) (hs : s.2.2.1.length ≤ 12) {v : Int} (hv : am_r v) : X7_isPatch m v h = some (br (0 ≤ v ∧ v < s.2.2.1.length) 1 0, h) := by
  have mT := hM.1.1
  have f := hM.2.2.2.1.1
  have e := q7_within (h := h) (v := v) (lo := 0) (hi := (s.2.2.1.length : Int) - 1) hv (by unfold am_r; omega) (by unfold am_r; omega)
  have e2 : (0 ≤ v ∧ v ≤ (s.2.2.1.length : Int) - 1) = (0 ≤ v ∧ v < (s.2.2.1.length : Int)) := propext (by omega)
  rw [e2] at e
  simp (disch := omega) only [X7_isPatch, rr_p, rr_bp, rr_bb, rr_0, rr_lt, rr_blt, rr_le, rr_ble, rr_eq, rr_beq, rr_nl_n, rr_nl_s, rr_bnl_n, rr_bnl_s, rr_cond_t, rr_cond_f, rr_bcond_t, rr_bcond_f, rr_bon, rr_bcv, rr_cv, rr_g, rr_gr, rr_si, rr_sz, rr_sr, rr_al, rr_ld, rr_st, rr_rl, rr_rs, rr_ni, rr_nr, rr_z, rr_div, rr_rem, rr_lc, rr_mx, rr_mn, rr_ab, rr_no, gd_t, bc_t, bc_f, gd_tt, bc_tt, bc_ff, or_true, true_or, and_true, true_and, Nat.reduceAdd, f, mo_b_s e]
  exact gd_t br_01
