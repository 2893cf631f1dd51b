/-- how many of the first n are below b -/
def cB (f : Nat → Int) (b : Int) : Nat → Nat
  | 0 => 0
  | n + 1 => cB f b n + (if f n < b then 1 else 0)
def shf (W : List HK) (k : Nat) : Int := (hcs W k : Int) - (hgs W k : Int)
theorem cB_f {f : Nat → Int} {b : Int} : ∀ {n : Nat}, (∀ i j, i < j → j < n → f i < f j) → cB f b n ≤ n ∧ (∀ k, k < cB f b n → f k < b) ∧ ∀ k, cB f b n ≤ k → k < n → b ≤ f k := by
  intro n
  induction n with
  | zero => intro _; exact ⟨Nat.le_refl _, fun k hk => by simp [cB] at hk, fun k _ hk => by omega⟩
  | succ n ih =>
    intro hm
    obtain ⟨h1, h2, h3⟩ := ih (fun i j a c => hm i j a (by omega))
    by_cases hc : f n < b
    · have e : cB f b n = n := by
        by_cases z : cB f b n = n
        · exact z
        · have h4 := h3 (cB f b n) (Nat.le_refl _) (by omega)
          have h5 := hm (cB f b n) n (by omega) (by omega)
          omega
      have e2 : cB f b (n + 1) = n + 1 := by show cB f b n + (if f n < b then 1 else 0) = _; rw [if_pos hc, e]
      rw [e2]
      refine ⟨Nat.le_refl _, fun k hk => ?_, fun k hk1 hk2 => by omega⟩
      by_cases z : k = n
      · rw [z]; exact hc
      · exact h2 k (by omega)
    · have e2 : cB f b (n + 1) = cB f b n := by show cB f b n + (if f n < b then 1 else 0) = _; rw [if_neg hc]; rfl
      rw [e2]
      refine ⟨by omega, h2, fun k hk1 hk2 => ?_⟩
      by_cases z : k = n
      · rw [z]; omega
      · exact h3 k hk1 (by omega)
theorem shf_s {W : List HK} {k : Nat} (h : k < W.length) : shf W (k + 1) = shf W k + (((hk W k).2.2.length : Int) - ((hk W k).2.1.length : Int)) := by
  unfold shf; rw [hcs_s h, hgs_s h]; omega
/-- the sum over those below b is the shift before the first that is not -/
def sB (W : List HK) (f : Nat → Int) (b : Int) : Nat → Int
  | 0 => 0
  | n + 1 => sB W f b n + (if f n < b then ((hk W n).2.2.length : Int) - ((hk W n).2.1.length : Int) else 0)
theorem sB_eq {W : List HK} {f : Nat → Int} {b : Int} : ∀ {n : Nat}, n ≤ W.length → (∀ i j, i < j → j < n → f i < f j) → sB W f b n = shf W (cB f b n) := by
  intro n
  induction n with
  | zero => intro _ _; rfl
  | succ n ih =>
    intro hn hm
    have h0 := ih (by omega) (fun i j a c => hm i j a (by omega))
    obtain ⟨h1, h2, h3⟩ := cB_f (b := b) (n := n) (fun i j a c => hm i j a (by omega))
    show sB W f b n + (if f n < b then _ else _) = shf W (cB f b n + (if f n < b then 1 else 0))
    by_cases hc : f n < b
    · have e : cB f b n = n := by
        by_cases z : cB f b n = n
        · exact z
        · have h4 := h3 (cB f b n) (Nat.le_refl _) (by omega)
          have h5 := hm (cB f b n) n (by omega) (by omega)
          omega
      rw [if_pos hc, if_pos hc, h0, e, shf_s (by omega)]
    · rw [if_neg hc, if_neg hc, h0]; simp
def mvW (W : List HK) (e : Nat → Int) : List HK := (List.range W.length).map (fun i => (e i, (hk W i).2.1, (hk W i).2.2))
def mvP (W : List HK) (e : Nat → Int) (n : Nat) : List HK := (List.range n).map (fun i => (e i, (hk W i).2.1, (hk W i).2.2))
theorem mvP_s {W : List HK} {e : Nat → Int} {n : Nat} : mvP W e (n + 1) = mvP W e n ++ [(e n, (hk W n).2.1, (hk W n).2.2)] := by
  unfold mvP; rw [List.range_succ, List.map_append]; rfl
theorem mvP_fG {W : List HK} {e : Nat → Int} {n : Nat} (hn : n ≤ W.length) : (fG (mvP W e n)).length = hgs W n := by
  induction n with
  | zero => rfl
  | succ n ih => rw [mvP_s, fG_app, fG_one, List.length_append, ih (by omega), hgs_s (by omega)]
theorem mvP_fC {W : List HK} {e : Nat → Int} {n : Nat} (hn : n ≤ W.length) : (fC (mvP W e n)).length = hcs W n := by
  induction n with
  | zero => rfl
  | succ n ih => rw [mvP_s, fC_app, fC_one, List.length_append, ih (by omega), hcs_s (by omega)]
theorem mvW_hk {W : List HK} {e : Nat → Int} {i : Nat} (hi : i < W.length) : hk (mvW W e) i = (e i, (hk W i).2.1, (hk W i).2.2) := by
  have h : hk (mvW W e) i = (mvW W e).getD i (0, [], []) := rfl
  rw [h]; unfold mvW
  rw [List.getD_eq_getElem?_getD, List.getElem?_map, List.getElem?_range hi]; rfl
theorem mvW_OP {b b2 : Int} {W : List HK} {e : Nat → Int} (h : OP b W) (h0 : ∀ i, i < W.length → 0 ≤ e i ∧ e i ≤ b2) (h1 : ∀ i, i + 1 < W.length → e i + ((hk W i).2.1.length : Int) + 1 ≤ e (i + 1)) : OP b2 (mvW W e) := by
  have hl : (mvW W e).length = W.length := by simp [mvW]
  have t1 : (fG (mvW W e)).length = _ := mvP_fG (W := W) (e := e) (Nat.le_refl _)
  have t2 : (fC (mvW W e)).length = _ := mvP_fC (W := W) (e := e) (Nat.le_refl _)
  rw [hgs_all] at t1
  rw [hcs_all] at t2
  refine ⟨⟨fun i hi => ?_, fun i hi => ?_⟩, by rw [hl]; exact h.2.1, by rw [t1]; exact h.2.2.1, by rw [t2]; exact h.2.2.2.1, fun i hi => ?_⟩
  · rw [hl] at hi; rw [mvW_hk hi]; exact (h0 i hi).1
  · rw [hl] at hi; rw [mvW_hk hi, mvW_hk (by omega)]; exact h1 i hi
  · rw [hl] at hi
    rw [mvW_hk hi]
    obtain ⟨g1, g2, g3⟩ := h.2.2.2.2 i hi
    exact ⟨g1, g2, (h0 i hi).2⟩
/-- the second patch moved ahead of the first, the first moved behind it -/
def eA (P Q : List HK) (i : Nat) : Int := (hk Q i).1 - shf P (cB (hB P) (hk Q i).1 P.length)
def eB (P Q : List HK) (i : Nat) : Int := (hk P i).1 + shf Q (cB (fun j => (hk Q j).1) (hB P i) Q.length)
def nT (P Q : List HK) : Prop := ∀ i j : Nat, i < P.length → j < Q.length → ¬ (hB P i ≤ (hk Q j).1 + (hk Q j).2.1.length ∧ (hk Q j).1 ≤ hB P i + (hk P i).2.2.length)
theorem sW_mono {W : List HK} (h : sW W) : ∀ j i : Nat, i ≤ j → j < W.length → (hk W i).1 + ((hgs W j : Int) - (hgs W i : Int)) ≤ (hk W j).1 ∧ (i < j → (hk W i).1 + (hk W i).2.1.length + 1 ≤ (hk W j).1) := by
  intro j
  induction j with
  | zero => intro i hi hj; have : i = 0 := by omega
            subst this; exact ⟨by omega, fun z => by omega⟩
  | succ j ih =>
    intro i hi hj
    have h1 := h.2 j hj
    have h2 := @hgs_s W j (by omega)
    by_cases c : i = j + 1
    · subst c; exact ⟨by omega, fun z => by omega⟩
    · obtain ⟨h3, h4⟩ := ih i (by omega) (by omega)
      refine ⟨by omega, fun _ => ?_⟩
      by_cases c2 : i = j
      · subst c2; exact h1
      · have := h4 (by omega); omega
theorem hB_mono {W : List HK} (h : sW W) : ∀ i j : Nat, i < j → j < W.length → hB W i < hB W j := by
  intro i j
  induction j with
  | zero => intro hi; omega
  | succ j ih =>
    intro hi hj
    have h1 := hB_s h hj
    by_cases c : i = j
    · subst c; omega
    · have := ih (by omega) (by omega); omega
theorem at_mono {W : List HK} (h : sW W) : ∀ i j : Nat, i < j → j < W.length → (hk W i).1 < (hk W j).1 := fun i j h1 h2 => by
  have := (sW_mono h j i (by omega) h2).2 h1; omega
theorem hB_shf (W : List HK) (i : Nat) : hB W i = (hk W i).1 + shf W i := rfl
theorem eA_f {P Q : List HK} (hP : sW P) (hQ : sW Q) (hn : nT P Q) {j : Nat} (hj : j < Q.length) : (∀ i, i < P.length → hB P i < (hk Q j).1 → (hk P i).1 + (hk P i).2.1.length + 1 ≤ eA P Q j) ∧ (∀ i, i < P.length → (hk Q j).1 ≤ hB P i → eA P Q j + (hk Q j).2.1.length + 1 ≤ (hk P i).1) ∧ 0 ≤ eA P Q j := by
  obtain ⟨c1, c2, c3⟩ := cB_f (f := hB P) (b := (hk Q j).1) (n := P.length) (hB_mono hP)
  have key : ∀ k, cB (hB P) (hk Q j).1 P.length = k + 1 → (hk P k).1 + (hk P k).2.1.length + 1 ≤ eA P Q j := by
    intro k hk1
    have h1 := c2 k (by omega)
    have h2 := hn k j (by omega) hj
    have h3 := @shf_s P k (by omega)
    have h4 := hB_shf P k
    unfold eA
    rw [hk1]
    omega
  refine ⟨fun i hi hlt => ?_, fun i hi hle => ?_, ?_⟩
  · have hic : i < cB (hB P) (hk Q j).1 P.length := by
      by_cases z : i < cB (hB P) (hk Q j).1 P.length
      · exact z
      · have := c3 i (by omega) hi; omega
    have h1 := key (cB (hB P) (hk Q j).1 P.length - 1) (by omega)
    by_cases z : i = cB (hB P) (hk Q j).1 P.length - 1
    · rw [z]; exact h1
    · have := (sW_mono hP (cB (hB P) (hk Q j).1 P.length - 1) i (by omega) (by omega)).2 (by omega)
      omega
  · have hic : cB (hB P) (hk Q j).1 P.length ≤ i := by
      by_cases z : cB (hB P) (hk Q j).1 P.length ≤ i
      · exact z
      · have := c2 i (by omega); omega
    have h1 := c3 (cB (hB P) (hk Q j).1 P.length) (Nat.le_refl _) (by omega)
    have h2 := hn (cB (hB P) (hk Q j).1 P.length) j (by omega) hj
    have h4 := hB_shf P (cB (hB P) (hk Q j).1 P.length)
    have h5 : eA P Q j + (hk Q j).2.1.length + 1 ≤ (hk P (cB (hB P) (hk Q j).1 P.length)).1 := by unfold eA; omega
    by_cases z : i = cB (hB P) (hk Q j).1 P.length
    · rw [z]; exact h5
    · have := (sW_mono hP i (cB (hB P) (hk Q j).1 P.length) (by omega) hi).2 (by omega)
      omega
  · by_cases z : cB (hB P) (hk Q j).1 P.length = 0
    · unfold eA; rw [z]
      have h1 : shf P 0 = 0 := rfl
      have h2 := hQ.1 j hj
      omega
    · have h1 := key (cB (hB P) (hk Q j).1 P.length - 1) (by omega)
      have h2 := hP.1 (cB (hB P) (hk Q j).1 P.length - 1) (by omega)
      omega
theorem eA_mono {P Q : List HK} (hP : sW P) (hQ : sW Q) (hn : nT P Q) {j : Nat} (hj : j + 1 < Q.length) : eA P Q j + (hk Q j).2.1.length + 1 ≤ eA P Q (j + 1) := by
  obtain ⟨a1, a2, a3⟩ := eA_f hP hQ hn (j := j) (by omega)
  obtain ⟨b1, b2, b3⟩ := eA_f hP hQ hn (j := j + 1) hj
  obtain ⟨c1, c2, c3⟩ := cB_f (f := hB P) (b := (hk Q j).1) (n := P.length) (hB_mono hP)
  obtain ⟨d1, d2, d3⟩ := cB_f (f := hB P) (b := (hk Q (j + 1)).1) (n := P.length) (hB_mono hP)
  have hs := hQ.2 j hj
  by_cases z : cB (hB P) (hk Q j).1 P.length = cB (hB P) (hk Q (j + 1)).1 P.length
  · unfold eA; rw [z]; omega
  · have hlt : cB (hB P) (hk Q j).1 P.length < cB (hB P) (hk Q (j + 1)).1 P.length := by
      by_cases y : cB (hB P) (hk Q j).1 P.length < cB (hB P) (hk Q (j + 1)).1 P.length
      · exact y
      · have h1 := c2 (cB (hB P) (hk Q (j + 1)).1 P.length) (by omega)
        have h2 := d3 (cB (hB P) (hk Q (j + 1)).1 P.length) (Nat.le_refl _) (by omega)
        omega
    have h1 := a2 (cB (hB P) (hk Q j).1 P.length) (by omega) (c3 _ (Nat.le_refl _) (by omega))
    have h2 := b1 (cB (hB P) (hk Q j).1 P.length) (by omega) (d2 _ hlt)
    omega
theorem eA_OP {b b2 : Int} {P Q : List HK} (hP : OP b P) (hQ : OP b Q) (hn : nT P Q) (hb : b + 28 ≤ b2) : OP b2 (mvW Q (eA P Q)) := by
  refine mvW_OP hQ (fun i hi => ⟨(eA_f hP.1 hQ.1 hn hi).2.2, ?_⟩) (fun i hi => eA_mono hP.1 hQ.1 hn hi)
  have h1 := (hQ.2.2.2.2 i hi).2.2
  have h2 := @hgs_le P (cB (hB P) (hk Q i).1 P.length)
  have h3 := hP.2.2.1
  unfold eA shf; omega
theorem eB_OP {b b2 : Int} {P Q : List HK} (hP : OP b P) (hQ : OP b Q) (hn : nT P Q) (hb : b + 28 ≤ b2) : OP b2 (mvW P (eB P Q)) := by
  have hA := eA_OP hP hQ hn (b2 := b + 28) (Int.le_refl _)
  have hlA : (mvW Q (eA P Q)).length = Q.length := by simp [mvW]
  have hgA : ∀ k, k ≤ Q.length → hgs (mvW Q (eA P Q)) k = hgs Q k := by
    intro k
    induction k with
    | zero => intro _; rfl
    | succ k ih => intro hk1; rw [hgs_s (by omega), hgs_s (by omega), ih (by omega), mvW_hk (by omega)]
  have hm := at_mono hQ.1
  refine mvW_OP hP (fun i hi => ⟨?_, ?_⟩) (fun i hi => ?_)
  · obtain ⟨c1, c2, c3⟩ := cB_f (f := fun j => (hk Q j).1) (b := hB P i) (n := Q.length) hm
    by_cases z : cB (fun j => (hk Q j).1) (hB P i) Q.length = 0
    · unfold eB; rw [z]
      have h1 : shf Q 0 = 0 := rfl
      have h2 := hP.1.1 i hi
      omega
    · have hk1 : cB (fun j => (hk Q j).1) (hB P i) Q.length - 1 < Q.length := by omega
      have h1 := c2 (cB (fun j => (hk Q j).1) (hB P i) Q.length - 1) (by omega)
      have h2 := (eA_f hP.1 hQ.1 hn hk1).2.1 i hi (by omega)
      have h3 := hgs_at hA.1 (cB (fun j => (hk Q j).1) (hB P i) Q.length - 1) (by omega)
      rw [hgA _ (by omega), mvW_hk hk1] at h3
      have h4 := @hgs_s Q (cB (fun j => (hk Q j).1) (hB P i) Q.length - 1) hk1
      rw [show cB (fun j => (hk Q j).1) (hB P i) Q.length - 1 + 1 = cB (fun j => (hk Q j).1) (hB P i) Q.length by omega] at h4
      unfold eB shf
      omega
  · have h1 := (hP.2.2.2.2 i hi).2.2
    have h2 := @hcs_le Q (cB (fun j => (hk Q j).1) (hB P i) Q.length)
    have h3 := hQ.2.2.2.1
    unfold eB shf; omega
  · obtain ⟨c1, c2, c3⟩ := cB_f (f := fun j => (hk Q j).1) (b := hB P i) (n := Q.length) hm
    obtain ⟨d1, d2, d3⟩ := cB_f (f := fun j => (hk Q j).1) (b := hB P (i + 1)) (n := Q.length) hm
    have hs := hP.1.2 i hi
    have hbb := hB_mono hP.1 i (i + 1) (by omega) hi
    by_cases z : cB (fun j => (hk Q j).1) (hB P i) Q.length = cB (fun j => (hk Q j).1) (hB P (i + 1)) Q.length
    · unfold eB; rw [z]; omega
    · have hlt : cB (fun j => (hk Q j).1) (hB P i) Q.length < cB (fun j => (hk Q j).1) (hB P (i + 1)) Q.length := by
        by_cases y : cB (fun j => (hk Q j).1) (hB P i) Q.length < cB (fun j => (hk Q j).1) (hB P (i + 1)) Q.length
        · exact y
        · have h1 := c2 (cB (fun j => (hk Q j).1) (hB P (i + 1)) Q.length) (by omega)
          have h2 := d3 (cB (fun j => (hk Q j).1) (hB P (i + 1)) Q.length) (Nat.le_refl _) (by omega)
          omega
      have k0 : cB (fun j => (hk Q j).1) (hB P i) Q.length < Q.length := by omega
      have k1 : cB (fun j => (hk Q j).1) (hB P (i + 1)) Q.length - 1 < Q.length := by omega
      have g1 := c3 _ (Nat.le_refl _) k0
      have g2 := hn i _ (by omega) k0
      have g3 := (eA_f hP.1 hQ.1 hn k0).1 i (by omega) (by omega)
      have g4 := (eA_f hP.1 hQ.1 hn k1).2.1 (i + 1) hi (by have := d2 (cB (fun j => (hk Q j).1) (hB P (i + 1)) Q.length - 1) (by omega); omega)
      have g5 := (sW_mono hA.1 (cB (fun j => (hk Q j).1) (hB P (i + 1)) Q.length - 1) (cB (fun j => (hk Q j).1) (hB P i) Q.length) (by omega) (by omega)).1
      rw [hgA _ (by omega), hgA _ (by omega), mvW_hk k0, mvW_hk k1] at g5
      have g6 := @hgs_s Q (cB (fun j => (hk Q j).1) (hB P (i + 1)) Q.length - 1) k1
      rw [show cB (fun j => (hk Q j).1) (hB P (i + 1)) Q.length - 1 + 1 = cB (fun j => (hk Q j).1) (hB P (i + 1)) Q.length by omega] at g6
      have g7 := @hcs_mono Q (cB (fun j => (hk Q j).1) (hB P i) Q.length) (cB (fun j => (hk Q j).1) (hB P (i + 1)) Q.length) (by omega)
      dsimp only at g5
      unfold eB shf
      omega
