/-- stretches of a row: begins, ends, how many, what they hold before the i-th -/
def IV : Type := (Nat → Int) × (Nat → Int) × Nat × (Nat → Int)
def okI (X : IV) : Prop := (∀ i, i < X.2.2.1 → 0 ≤ X.1 i ∧ X.1 i ≤ X.2.1 i ∧ X.2.2.2 (i + 1) = X.2.2.2 i + (X.2.1 i - X.1 i)) ∧ ∀ i, i + 1 < X.2.2.1 → X.2.1 i + 1 ≤ X.1 (i + 1)
def ivP (P : List HK) : IV := (hB P, fun i => hB P i + ((hk P i).2.2.length : Int), P.length, fun i => (hcs P i : Int))
def ivQ (Q : List HK) : IV := (fun i => (hk Q i).1, fun i => (hk Q i).1 + ((hk Q i).2.1.length : Int), Q.length, fun i => (hgs Q i : Int))
theorem okP {P : List HK} (h : sW P) : okI (ivP P) := by
  refine ⟨fun i hi => ?_, fun i hi => ?_⟩
  · have hi : i < P.length := hi
    show 0 ≤ hB P i ∧ hB P i ≤ hB P i + ((hk P i).2.2.length : Int) ∧ (hcs P (i + 1) : Int) = (hcs P i : Int) + (hB P i + ((hk P i).2.2.length : Int) - hB P i)
    have h1 := hB_0 h hi
    have h2 := @hcs_s P i hi
    omega
  · exact hB_s h hi
theorem okQ {Q : List HK} (h : sW Q) : okI (ivQ Q) := by
  refine ⟨fun i hi => ?_, fun i hi => ?_⟩
  · have hi : i < Q.length := hi
    show 0 ≤ (hk Q i).1 ∧ (hk Q i).1 ≤ (hk Q i).1 + ((hk Q i).2.1.length : Int) ∧ (hgs Q (i + 1) : Int) = (hgs Q i : Int) + ((hk Q i).1 + ((hk Q i).2.1.length : Int) - (hk Q i).1)
    have h1 := h.1 i hi
    have h2 := @hgs_s Q i hi
    omega
  · exact h.2 i hi
theorem okI_m {X : IV} (h : okI X) : ∀ j i : Nat, i < j → j < X.2.2.1 → X.2.1 i + 1 ≤ X.1 j := by
  intro j
  induction j with
  | zero => intro i hi; omega
  | succ j ih =>
    intro i hi hj
    have h1 := h.2 j hj
    by_cases c : i = j
    · subst c; exact h1
    · have h2 := ih i (by omega) (by omega)
      have h3 := h.1 j (by omega)
      omega
def cI (X Y : IV) (i0 j0 : Nat) (lo : Int) (i j : Nat) (e : Int) : Prop := ((i0 ≤ i ∧ i ≤ X.2.2.1) ∧ (j0 ≤ j ∧ j ≤ Y.2.2.1) ∧ lo ≤ e) ∧ (∀ t, i0 ≤ t → t < i → X.2.1 t ≤ e) ∧ ∀ t, j0 ≤ t → t < j → Y.2.1 t ≤ e
def cX (X Y : IV) (i j : Nat) (e : Int) : Prop := (i < X.2.2.1 → e < X.1 i) ∧ (j < Y.2.2.1 → e < Y.1 j)
def cS (X Y : IV) (i0 j0 : Nat) (lo : Int) (i j : Nat) (e : Int) : Prop := cI X Y i0 j0 lo i j e ∧ (∀ (i' j' : Nat) (e' : Int), cI X Y i0 j0 lo i' j' e' → cX X Y i' j' e' → i ≤ i' ∧ j ≤ j' ∧ e ≤ e') ∧ (∀ z : Int, lo ≤ z → z < e → (∃ t, i0 ≤ t ∧ t < i ∧ X.1 t ≤ z ∧ z < X.2.1 t) ∨ ∃ t, j0 ≤ t ∧ t < j ∧ Y.1 t ≤ z ∧ z < Y.2.1 t) ∧ e - lo ≤ (X.2.2.2 i - X.2.2.2 i0) + (Y.2.2.2 j - Y.2.2.2 j0)
theorem cS0 {X Y : IV} {i0 j0 : Nat} {lo : Int} (h1 : i0 ≤ X.2.2.1) (h2 : j0 ≤ Y.2.2.1) : cS X Y i0 j0 lo i0 j0 lo :=
  ⟨⟨⟨⟨by omega, h1⟩, ⟨by omega, h2⟩, by omega⟩, fun t a b => by omega, fun t a b => by omega⟩, fun i' j' e' h _ => ⟨h.1.1.1, h.1.2.1.1, h.1.2.2⟩, fun z a b => by omega, by omega⟩
theorem cS_i {X Y : IV} (hX : okI X) {i0 j0 i j : Nat} {lo e : Int} (h : cS X Y i0 j0 lo i j e) (hi : i < X.2.2.1) (ha : X.1 i ≤ e) : cS X Y i0 j0 lo (i + 1) j (max e (X.2.1 i)) := by
  obtain ⟨⟨⟨⟨a1, a2⟩, ⟨b1, b2⟩, c1⟩, d1, d2⟩, h2, h3, h4⟩ := h
  obtain ⟨x1, x2, x3⟩ := hX.1 i hi
  refine ⟨⟨⟨⟨by omega, by omega⟩, ⟨b1, b2⟩, by omega⟩, fun t t1 t2 => ?_, fun t t1 t2 => ?_⟩, fun i' j' e' g1 g2 => ?_, fun z z1 z2 => ?_, by omega⟩
  · by_cases c : t = i
    · subst c; omega
    · have := d1 t t1 (by omega); omega
  · have := d2 t t1 t2; omega
  · obtain ⟨y1, y2, y3⟩ := h2 i' j' e' g1 g2
    have hlt : i < i' := by
      by_cases c : i = i'
      · subst c; have := g2.1 hi; omega
      · omega
    have := g1.2.1 i a1 hlt
    omega
  · by_cases c : z < e
    · rcases h3 z z1 c with ⟨t, t1, t2, t3⟩ | ⟨t, t1, t2, t3⟩
      · exact Or.inl ⟨t, t1, by omega, t3⟩
      · exact Or.inr ⟨t, t1, t2, t3⟩
    · exact Or.inl ⟨i, a1, by omega, by omega, by omega⟩
theorem cS_j {X Y : IV} (hY : okI Y) {i0 j0 i j : Nat} {lo e : Int} (h : cS X Y i0 j0 lo i j e) (hj : j < Y.2.2.1) (ha : Y.1 j ≤ e) : cS X Y i0 j0 lo i (j + 1) (max e (Y.2.1 j)) := by
  obtain ⟨⟨⟨⟨a1, a2⟩, ⟨b1, b2⟩, c1⟩, d1, d2⟩, h2, h3, h4⟩ := h
  obtain ⟨x1, x2, x3⟩ := hY.1 j hj
  refine ⟨⟨⟨⟨a1, a2⟩, ⟨by omega, by omega⟩, by omega⟩, fun t t1 t2 => ?_, fun t t1 t2 => ?_⟩, fun i' j' e' g1 g2 => ?_, fun z z1 z2 => ?_, by omega⟩
  · have := d1 t t1 t2; omega
  · by_cases c : t = j
    · subst c; omega
    · have := d2 t t1 (by omega); omega
  · obtain ⟨y1, y2, y3⟩ := h2 i' j' e' g1 g2
    have hlt : j < j' := by
      by_cases c : j = j'
      · subst c; have := g2.2 hj; omega
      · omega
    have := g1.2.2 j b1 hlt
    omega
  · by_cases c : z < e
    · rcases h3 z z1 c with ⟨t, t1, t2, t3⟩ | ⟨t, t1, t2, t3⟩
      · exact Or.inl ⟨t, t1, t2, t3⟩
      · exact Or.inr ⟨t, t1, by omega, t3⟩
    · exact Or.inr ⟨j, b1, by omega, by omega, by omega⟩
theorem cS_u {X Y : IV} {i0 j0 i j i' j' : Nat} {lo e e' : Int} (h : cS X Y i0 j0 lo i j e) (hx : cX X Y i j e) (h' : cS X Y i0 j0 lo i' j' e') (hx' : cX X Y i' j' e') : i = i' ∧ j = j' ∧ e = e' := by
  have a := h.2.1 i' j' e' h'.1 hx'
  have b := h'.2.1 i j e h.1 hx
  omega
/-- the group that begins at hunk i of the one and hunk j of the other -/
noncomputable def cG (X Y : IV) (i0 j0 : Nat) (lo : Int) : Nat × Nat × Int := Classical.epsilon (fun s => cS X Y i0 j0 lo s.1 s.2.1 s.2.2 ∧ cX X Y s.1 s.2.1 s.2.2)
theorem cG_eq {X Y : IV} {i0 j0 i j : Nat} {lo e : Int} (h : cS X Y i0 j0 lo i j e) (hx : cX X Y i j e) : cG X Y i0 j0 lo = (i, j, e) := by
  have hs := Classical.epsilon_spec (p := fun s : Nat × Nat × Int => cS X Y i0 j0 lo s.1 s.2.1 s.2.2 ∧ cX X Y s.1 s.2.1 s.2.2) ⟨(i, j, e), h, hx⟩
  obtain ⟨a, b, c⟩ := cS_u hs.1 hs.2 h hx
  show Classical.epsilon _ = _
  exact Prod.ext a (Prod.ext b c)
/-- where a group begins -/
noncomputable def gL (X Y : IV) (i j : Nat) : Int := br (i < X.2.2.1 ∧ (j < Y.2.2.1 → X.1 i ≤ Y.1 j)) (X.1 i) (Y.1 j)
theorem gL_f {X Y : IV} {i j : Nat} (h : i < X.2.2.1 ∨ j < Y.2.2.1) : (i < X.2.2.1 → gL X Y i j ≤ X.1 i) ∧ (j < Y.2.2.1 → gL X Y i j ≤ Y.1 j) ∧ ((i < X.2.2.1 ∧ gL X Y i j = X.1 i) ∨ (j < Y.2.2.1 ∧ gL X Y i j = Y.1 j)) := by
  unfold gL
  by_cases c : i < X.2.2.1 ∧ (j < Y.2.2.1 → X.1 i ≤ Y.1 j)
  · rw [bc_t c]
    exact ⟨fun _ => by omega, c.2, Or.inl ⟨c.1, rfl⟩⟩
  · rw [bc_f c]
    by_cases cj : j < Y.2.2.1
    · refine ⟨fun hi => ?_, fun _ => by omega, Or.inr ⟨cj, rfl⟩⟩
      by_cases c2 : X.1 i ≤ Y.1 j
      · exact absurd ⟨hi, fun _ => c2⟩ c
      · omega
    · exact absurd ⟨by omega, fun z => absurd z cj⟩ c
theorem cS_p {X Y : IV} {i0 j0 i j : Nat} {e : Int} (hl : i0 < X.2.2.1 ∨ j0 < Y.2.2.1) (h : cS X Y i0 j0 (gL X Y i0 j0) i j e) (hx : cX X Y i j e) : i0 + j0 < i + j := by
  obtain ⟨g1, g2, g3⟩ := gL_f hl
  have a1 := h.1.1.1.1
  have a2 := h.1.1.2.1.1
  have a3 := h.1.1.2.2
  by_cases c : i0 + j0 < i + j
  · exact c
  · have e1 : i = i0 := by omega
    have e2 : j = j0 := by omega
    subst e1 e2
    rcases g3 with ⟨z1, z2⟩ | ⟨z1, z2⟩
    · have := hx.1 z1; omega
    · have := hx.2 z1; omega
/-- the lines of a stretch; and with hunks' lines in place of theirs -/
def seg (f : Int → Int) (x y : Int) : List Int := (List.range (y - x).toNat).map (fun k : Nat => f (x + (k : Int)))
theorem seg_nil {f : Int → Int} {x y : Int} (h : y ≤ x) : seg f x y = [] := by
  unfold seg; rw [show (y - x).toNat = 0 by omega]; rfl
theorem seg_s {f : Int → Int} {x y : Int} (h : x < y) : seg f x y = f x :: seg f (x + 1) y := by
  unfold seg
  rw [show (y - x).toNat = (y - (x + 1)).toNat + 1 by omega, List.range_succ_eq_map, List.map_cons, List.map_map]
  congr 1
  · simp
  · refine List.map_congr_left (fun k _ => ?_)
    show f (x + ((k + 1 : Nat) : Int)) = f (x + 1 + (k : Int))
    congr 1
    omega
theorem seg_len {f : Int → Int} {x y : Int} : (seg f x y).length = (y - x).toNat := by simp [seg]
theorem seg_snoc {f : Int → Int} {x y : Int} (h : x ≤ y) : seg f x (y + 1) = seg f x y ++ [f y] := by
  unfold seg
  rw [show (y + 1 - x).toNat = (y - x).toNat + 1 by omega, List.range_succ, List.map_append, List.map_singleton, show x + (((y - x).toNat : Nat) : Int) = y by omega]
theorem seg_at {f : Int → Int} {x y : Int} {k : Nat} (h : k < (y - x).toNat) : (seg f x y).getD k 0 = f (x + (k : Int)) := by
  unfold seg
  rw [List.getD_eq_getElem?_getD, List.getElem?_map, List.getElem?_range h]; rfl
def mkL (X : IV) (f : Int → Int) (G : Nat → List Int) (e : Int) : Nat → Nat → Int → List Int
  | 0, _, nx => seg f nx e
  | r + 1, t, nx => seg f nx (X.1 t) ++ G t ++ mkL X f G e r (t + 1) (X.2.1 t)
theorem mkL_at {X : IV} {f : Int → Int} {G : Nat → List Int} {e nx : Int} {r t : Nat} (h : X.1 t ≤ nx) : mkL X f G e (r + 1) t nx = G t ++ mkL X f G e r (t + 1) (X.2.1 t) := by
  show seg f nx (X.1 t) ++ G t ++ _ = _
  rw [seg_nil h]; rfl
theorem mkL_s {X : IV} {f : Int → Int} {G : Nat → List Int} {e nx : Int} {r t : Nat} (h : (r = 0 ∧ nx < e) ∨ (0 < r ∧ nx < X.1 t)) : mkL X f G e r t nx = f nx :: mkL X f G e r t (nx + 1) := by
  match r with
  | 0 => exact seg_s (by omega)
  | r + 1 =>
    show seg f nx (X.1 t) ++ G t ++ _ = f nx :: (seg f (nx + 1) (X.1 t) ++ G t ++ _)
    rw [seg_s (by omega)]; rfl
theorem mkL_len {X : IV} (hX : okI X) {f : Int → Int} {G : Nat → List Int} {g : Nat → Int} (hg : ∀ t, t < X.2.2.1 → g (t + 1) = g t + ((G t).length : Int)) {e : Int} : ∀ (r t : Nat) (nx : Int), t + r ≤ X.2.2.1 → (0 < r → nx ≤ X.1 t) → (∀ s, t ≤ s → s < t + r → X.2.1 s ≤ e) → nx ≤ e → ((mkL X f G e r t nx).length : Int) = (g (t + r) - g t) + (e - nx) - (X.2.2.2 (t + r) - X.2.2.2 t) := by
  intro r
  induction r with
  | zero => intro t nx _ _ _ h4; show ((seg f nx e).length : Int) = _; rw [seg_len, Nat.add_zero]; omega
  | succ r ih =>
    intro t nx h1 h2 h3 h4
    have a1 := ih (t + 1) (X.2.1 t) (by omega) (fun hr => by have := hX.2 t (by omega); omega) (fun s s1 s2 => h3 s (by omega) (by omega)) (h3 t (by omega) (by omega))
    have a2 := hg t (by omega)
    obtain ⟨x1, x2, x3⟩ := hX.1 t (by omega)
    have a3 := h2 (by omega)
    rw [show t + 1 + r = t + (r + 1) by omega] at a1
    show ((seg f nx (X.1 t) ++ G t ++ mkL X f G e r (t + 1) (X.2.1 t)).length : Int) = _
    rw [List.length_append, List.length_append, seg_len]
    omega
theorem mkL_wL {X : IV} (hX : okI X) {f : Int → Int} {G : Nat → List Int} {e : Int} (hG : ∀ t, t < X.2.2.1 → wL (G t)) : ∀ (r t : Nat) (nx : Int), t + r ≤ X.2.2.1 → (0 < r → nx ≤ X.1 t) → (∀ s, t ≤ s → s < t + r → X.2.1 s ≤ e) → (∀ z : Int, nx ≤ z → z < e → (∀ s, t ≤ s → s < t + r → ¬ (X.1 s ≤ z ∧ z < X.2.1 s)) → 0 ≤ f z ∧ f z ≤ 99) → wL (mkL X f G e r t nx) := by
  have sg : ∀ x y : Int, (∀ z : Int, x ≤ z → z < y → 0 ≤ f z ∧ f z ≤ 99) → wL (seg f x y) := by
    intro x y h k hk1
    rw [seg_len] at hk1
    rw [seg_at hk1]
    exact h _ (by omega) (by omega)
  intro r
  induction r with
  | zero => intro t nx _ _ _ h4; exact sg _ _ (fun z z1 z2 => h4 z z1 z2 (fun s s1 s2 => by omega))
  | succ r ih =>
    intro t nx h1 h2 h3 h4
    obtain ⟨x1, x2, x3⟩ := hX.1 t (by omega)
    have h5 := h3 t (by omega) (by omega)
    have h2 := h2 (by omega)
    refine wL_app (wL_app (sg _ _ (fun z z1 z2 => h4 z z1 (by omega) (fun s s1 s2 => ?_))) (hG t (by omega))) (ih (t + 1) (X.2.1 t) (by omega) (fun hr => by have := hX.2 t (by omega); omega) (fun s s1 s2 => h3 s (by omega) (by omega)) (fun z z1 z2 z3 => h4 z (by omega) z2 (fun s s1 s2 => ?_)))
    · by_cases c : s = t
      · subst c; omega
      · have := okI_m hX s t (by omega) (by omega); omega
    · by_cases c : s = t
      · subst c; omega
      · exact z3 s (by omega) (by omega)
theorem gAt_in {Q : List HK} (h : sW Q) {t : Nat} {z : Int} (ht : t < Q.length) (h1 : (hk Q t).1 ≤ z) (h2 : z < (hk Q t).1 + ((hk Q t).2.1.length : Int)) : gAt Q z = (hk Q t).2.1.getD (z - (hk Q t).1).toNat 0 := by
  unfold gAt
  refine sr_yes _ _ t (by omega) (by omega) ⟨h1, h2⟩ (fun l l1 l2 => ?_)
  have := (sW_mono h t l (by omega) ht).2 l2
  omega
theorem gAt_no {Q : List HK} {z : Int} (h : ∀ t, t < Q.length → ¬ ((hk Q t).1 ≤ z ∧ z < (hk Q t).1 + ((hk Q t).2.1.length : Int))) : gAt Q z = -1 := by
  unfold gAt
  exact sr_no _ _ (fun j _ h2 => h j (by omega))
theorem cAt_in {P : List HK} (h : sW P) {t : Nat} {z : Int} (ht : t < P.length) (h1 : hB P t ≤ z) (h2 : z < hB P t + ((hk P t).2.2.length : Int)) : cAt P z = (hk P t).2.2.getD (z - hB P t).toNat 0 := by
  unfold cAt
  refine sr_yes _ _ t (by omega) (by omega) ⟨h1, h2⟩ (fun l l1 l2 => ?_)
  have := okI_m (okP h) t l l2 ht
  have : hB P l + ((hk P l).2.2.length : Int) + 1 ≤ hB P t := this
  omega
theorem cAt_no {P : List HK} {z : Int} (h : ∀ t, t < P.length → ¬ (hB P t ≤ z ∧ z < hB P t + ((hk P t).2.2.length : Int))) : cAt P z = -1 := by
  unfold cAt
  exact sr_no _ _ (fun j _ h2 => h j (by omega))
/-- a group's hunk -/
noncomputable def gH (P Q : List HK) (i j i1 j1 : Nat) (lo e : Int) : HK := (lo - shf P i, mkL (ivP P) (gAt Q) (fun t => (hk P t).2.1) e (i1 - i) i lo, mkL (ivQ Q) (cAt P) (fun t => (hk Q t).2.2) e (j1 - j) j lo)
/-- what holds between groups -/
def tI (b : Int) (P Q : List HK) (i j : Nat) (acc : List HK) : Prop := ∃ ep : Int, (i ≤ P.length ∧ j ≤ Q.length ∧ -1 ≤ ep - shf P i) ∧ ((i < P.length → ep < hB P i) ∧ (j < Q.length → ep < (hk Q j).1)) ∧ ((∀ t, t < i → hB P t + ((hk P t).2.2.length : Int) ≤ ep) ∧ ∀ t, t < j → (hk Q t).1 + ((hk Q t).2.1.length : Int) ≤ ep) ∧ (acc.length ≤ i + j ∧ (fG acc).length ≤ hgs P i + hgs Q j ∧ (fC acc).length ≤ hcs P i + hcs Q j) ∧ (sep 0 acc ∧ ∀ q ∈ acc, q.1 + (q.2.1.length : Int) ≤ ep - shf P i) ∧ ∀ q ∈ acc, wL q.2.1 ∧ wL q.2.2 ∧ q.1 ≤ b
theorem sep_snoc : ∀ {W : List HK} {p : Int} {q : HK}, sep p W → p ≤ q.1 → (∀ r ∈ W, r.1 + (r.2.1.length : Int) + 1 ≤ q.1) → sep p (W ++ [q]) := by
  intro W
  induction W with
  | nil => intro p q _ h2 _; exact ⟨h2, trivial⟩
  | cons r W ih =>
    intro p q h1 h2 h3
    exact ⟨h1.1, ih h1.2 (h3 r (by simp)) (fun s hs => h3 s (by simp [hs]))⟩
theorem tI_step {b : Int} {P Q : List HK} (hP : OP b P) (hQ : OP b Q) {i j i1 j1 : Nat} {e : Int} {acc : List HK} (hT : tI (b + 28) P Q i j acc) (hl : i < P.length ∨ j < Q.length) (hS : cS (ivP P) (ivQ Q) i j (gL (ivP P) (ivQ Q) i j) i1 j1 e) (hX : cX (ivP P) (ivQ Q) i1 j1 e) : i + j < i1 + j1 ∧ (i ≤ i1 ∧ i1 ≤ P.length ∧ j ≤ j1 ∧ j1 ≤ Q.length) ∧ tI (b + 28) P Q i1 j1 acc ∧ tI (b + 28) P Q i1 j1 (acc ++ [gH P Q i j i1 j1 (gL (ivP P) (ivQ Q) i j) e]) ∧ (fG acc).length + (gH P Q i j i1 j1 (gL (ivP P) (ivQ Q) i j) e).2.1.length ≤ hgs P i1 + hgs Q j1 ∧ (fC acc).length + (gH P Q i j i1 j1 (gL (ivP P) (ivQ Q) i j) e).2.2.length ≤ hcs P i1 + hcs Q j1 := by
  obtain ⟨ep, ⟨t1, t2, t3⟩, ⟨t4, t5⟩, ⟨t6, t7⟩, ⟨t8, t9, t10⟩, ⟨t11, t12⟩, t13⟩ := hT
  have hpr := cS_p (X := ivP P) (Y := ivQ Q) hl hS hX
  obtain ⟨g1, g2, g3⟩ := gL_f (X := ivP P) (Y := ivQ Q) hl
  obtain ⟨⟨⟨⟨a1, a2⟩, ⟨b1, b2⟩, c1⟩, d1, d2⟩, -, hv, hcnt⟩ := hS
  generalize hlo : gL (ivP P) (ivQ Q) i j = lo at *
  have a2 : i1 ≤ P.length := a2
  have b2 : j1 ≤ Q.length := b2
  have g1 : i < P.length → lo ≤ hB P i := g1
  have g2 : j < Q.length → lo ≤ (hk Q j).1 := g2
  have g3 : (i < P.length ∧ lo = hB P i) ∨ (j < Q.length ∧ lo = (hk Q j).1) := g3
  have hcnt : e - lo ≤ ((hcs P i1 : Int) - (hcs P i : Int)) + ((hgs Q j1 : Int) - (hgs Q j : Int)) := hcnt
  have hep : ep < lo := by
    rcases g3 with ⟨z1, z2⟩ | ⟨z1, z2⟩
    · have := t4 z1; omega
    · have := t5 z1; omega
  have e1 : i + (i1 - i) = i1 := by omega
  have e2 : j + (j1 - j) = j1 := by omega
  have lG := mkL_len (okP hP.1) (f := gAt Q) (G := fun t => (hk P t).2.1) (g := fun t => (hgs P t : Int)) (fun t ht => by have := @hgs_s P t ht; omega) (e := e) (i1 - i) i lo (by show i + (i1 - i) ≤ P.length; omega) (fun hr => g1 (by omega)) (fun s s1 s2 => d1 s s1 (by omega)) c1
  have lC := mkL_len (okQ hQ.1) (f := cAt P) (G := fun t => (hk Q t).2.2) (g := fun t => (hcs Q t : Int)) (fun t ht => by have := @hcs_s Q t ht; omega) (e := e) (j1 - j) j lo (by show j + (j1 - j) ≤ Q.length; omega) (fun hr => g2 (by omega)) (fun s s1 s2 => d2 s s1 (by omega)) c1
  rw [e1] at lG
  rw [e2] at lC
  have lG : (((gH P Q i j i1 j1 lo e).2.1).length : Int) = ((hgs P i1 : Int) - (hgs P i : Int)) + (e - lo) - ((hcs P i1 : Int) - (hcs P i : Int)) := lG
  have lC : (((gH P Q i j i1 j1 lo e).2.2).length : Int) = ((hcs Q j1 : Int) - (hcs Q j : Int)) + (e - lo) - ((hgs Q j1 : Int) - (hgs Q j : Int)) := lC
  have wG : wL (gH P Q i j i1 j1 lo e).2.1 := by
    refine mkL_wL (okP hP.1) (fun t ht => (hP.2.2.2.2 t ht).1) (i1 - i) i lo (by show i + (i1 - i) ≤ P.length; omega) (fun hr => g1 (by omega)) (fun s s1 s2 => d1 s s1 (by omega)) (fun z z1 z2 z3 => ?_)
    rcases hv z z1 z2 with ⟨t, y1, y2, y3⟩ | ⟨t, y1, y2, y3⟩
    · exact absurd y3 (z3 t y1 (by omega))
    · have y4 : (hk Q t).1 ≤ z ∧ z < (hk Q t).1 + ((hk Q t).2.1.length : Int) := y3
      rw [gAt_in hQ.1 (by omega) y4.1 y4.2]
      exact (hQ.2.2.2.2 t (by omega)).1 _ (by omega)
  have wC : wL (gH P Q i j i1 j1 lo e).2.2 := by
    refine mkL_wL (okQ hQ.1) (fun t ht => (hQ.2.2.2.2 t ht).2.1) (j1 - j) j lo (by show j + (j1 - j) ≤ Q.length; omega) (fun hr => g2 (by omega)) (fun s s1 s2 => d2 s s1 (by omega)) (fun z z1 z2 z3 => ?_)
    rcases hv z z1 z2 with ⟨t, y1, y2, y3⟩ | ⟨t, y1, y2, y3⟩
    · have y4 : hB P t ≤ z ∧ z < hB P t + ((hk P t).2.2.length : Int) := y3
      rw [cAt_in hP.1 (by omega) y4.1 y4.2]
      exact (hP.2.2.2.2 t (by omega)).2.1 _ (by omega)
    · exact absurd y3 (z3 t y1 (by omega))
  have m1 := @hgs_mono P i i1 a1
  have m2 := @hcs_mono P i i1 a1
  have m3 := @hgs_mono Q j j1 b1
  have m4 := @hcs_mono Q j j1 b1
  have pos : (gH P Q i j i1 j1 lo e).1 = lo - shf P i := rfl
  have hsh : shf P i = (hcs P i : Int) - (hgs P i : Int) := rfl
  have hsh1 : shf P i1 = (hcs P i1 : Int) - (hgs P i1 : Int) := rfl
  have pub : lo - shf P i ≤ b + 28 := by
    rcases g3 with ⟨z1, z2⟩ | ⟨z1, z2⟩
    · have h1 := (hP.2.2.2.2 i z1).2.2
      have h2 : hB P i = (hk P i).1 + shf P i := rfl
      omega
    · have h1 := (hQ.2.2.2.2 j z1).2.2
      have h2 := @hgs_le P i
      have h3 := hP.2.2.1
      omega
  have hA : ∀ t, t < i1 → hB P t + ((hk P t).2.2.length : Int) ≤ e := fun t ht => by
    by_cases c : t < i
    · have := t6 t c; omega
    · exact d1 t (by omega) ht
  have hBq : ∀ t, t < j1 → (hk Q t).1 + ((hk Q t).2.1.length : Int) ≤ e := fun t ht => by
    by_cases c : t < j
    · have := t7 t c; omega
    · exact d2 t (by omega) ht
  refine ⟨hpr, ⟨a1, a2, b1, b2⟩, ?_, ?_, by omega, by omega⟩
  · exact ⟨e, ⟨a2, b2, by omega⟩, ⟨hX.1, hX.2⟩, ⟨hA, hBq⟩, ⟨by omega, by omega, by omega⟩, ⟨t11, fun q hq => by have := t12 q hq; omega⟩, t13⟩
  · refine ⟨e, ⟨a2, b2, by omega⟩, ⟨hX.1, hX.2⟩, ⟨hA, hBq⟩, ⟨by rw [List.length_append]; show acc.length + 1 ≤ _; omega, by rw [fG_app, fG_one, List.length_append]; omega, by rw [fC_app, fC_one, List.length_append]; omega⟩, ⟨sep_snoc t11 (by omega) (fun r hr => by have := t12 r hr; omega), fun q hq => ?_⟩, fun q hq => ?_⟩
    · rcases List.mem_append.mp hq with h | h
      · have := t12 q h; omega
      · rw [List.mem_singleton.mp h]; omega
    · rcases List.mem_append.mp hq with h | h
      · exact t13 q h
      · rw [List.mem_singleton.mp h]; exact ⟨wG, wC, by omega⟩
/-- both patches put together: n groups at most from hunks i and j on -/
noncomputable def tg (P Q : List HK) : Nat → Nat → Nat → List HK → List HK
  | 0, _, _, acc => acc
  | n + 1, i, j, acc => br (i < P.length ∨ j < Q.length) (tg P Q n (cG (ivP P) (ivQ Q) i j (gL (ivP P) (ivQ Q) i j)).1 (cG (ivP P) (ivQ Q) i j (gL (ivP P) (ivQ Q) i j)).2.1 (br ((gH P Q i j (cG (ivP P) (ivQ Q) i j (gL (ivP P) (ivQ Q) i j)).1 (cG (ivP P) (ivQ Q) i j (gL (ivP P) (ivQ Q) i j)).2.1 (gL (ivP P) (ivQ Q) i j) (cG (ivP P) (ivQ Q) i j (gL (ivP P) (ivQ Q) i j)).2.2).2.1 = (gH P Q i j (cG (ivP P) (ivQ Q) i j (gL (ivP P) (ivQ Q) i j)).1 (cG (ivP P) (ivQ Q) i j (gL (ivP P) (ivQ Q) i j)).2.1 (gL (ivP P) (ivQ Q) i j) (cG (ivP P) (ivQ Q) i j (gL (ivP P) (ivQ Q) i j)).2.2).2.2) acc (acc ++ [gH P Q i j (cG (ivP P) (ivQ Q) i j (gL (ivP P) (ivQ Q) i j)).1 (cG (ivP P) (ivQ Q) i j (gL (ivP P) (ivQ Q) i j)).2.1 (gL (ivP P) (ivQ Q) i j) (cG (ivP P) (ivQ Q) i j (gL (ivP P) (ivQ Q) i j)).2.2]))) acc
theorem tg_s {P Q : List HK} {n i j i1 j1 : Nat} {e : Int} {acc : List HK} (hl : i < P.length ∨ j < Q.length) (hS : cS (ivP P) (ivQ Q) i j (gL (ivP P) (ivQ Q) i j) i1 j1 e) (hX : cX (ivP P) (ivQ Q) i1 j1 e) : tg P Q (n + 1) i j acc = tg P Q n i1 j1 (br ((gH P Q i j i1 j1 (gL (ivP P) (ivQ Q) i j) e).2.1 = (gH P Q i j i1 j1 (gL (ivP P) (ivQ Q) i j) e).2.2) acc (acc ++ [gH P Q i j i1 j1 (gL (ivP P) (ivQ Q) i j) e])) := by
  rw [tg, bc_t hl, cG_eq hS hX]
theorem tg_e {P Q : List HK} {n i j : Nat} {acc : List HK} (h : ¬ (i < P.length ∨ j < Q.length)) : tg P Q n i j acc = acc := by
  cases n with
  | zero => rfl
  | succ n => rw [tg, bc_f h]
theorem tI_0 {b : Int} {P Q : List HK} (hP : sW P) (hQ : sW Q) : tI b P Q 0 0 [] :=
  ⟨-1, ⟨by omega, by omega, by show (-1 : Int) ≤ -1 - 0; omega⟩, ⟨fun h => by have := hB_0 hP h; omega, fun h => by have := hQ.1 0 h; omega⟩, ⟨fun t ht => by omega, fun t ht => by omega⟩, ⟨by simp, by simp [fG], by simp [fC]⟩, ⟨trivial, fun q hq => by simp at hq⟩, fun q hq => by simp at hq⟩
