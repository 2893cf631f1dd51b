/-- two hunks touch; hunk i of P touches one of Q that is not just alike -/
def tq (p q : HK) : Prop := p.1 ≤ q.1 + (q.2.1.length : Int) ∧ q.1 ≤ p.1 + (p.2.1.length : Int)
def clk (P Q : List HK) (i : Nat) : Prop := ∃ j : Nat, j < Q.length ∧ tq (hk P i) (hk Q j) ∧ hk P i ≠ hk Q j
noncomputable def clN (P Q : List HK) : Nat → Nat
  | 0 => 0
  | n + 1 => clN P Q n + br (clk P Q n) 1 0
theorem clN_le {P Q : List HK} : ∀ n : Nat, clN P Q n ≤ n := by
  intro n
  induction n with
  | zero => exact Nat.le_refl _
  | succ n ih =>
    show clN P Q n + br (clk P Q n) 1 0 ≤ n + 1
    by_cases c : clk P Q n
    · rw [bc_t c]; omega
    · rw [bc_f c]; omega
theorem clN_0 {P Q : List HK} : ∀ n : Nat, clN P Q n = 0 → ∀ i, i < n → ¬ clk P Q i := by
  intro n
  induction n with
  | zero => intro _ i hi; omega
  | succ n ih =>
    intro h i hi hc
    have h : clN P Q n + br (clk P Q n) 1 0 = 0 := h
    by_cases z : i = n
    · subst z; rw [bc_t hc] at h; omega
    · exact ih (by omega) i (by omega) hc
theorem clN_c {P Q : List HK} {n : Nat} : (clN P Q (n + 1) : Int) = (clN P Q n : Int) + br (clk P Q n) 1 0 := by
  show ((clN P Q n + br (clk P Q n) 1 0 : Nat) : Int) = _
  by_cases c : clk P Q n
  · rw [bc_t c, bc_t c]; omega
  · rw [bc_f c, bc_f c]; omega
theorem clk_K {P Q : List HK} {i : Nat} (hQ : sW Q) : clk P Q i ↔ (tch Q (hk P i).1 ((hk P i).1 + (hk P i).2.1.length) ∧ ¬ ∃ j : Nat, j < Q.length ∧ hk Q j = hk P i) := by
  constructor
  · rintro ⟨j, hj, ⟨h1, h2⟩, h3⟩
    refine ⟨⟨j, hj, h2, h1⟩, ?_⟩
    rintro ⟨k, hk1, h4⟩
    by_cases c : k = j
    · subst c; exact h3 h4.symm
    · rw [← h4] at h1 h2
      by_cases c2 : k < j
      · have := (sW_mono hQ j k (by omega) hj).2 c2; omega
      · have := (sW_mono hQ k j (by omega) hk1).2 (by omega); omega
  · rintro ⟨⟨j, hj, h1, h2⟩, h3⟩
    exact ⟨j, hj, ⟨h2, h1⟩, fun e => h3 ⟨j, hj, e.symm⟩⟩
theorem hF_eq {xs : List Int} {p q : HK} (hp : hF xs p) (hq : hF xs q) (h1 : p.1 = q.1) (h2 : p.2.1.length = q.2.1.length) (h3 : p.2.2 = q.2.2) : p = q := by
  obtain ⟨p1, p2, p3⟩ := p
  obtain ⟨q1, q2, q3⟩ := q
  dsimp only at h1 h2 h3
  subst h1 h3
  have : p2 = q2 := gd_ext h2 (fun k hk => by
    have a := hp.2.2.1 k hk
    have b := hq.2.2.1 k (by dsimp only; omega)
    dsimp only at a b
    rw [← a, ← b])
  subst this; rfl
/-- the hunks of both, in their order -/
def un : List HK → List HK → List HK
  | [], Q => Q
  | p :: P, [] => p :: P
  | p :: P, q :: Q => if p.1 = q.1 then p :: un P Q else if p.1 < q.1 then p :: un P (q :: Q) else q :: un (p :: P) Q
theorem un_mem {P Q : List HK} : ∀ (n : Nat) (P Q : List HK), P.length + Q.length ≤ n → ∀ r ∈ un P Q, r ∈ P ∨ r ∈ Q := by
  intro n
  induction n with
  | zero =>
    intro P Q hn r hr
    have : P = [] := List.length_eq_zero_iff.mp (by omega)
    subst this
    exact Or.inr (by simpa [un] using hr)
  | succ n ih =>
    intro P Q hn r hr
    match P, Q with
    | [], Q => exact Or.inr (by simpa [un] using hr)
    | p :: P, [] => exact Or.inl (by simpa [un] using hr)
    | p :: P, q :: Q =>
      simp only [List.length_cons] at hn
      rw [un] at hr
      by_cases c : p.1 = q.1
      · rw [if_pos c] at hr
        rcases List.mem_cons.mp hr with h | h
        · exact Or.inl (by simp [h])
        · rcases ih P Q (by omega) r h with h | h
          · exact Or.inl (List.mem_cons_of_mem _ h)
          · exact Or.inr (List.mem_cons_of_mem _ h)
      · rw [if_neg c] at hr
        by_cases c2 : p.1 < q.1
        · rw [if_pos c2] at hr
          rcases List.mem_cons.mp hr with h | h
          · exact Or.inl (by simp [h])
          · rcases ih P (q :: Q) (by simp only [List.length_cons]; omega) r h with h | h
            · exact Or.inl (List.mem_cons_of_mem _ h)
            · exact Or.inr h
        · rw [if_neg c2] at hr
          rcases List.mem_cons.mp hr with h | h
          · exact Or.inr (by simp [h])
          · rcases ih (p :: P) Q (by simp only [List.length_cons]; omega) r h with h | h
            · exact Or.inl h
            · exact Or.inr (List.mem_cons_of_mem _ h)
theorem fG_cons (q : HK) (W : List HK) : fG (q :: W) = q.2.1 ++ fG W := by simp [fG]
theorem fC_cons (q : HK) (W : List HK) : fC (q :: W) = q.2.2 ++ fC W := by simp [fC]
theorem un_len : ∀ (n : Nat) (P Q : List HK), P.length + Q.length ≤ n → (un P Q).length ≤ P.length + Q.length ∧ (fG (un P Q)).length ≤ (fG P).length + (fG Q).length ∧ (fC (un P Q)).length ≤ (fC P).length + (fC Q).length := by
  intro n
  induction n with
  | zero =>
    intro P Q hn
    have : P = [] := List.length_eq_zero_iff.mp (by omega)
    subst this
    simp [un]
  | succ n ih =>
    intro P Q hn
    match P, Q with
    | [], Q => simp [un]
    | p :: P, [] => simp [un]
    | p :: P, q :: Q =>
      simp only [List.length_cons] at hn
      rw [un]
      by_cases c : p.1 = q.1
      · obtain ⟨a1, a2, a3⟩ := ih P Q (by omega)
        rw [if_pos c]
        simp only [fG_cons, fC_cons, List.length_cons, List.length_append]
        omega
      · rw [if_neg c]
        by_cases c2 : p.1 < q.1
        · obtain ⟨a1, a2, a3⟩ := ih P (q :: Q) (by simp only [List.length_cons]; omega)
          rw [if_pos c2]
          simp only [fG_cons, fC_cons, List.length_cons, List.length_append] at a1 a2 a3 ⊢
          omega
        · obtain ⟨a1, a2, a3⟩ := ih (p :: P) Q (by simp only [List.length_cons]; omega)
          rw [if_neg c2]
          simp only [fG_cons, fC_cons, List.length_cons, List.length_append] at a1 a2 a3 ⊢
          omega
/-- none clash -/
def nC (P Q : List HK) : Prop := ∀ p ∈ P, ∀ q ∈ Q, tq p q → p = q
theorem un_sep : ∀ (n : Nat) (P Q : List HK) (z : Int), P.length + Q.length ≤ n → sep z P → sep z Q → nC P Q → sep z (un P Q) := by
  intro n
  induction n with
  | zero =>
    intro P Q z hn _ hQ _
    have : P = [] := List.length_eq_zero_iff.mp (by omega)
    subst this
    simpa [un] using hQ
  | succ n ih =>
    intro P Q z hn hP hQ hC
    match P, Q with
    | [], Q => simpa [un] using hQ
    | p :: P, [] => simpa [un] using hP
    | p :: P, q :: Q =>
      simp only [List.length_cons] at hn
      rw [un]
      have hpq := hC p (by simp) q (by simp)
      by_cases c : p.1 = q.1
      · rw [if_pos c]
        have e := hpq ⟨by omega, by omega⟩
        subst e
        exact ⟨hP.1, ih P Q _ (by omega) hP.2 hQ.2 (fun a ha b hb => hC a (by simp [ha]) b (by simp [hb]))⟩
      · rw [if_neg c]
        by_cases c2 : p.1 < q.1
        · rw [if_pos c2]
          refine ⟨hP.1, ih P (q :: Q) _ (by simp only [List.length_cons]; omega) hP.2 ⟨?_, hQ.2⟩ (fun a ha b hb => hC a (by simp [ha]) b hb)⟩
          by_cases c3 : q.1 ≤ p.1 + (p.2.1.length : Int)
          · have e := hpq ⟨by omega, c3⟩
            subst e; omega
          · omega
        · rw [if_neg c2]
          refine ⟨hQ.1, ih (p :: P) Q _ (by simp only [List.length_cons]; omega) ⟨?_, hP.2⟩ hQ.2 (fun a ha b hb => hC a ha b (by simp [hb]))⟩
          by_cases c3 : p.1 ≤ q.1 + (q.2.1.length : Int)
          · have e := hpq ⟨c3, by omega⟩
            subst e; omega
          · omega
theorem clN_nC {P Q : List HK} (h : clN P Q P.length = 0) : nC P Q := by
  intro p hp q hq ht
  obtain ⟨i, hi, rfl⟩ := mem_hk hp
  obtain ⟨j, hj, rfl⟩ := mem_hk hq
  have := clN_0 _ h i hi
  by_cases c : hk P i = hk Q j
  · exact c
  · exact absurd ⟨j, hj, ht, c⟩ this
theorem un_nil (P : List HK) : un P [] = P := by cases P <;> simp [un]
theorem un_nil' (Q : List HK) : un [] Q = Q := by simp [un]
/-- one step of the union, by the places in both -/
theorem un_eq {P Q : List HK} {i j : Nat} (hi : i < P.length) (hj : j < Q.length) (h : (hk P i).1 = (hk Q j).1) : un (P.drop i) (Q.drop j) = hk P i :: un (P.drop (i + 1)) (Q.drop (j + 1)) := by
  rw [hkd_s hi, hkd_s hj, un, if_pos h]
theorem un_lt {P Q : List HK} {i j : Nat} (hi : i < P.length) (h : j < Q.length → (hk P i).1 < (hk Q j).1) : un (P.drop i) (Q.drop j) = hk P i :: un (P.drop (i + 1)) (Q.drop j) := by
  by_cases hj : j < Q.length
  · have := h hj
    rw [hkd_s hi, hkd_s hj, un, if_neg (by omega), if_pos this]
  · have e : Q.drop j = [] := List.drop_eq_nil_of_le (by omega)
    rw [e, un_nil, un_nil, hkd_s hi]
theorem un_gt {P Q : List HK} {i j : Nat} (hj : j < Q.length) (h : i < P.length → (hk Q j).1 < (hk P i).1) : un (P.drop i) (Q.drop j) = hk Q j :: un (P.drop i) (Q.drop (j + 1)) := by
  by_cases hi : i < P.length
  · have := h hi
    rw [hkd_s hi, hkd_s hj, un, if_neg (by omega), if_neg (by omega)]
  · have e : P.drop i = [] := List.drop_eq_nil_of_le (by omega)
    rw [e, un_nil', un_nil', hkd_s hj]
theorem layW_at {xs : List Int} {n : Int} {q : HK} {U : List HK} (h0 : 0 ≤ n) (e : q.1 = n) : layW xs n (q :: U) = q.2.2 ++ layW xs (n + q.2.1.length) U := by
  subst e
  show (xs.take q.1.toNat).drop q.1.toNat ++ q.2.2 ++ _ = _
  rw [List.drop_eq_nil_of_le (by rw [List.length_take]; omega), List.nil_append]
theorem layW_copy {xs : List Int} {n : Nat} {U : List HK} (h : n < xs.length) (hU : ∀ q ∈ U, (n : Int) < q.1) : layW xs (n : Int) U = xs.getD n 0 :: layW xs ((n : Int) + 1) U := by
  have hd : ∀ (l : List Int), n < l.length → l.drop n = l.getD n 0 :: l.drop (n + 1) := fun l hl => by
    rw [List.getD_eq_getElem?_getD, List.getElem?_eq_getElem hl]; exact List.drop_eq_getElem_cons hl
  have e1 : ((n : Int) + 1).toNat = n + 1 := by omega
  cases U with
  | nil =>
    show xs.drop (n : Int).toNat = xs.getD n 0 :: xs.drop ((n : Int) + 1).toNat
    rw [Int.toNat_natCast, e1, hd xs h]
  | cons q U =>
    have hq := hU q (by simp)
    show (xs.take q.1.toNat).drop (n : Int).toNat ++ q.2.2 ++ _ = _ :: ((xs.take q.1.toNat).drop ((n : Int) + 1).toNat ++ q.2.2 ++ _)
    rw [Int.toNat_natCast, e1, hd _ (by rw [List.length_take]; omega), getD_take (by omega)]
    rfl
theorem sW_sep0 {W : List HK} (h : sW W) : sep 0 W := by
  have := sW_drop h (k := 0) (p := 0) (fun hk1 => h.1 0 hk1)
  rwa [List.drop_zero] at this
theorem mem_drop_at {W : List HK} (h : sW W) {i : Nat} {z : Int} (hz : i < W.length → z < (hk W i).1) : ∀ q ∈ W.drop i, z < q.1 := by
  intro q hq
  obtain ⟨j, hj, rfl⟩ := mem_hk hq
  rw [List.length_drop] at hj
  rw [hk_drop]
  have h1 := hz (by omega)
  by_cases c : j = 0
  · subst c; exact h1
  · have := (sW_mono h (i + j) i (by omega) (by omega)).2 (by omega); omega
