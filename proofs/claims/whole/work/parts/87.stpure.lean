/-- what a store is made of: how many versions, the room of a piece, what is asked, the bound -/
abbrev SE : Type := Nat × (Int → Int → Int) × (Nat → Int) × Int
abbrev BS : Type := Option (Int × Int × List Int)
def sv (s : List Int) (v : Int) : Int := s.getD v.toNat (-1)
theorem sv_l {s : List Int} {x : Int} {v : Int} (h0 : 0 ≤ v) (h : v < s.length) : sv (s ++ [x]) v = sv s v := by
  unfold sv; rw [List.getD_eq_getElem?_getD, List.getD_eq_getElem?_getD, List.getElem?_append_left (by omega)]
theorem sv_al {s t : List Int} {v : Int} (h0 : 0 ≤ v) (h : v < s.length) : sv (s ++ t) v = sv s v := by
  unfold sv; rw [List.getD_eq_getElem?_getD, List.getD_eq_getElem?_getD, List.getElem?_append_left (by omega)]
theorem sv_r {s : List Int} {x : Int} : sv (s ++ [x]) (s.length : Int) = x := by
  unfold sv; rw [Int.toNat_natCast, List.getD_eq_getElem?_getD, List.getElem?_append_right (Nat.le_refl _), Nat.sub_self]; rfl
/-- the chain of sources from v on, while it stays below i -/
def itc (s : List Int) (i : Int) : Nat → Int → Int
  | 0, v => v
  | k + 1, v => if 0 ≤ v ∧ v < i then itc s i k (sv s v) else v
theorem itc_o {s : List Int} {i v : Int} (h : ¬ (0 ≤ v ∧ v < i)) : ∀ k : Nat, itc s i k v = v := by
  intro k; cases k with
  | zero => rfl
  | succ k => show (if 0 ≤ v ∧ v < i then _ else v) = v; rw [if_neg h]
theorem itc_i {s : List Int} {i v : Int} {k : Nat} (h : 0 ≤ v ∧ v < i) : itc s i (k + 1) v = itc s i k (sv s v) := by
  show (if 0 ≤ v ∧ v < i then _ else v) = _; rw [if_pos h]
theorem itc_add {s : List Int} {i : Int} {b : Nat} : ∀ (a : Nat) (v : Int), itc s i (a + b) v = itc s i b (itc s i a v) := by
  intro a
  induction a with
  | zero => intro v; rw [Nat.zero_add]; rfl
  | succ a ih =>
    intro v
    by_cases c : 0 ≤ v ∧ v < i
    · rw [show a + 1 + b = (a + b) + 1 by omega, itc_i c, itc_i c, ih]
    · rw [itc_o c, itc_o c, itc_o c]
theorem itc_stay {s : List Int} {i v : Int} {a b : Nat} (h : ¬ (0 ≤ itc s i a v ∧ itc s i a v < i)) (hab : a ≤ b) : itc s i b v = itc s i a v := by
  obtain ⟨c, rfl⟩ : ∃ c, b = a + c := ⟨b - a, by omega⟩
  rw [itc_add, itc_o h]
theorem pigeon : ∀ (n : Nat) (f : Nat → Nat), (∀ k, k ≤ n → f k < n) → ∃ a b, a < b ∧ b ≤ n ∧ f a = f b := by
  intro n
  induction n with
  | zero => intro f h; have := h 0 (by omega); omega
  | succ n ih =>
    intro f h
    by_cases c : ∃ a, a ≤ n ∧ f a = f (n + 1)
    · obtain ⟨a, a1, a2⟩ := c
      exact ⟨a, n + 1, by omega, by omega, a2⟩
    · obtain ⟨a, b, h1, h2, h3⟩ := ih (fun k => if f k = n then f (n + 1) else f k) (fun k hk => by
        by_cases z : f k = n
        · rw [if_pos z]
          have h1 := h (n + 1) (by omega)
          have h2 : f k ≠ f (n + 1) := fun e => c ⟨k, hk, e⟩
          omega
        · rw [if_neg z]
          have := h k (by omega); omega)
      have ca : f a ≠ f (n + 1) := fun e => c ⟨a, by omega, e⟩
      have cb : f b ≠ f (n + 1) := fun e => c ⟨b, by omega, e⟩
      refine ⟨a, b, h1, by omega, ?_⟩
      by_cases za : f a = n
      · by_cases zb : f b = n
        · omega
        · rw [if_pos za, if_neg zb] at h3; omega
      · by_cases zb : f b = n
        · rw [if_neg za, if_pos zb] at h3; omega
        · rw [if_neg za, if_neg zb] at h3; exact h3
theorem itc_ph {s : List Int} {n : Nat} {v : Int} (h : 0 ≤ itc s (n : Int) n v ∧ itc s (n : Int) n v < n) : ∀ K : Nat, 0 ≤ itc s (n : Int) K v ∧ itc s (n : Int) K v < n := by
  have small : ∀ k, k ≤ n → 0 ≤ itc s (n : Int) k v ∧ itc s (n : Int) k v < n := by
    intro k hk
    by_cases c : 0 ≤ itc s (n : Int) k v ∧ itc s (n : Int) k v < n
    · exact c
    · rw [itc_stay c hk] at h; exact absurd h c
  obtain ⟨a, b, h1, h2, h3⟩ := pigeon n (fun k => (itc s (n : Int) k v).toNat) (fun k hk => by have := small k hk; omega)
  have e : itc s (n : Int) a v = itc s (n : Int) b v := by
    have := small a (by omega)
    have := small b (by omega)
    omega
  have key : ∀ N K : Nat, K < N → 0 ≤ itc s (n : Int) K v ∧ itc s (n : Int) K v < n := by
    intro N
    induction N with
    | zero => intro K hK; omega
    | succ N ih =>
      intro K hK
      by_cases c : K ≤ n
      · exact small K c
      · have e2 : itc s (n : Int) K v = itc s (n : Int) (a + (K - b)) v := by
          have : K = b + (K - b) := by omega
          rw [itc_add, e, ← itc_add, ← this]
        rw [e2]; exact ih _ (by omega)
  exact fun K => key (K + 1) K (Nat.lt_succ_self _)
/-- if a chain ends at all it ends within n steps -/
theorem itc_end {s : List Int} {n K : Nat} {v : Int} (h : ¬ (0 ≤ itc s (n : Int) K v ∧ itc s (n : Int) K v < n)) : ¬ (0 ≤ itc s (n : Int) n v ∧ itc s (n : Int) n v < n) := fun z => h (itc_ph z K)
theorem itc_up {s : List Int} {i j : Int} (hij : i ≤ j) : ∀ (k : Nat) (v : Int), ∃ k', itc s j k' v = itc s i k v := by
  intro k
  induction k with
  | zero => intro v; exact ⟨0, rfl⟩
  | succ k ih =>
    intro v
    by_cases c : 0 ≤ v ∧ v < i
    · obtain ⟨k', e⟩ := ih (sv s v)
      exact ⟨k' + 1, by rw [itc_i c, itc_i ⟨c.1, by omega⟩, e]⟩
    · exact ⟨0, by rw [itc_o c]; rfl⟩
theorem itc_cg {s t : List Int} {i : Int} (h : ∀ v, 0 ≤ v → v < i → sv s v = sv t v) : ∀ (k : Nat) (v : Int), itc s i k v = itc t i k v := by
  intro k
  induction k with
  | zero => intro v; rfl
  | succ k ih =>
    intro v
    by_cases c : 0 ≤ v ∧ v < i
    · rw [itc_i c, itc_i c, h v c.1 c.2, ih]
    · rw [itc_o c, itc_o c]
/-- no chain stays below i -/
def PA (s : List Int) (i : Nat) : Prop := ∀ j : Int, 0 ≤ j → j < i → ¬ (0 ≤ itc s (i : Int) i j ∧ itc s (i : Int) i j < i)
theorem PA_0 : PA [] 0 := fun j h1 h2 => by omega
theorem PA_s {s : List Int} {n : Nat} {x : Int} (h : PA s s.length) (hn : s.length < n) (hx : x ≠ s.length) (hc : itc s (s.length : Int) n x ≠ s.length) : PA (s ++ [x]) (s.length + 1) := by
  have cg : ∀ (k : Nat) (v : Int), itc (s ++ [x]) (s.length : Int) k v = itc s (s.length : Int) k v := itc_cg (fun v h0 h1 => sv_l h0 h1)
  have hend : ∀ v : Int, v ≠ s.length → (∀ z, 0 ≤ v → v < s.length → z = itc s (s.length : Int) s.length v → z ≠ s.length) → ∃ K, ¬ (0 ≤ itc (s ++ [x]) ((s.length + 1 : Nat) : Int) K v ∧ itc (s ++ [x]) ((s.length + 1 : Nat) : Int) K v < ((s.length + 1 : Nat) : Int)) := by
    intro v hv hz
    by_cases c : 0 ≤ v ∧ v < s.length
    · have h1 := h v c.1 c.2
      have h2 := hz _ c.1 c.2 rfl
      obtain ⟨K, e⟩ := itc_up (s := s ++ [x]) (i := (s.length : Int)) (j := ((s.length + 1 : Nat) : Int)) (by omega) s.length v
      rw [cg] at e
      refine ⟨K, ?_⟩
      rw [e]; omega
    · exact ⟨0, by show ¬ (0 ≤ v ∧ v < ((s.length + 1 : Nat) : Int)); omega⟩
  have hx2 : ∃ K, ¬ (0 ≤ itc (s ++ [x]) ((s.length + 1 : Nat) : Int) K x ∧ itc (s ++ [x]) ((s.length + 1 : Nat) : Int) K x < ((s.length + 1 : Nat) : Int)) := by
    refine hend x hx (fun z z1 z2 z3 => ?_)
    have h1 := h x z1 z2
    have h2 := itc_stay h1 (show s.length ≤ n by omega)
    rw [z3, ← h2]; exact hc
  have hi : ∃ K, ¬ (0 ≤ itc (s ++ [x]) ((s.length + 1 : Nat) : Int) K (s.length : Int) ∧ itc (s ++ [x]) ((s.length + 1 : Nat) : Int) K (s.length : Int) < ((s.length + 1 : Nat) : Int)) := by
    obtain ⟨K, hK⟩ := hx2
    exact ⟨K + 1, by rw [itc_i ⟨by omega, by omega⟩, sv_r]; exact hK⟩
  intro j h0 h1
  by_cases c : j < s.length
  · by_cases c2 : itc s (s.length : Int) s.length j = s.length
    · obtain ⟨K, e⟩ := itc_up (s := s ++ [x]) (i := (s.length : Int)) (j := ((s.length + 1 : Nat) : Int)) (by omega) s.length j
      rw [cg, c2] at e
      obtain ⟨K2, hK2⟩ := hi
      exact itc_end (K := K + K2) (by rw [itc_add, e]; exact hK2)
    · obtain ⟨K, hK⟩ := hend j (by omega) (fun z _ _ z3 => by rw [z3]; exact c2)
      exact itc_end hK
  · have : j = s.length := by omega
    subst this
    obtain ⟨K, hK⟩ := hi
    exact itc_end hK
/-- a chain that comes back -/
theorem itc_back {s : List Int} {n k : Nat} {i : Int} (hi : 0 ≤ i ∧ i < n) (h : itc s (n : Int) (k + 1) i = i) : 0 ≤ itc s (n : Int) n i ∧ itc s (n : Int) n i < n := by
  have key : ∀ t : Nat, itc s (n : Int) (t * (k + 1)) i = i := by
    intro t
    induction t with
    | zero => rw [Nat.zero_mul]; rfl
    | succ t ih => rw [Nat.succ_mul, itc_add, ih, h]
  by_cases c : 0 ≤ itc s (n : Int) n i ∧ itc s (n : Int) n i < n
  · exact c
  · have h1 := itc_stay c (show n ≤ n * (k + 1) from Nat.le_mul_of_pos_right n (by omega))
    rw [key] at h1
    rw [← h1] at c
    exact absurd hi c
def sR (n : Nat) (s : List Int) : Prop := s.length = n ∧ ∀ j : Int, 0 ≤ j → j < n → -1 ≤ sv s j ∧ sv s j < n ∧ sv s j ≠ j
theorem itc_r {n : Nat} {s : List Int} (h : sR n s) : ∀ (k : Nat) (v : Int), -1 ≤ v → v < n → -1 ≤ itc s (n : Int) k v ∧ itc s (n : Int) k v < n := by
  intro k
  induction k with
  | zero => intro v h1 h2; exact ⟨h1, h2⟩
  | succ k ih =>
    intro v h1 h2
    by_cases c : 0 ≤ v ∧ v < (n : Int)
    · rw [itc_i c]
      obtain ⟨a, b, -⟩ := h.2 v c.1 c.2
      exact ih _ a b
    · rw [itc_o c]; exact ⟨h1, h2⟩
/-- what a version is remade for -/
def rmd (E : SE) (s : List Int) : Nat → Int → Int
  | 0, _ => 0
  | k + 1, v => if 0 ≤ v ∧ v < (E.1 : Int) then E.2.1 v (sv s v) + rmd E s k (sv s v) else 0
theorem rmd_i {E : SE} {s : List Int} {k : Nat} {v : Int} (h : 0 ≤ v ∧ v < (E.1 : Int)) : rmd E s (k + 1) v = E.2.1 v (sv s v) + rmd E s k (sv s v) := by
  show (if 0 ≤ v ∧ v < (E.1 : Int) then _ else _) = _; rw [if_pos h]
theorem rmd_o {E : SE} {s : List Int} {k : Nat} {v : Int} (h : ¬ (0 ≤ v ∧ v < (E.1 : Int))) : rmd E s k v = 0 := by
  cases k with
  | zero => rfl
  | succ k => show (if 0 ≤ v ∧ v < (E.1 : Int) then _ else _) = _; rw [if_neg h]
theorem rmd_st {E : SE} {s : List Int} : ∀ (k : Nat) (v : Int), ¬ (0 ≤ itc s (E.1 : Int) k v ∧ itc s (E.1 : Int) k v < E.1) → rmd E s (k + 1) v = rmd E s k v := by
  intro k
  induction k with
  | zero =>
    intro v h
    have h : ¬ (0 ≤ v ∧ v < (E.1 : Int)) := h
    rw [rmd_o h]; rfl
  | succ k ih =>
    intro v h
    by_cases c : 0 ≤ v ∧ v < (E.1 : Int)
    · rw [rmd_i c, rmd_i c, ih (sv s v) (by rw [itc_i c] at h; exact h)]
    · rw [rmd_o c, rmd_o c]
def fs (E : SE) (s : List Int) : Prop := (∀ j : Int, 0 ≤ j → j < E.1 → itc s (E.1 : Int) E.1 j = -1) ∧ ∀ j : Int, 0 ≤ j → j < E.1 → rmd E s E.1 j ≤ E.2.2.2
theorem rmd_1 {E : SE} {s : List Int} (hn : 1 ≤ E.1) (ha : ∀ j : Int, 0 ≤ j → j < E.1 → itc s (E.1 : Int) E.1 j = -1) {j : Int} (h0 : 0 ≤ j) (h1 : j < E.1) : rmd E s E.1 j = E.2.1 j (sv s j) + rmd E s E.1 (sv s j) := by
  obtain ⟨m, hm⟩ : ∃ m, E.1 = m + 1 := ⟨E.1 - 1, by omega⟩
  have h2 := ha j h0 h1
  have c : 0 ≤ j ∧ j < (E.1 : Int) := ⟨h0, h1⟩
  have e1 : rmd E s E.1 j = E.2.1 j (sv s j) + rmd E s m (sv s j) := by rw [show rmd E s E.1 j = rmd E s (m + 1) j by rw [← hm], rmd_i c]
  have e2 : itc s (E.1 : Int) m (sv s j) = -1 := by
    rw [show itc s (E.1 : Int) E.1 j = itc s (E.1 : Int) (m + 1) j by rw [← hm], itc_i c] at h2; exact h2
  have e3 := rmd_st (E := E) (s := s) m (sv s j) (by rw [e2]; omega)
  rw [← hm] at e3
  rw [e1, e3]
def rmS (E : SE) (s : List Int) : Nat → Int
  | 0 => 0
  | k + 1 => rmS E s k + E.2.1 (k : Int) (sv s (k : Int))
def smS (E : SE) (s : List Int) : Nat → Int
  | 0 => 0
  | k + 1 => smS E s k + E.2.2.1 k * rmd E s E.1 (k : Int)
def lsB (r m : Int) : BS → Prop
  | none => True
  | some (r', m', _) => r < r' ∨ (r = r' ∧ m < m')
noncomputable def updB (E : SE) (b : BS) (s : List Int) : BS := br (fs E s ∧ lsB (rmS E s E.1) (smS E s E.1) b) (some (rmS E s E.1, smS E s E.1, s)) b
def fg (i f : Nat) : Int := if f = 0 then -1 else if f - 1 < i then ((f - 1 : Nat) : Int) else (f : Int)
noncomputable def ev (E : SE) : Nat → List Int → BS → BS
  | 0, pre, b => updB E b pre
  | r + 1, pre, b => (List.range E.1).foldl (fun b f => ev E r (pre ++ [fg pre.length f]) b) b
theorem fg_r {n i f : Nat} (hi : i < n) (hf : f < n) : -1 ≤ fg i f ∧ fg i f < n ∧ fg i f ≠ i := by
  unfold fg
  by_cases c : f = 0
  · rw [if_pos c]; omega
  · rw [if_neg c]
    by_cases c2 : f - 1 < i
    · rw [if_pos c2]; omega
    · rw [if_neg c2]; omega
theorem range_fold {β : Type} {g : β → Nat → β} {b : β} {c : Nat} : (List.range (c + 1)).foldl g b = g ((List.range c).foldl g b) c := by
  rw [List.range_succ, List.foldl_append]; rfl
theorem fold_id {β : Type} {g : β → Nat → β} {b : β} : ∀ c : Nat, (∀ f, f < c → g b f = b) → (List.range c).foldl g b = b := by
  intro c
  induction c with
  | zero => intro _; rfl
  | succ c ih => intro h; rw [range_fold, ih (fun f hf => h f (by omega)), h c (by omega)]
theorem fold_P {β : Type} {g : β → Nat → β} {P : β → Prop} : ∀ (c : Nat) (b : β), P b → (∀ b f, f < c → P b → P (g b f)) → P ((List.range c).foldl g b) := by
  intro c
  induction c with
  | zero => intro b h _; exact h
  | succ c ih => intro b h hs; rw [range_fold]; exact hs _ c (by omega) (ih b h (fun b f hf => hs b f (by omega)))
theorem fold_cg {β : Type} {g g' : β → Nat → β} : ∀ (c : Nat) (b : β), (∀ b f, f < c → g b f = g' b f) → (List.range c).foldl g b = (List.range c).foldl g' b := by
  intro c
  induction c with
  | zero => intro b _; rfl
  | succ c ih => intro b h; rw [range_fold, range_fold, ih b (fun b f hf => h b f (by omega)), h _ c (by omega)]
/-- a beginning that leads to nothing better is left out -/
def preR (n : Nat) (s : List Int) : Prop := s.length ≤ n ∧ ∀ j : Int, 0 ≤ j → j < s.length → -1 ≤ sv s j ∧ sv s j < n ∧ sv s j ≠ j
theorem preR_s {n : Nat} {s : List Int} {x : Int} (h : preR n s) (hl : s.length < n) (hx : -1 ≤ x ∧ x < n ∧ x ≠ s.length) : preR n (s ++ [x]) := by
  refine ⟨by simp; omega, fun j h0 h1 => ?_⟩
  have h1 : j < (s.length : Int) + 1 := by simpa using h1
  by_cases c : j < s.length
  · rw [sv_l h0 c]; exact h.2 j h0 c
  · have : j = s.length := by omega
    subst this
    rw [sv_r]; exact hx
theorem ev_skip {E : SE} {b : BS} : ∀ (r : Nat) (pre : List Int), preR E.1 pre → pre.length + r = E.1 → (∀ s, sR E.1 s → (∀ j : Int, 0 ≤ j → j < pre.length → sv s j = sv pre j) → ¬ (fs E s ∧ lsB (rmS E s E.1) (smS E s E.1) b)) → ev E r pre b = b := by
  intro r
  induction r with
  | zero =>
    intro pre h1 h2 h3
    exact bc_f (h3 pre ⟨by omega, fun j a c => h1.2 j a (by omega)⟩ (fun j _ _ => rfl))
  | succ r ih =>
    intro pre h1 h2 h3
    refine fold_id _ (fun f hf => ?_)
    have hr := fg_r (n := E.1) (i := pre.length) (by omega) hf
    refine ih _ (preR_s h1 (by omega) hr) (by simp; omega) (fun s hs he => h3 s hs (fun j a c => ?_))
    have := he j a (by simp; omega)
    rw [this, sv_l a c]
def okB (E : SE) (b : BS) : Prop := ∀ r m s, b = some (r, m, s) → fs E s ∧ sR E.1 s ∧ r = rmS E s E.1 ∧ m = smS E s E.1
theorem ev_ok {E : SE} : ∀ (r : Nat) (pre : List Int) (b : BS), preR E.1 pre → pre.length + r = E.1 → okB E b → okB E (ev E r pre b) := by
  intro r
  induction r with
  | zero =>
    intro pre b h1 h2 hb
    show okB E (updB E b pre)
    unfold updB
    by_cases c : fs E pre ∧ lsB (rmS E pre E.1) (smS E pre E.1) b
    · rw [bc_t c]
      intro r m s e
      cases e
      exact ⟨c.1, ⟨by omega, fun j a z => h1.2 j a (by omega)⟩, rfl, rfl⟩
    · rw [bc_f c]; exact hb
  | succ r ih =>
    intro pre b h1 h2 hb
    refine fold_P (P := okB E) _ b hb (fun b f hf hb => ?_)
    exact ih _ b (preR_s h1 (by omega) (fg_r (n := E.1) (i := pre.length) (by omega) hf)) (by simp; omega) hb
/-- in the order of numbers -/
def dc (n : Nat) : Nat → Nat → Nat → List Int
  | 0, _, _ => []
  | r + 1, i, c => fg i (c / n ^ r) :: dc n r (i + 1) (c % n ^ r)
theorem fold_mul {β : Type} {g : β → Nat → β} {m : Nat} : ∀ (a : Nat) (b : β), (List.range (a * m)).foldl g b = (List.range a).foldl (fun b f => (List.range m).foldl (fun b c => g b (f * m + c)) b) b := by
  intro a
  induction a with
  | zero => intro b; rw [Nat.zero_mul]; rfl
  | succ a ih =>
    intro b
    rw [range_fold, Nat.succ_mul, List.range_add, List.foldl_append, ih, List.foldl_map]
theorem ev_code {E : SE} (hn : 1 ≤ E.1) : ∀ (r : Nat) (pre : List Int) (b : BS), ev E r pre b = (List.range (E.1 ^ r)).foldl (fun b c => updB E b (pre ++ dc E.1 r pre.length c)) b := by
  intro r
  induction r with
  | zero => intro pre b; rw [Nat.pow_zero]; show updB E b pre = updB E b (pre ++ []); rw [List.append_nil]
  | succ r ih =>
    intro pre b
    have hp : 0 < E.1 ^ r := Nat.pow_pos (by omega)
    rw [Nat.pow_succ, Nat.mul_comm, fold_mul]
    refine fold_cg _ b (fun b f hf => ?_)
    rw [ih]
    refine fold_cg _ b (fun b c hc => ?_)
    have e1 : (f * E.1 ^ r + c) / E.1 ^ r = f := by
      rw [Nat.mul_comm, Nat.mul_add_div hp, Nat.div_eq_of_lt hc, Nat.add_zero]
    have e2 : (f * E.1 ^ r + c) % E.1 ^ r = c := by
      rw [Nat.mul_comm, Nat.mul_add_mod, Nat.mod_eq_of_lt hc]
    show updB E b (pre ++ [fg pre.length f] ++ dc E.1 r (pre ++ [fg pre.length f]).length c) = updB E b (pre ++ (fg pre.length ((f * E.1 ^ r + c) / E.1 ^ r) :: dc E.1 r (pre.length + 1) ((f * E.1 ^ r + c) % E.1 ^ r)))
    rw [e1, e2, List.append_assoc, List.length_append]
    rfl
theorem dc_len {n : Nat} : ∀ (r i c : Nat), (dc n r i c).length = r := by
  intro r
  induction r with
  | zero => intro i c; rfl
  | succ r ih => intro i c; show (dc n r (i + 1) _).length + 1 = r + 1; rw [ih]
theorem dc_at {n : Nat} (hn : 1 ≤ n) : ∀ (r i c t : Nat), t < r → c < n ^ r → (dc n r i c).getD t (-1) = fg (i + t) ((c / n ^ (r - 1 - t)) % n) := by
  intro r
  induction r with
  | zero => intro i c t ht; omega
  | succ r ih =>
    intro i c t ht hc
    have hp : 0 < n ^ r := Nat.pow_pos (by omega)
    cases t with
    | zero =>
      show fg i (c / n ^ r) = fg (i + 0) ((c / n ^ (r + 1 - 1 - 0)) % n)
      have : c / n ^ r < n := by
        rw [Nat.div_lt_iff_lt_mul hp]
        rw [Nat.pow_succ, Nat.mul_comm] at hc; exact hc
      rw [show r + 1 - 1 - 0 = r by omega, Nat.mod_eq_of_lt this, Nat.add_zero]
    | succ t =>
      show (dc n r (i + 1) (c % n ^ r)).getD t (-1) = _
      rw [ih (i + 1) (c % n ^ r) t (by omega) (Nat.mod_lt _ hp), show i + 1 + t = i + (t + 1) by omega, show r + 1 - 1 - (t + 1) = r - 1 - t by omega]
      congr 1
      have e : n ^ r = n ^ (r - 1 - t) * n ^ (t + 1) := by rw [← Nat.pow_add]; congr 1; omega
      rw [e, Nat.mod_mul_right_div_self, Nat.pow_succ, Nat.mul_comm (n ^ t) n, Nat.mod_mul_right_mod]
