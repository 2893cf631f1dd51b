/-! numbers -/
theorem nm_t {x : Int} (h : am_r x) : (Int32.ofInt x).toInt = x := by
  rw [Int32.toInt_ofInt]; obtain ⟨h1, h2⟩ := h; exact Jvm.Kit.bmod32 (by omega) (by omega)
theorem nm_lt {x y : Int} (hx : am_r x) (hy : am_r y) : Int32.ofInt x < Int32.ofInt y ↔ x < y := by rw [Int32.lt_iff_toInt_lt, nm_t hx, nm_t hy]
theorem nm_le {x y : Int} (hx : am_r x) (hy : am_r y) : Int32.ofInt x ≤ Int32.ofInt y ↔ x ≤ y := by rw [Int32.le_iff_toInt_le, nm_t hx, nm_t hy]
theorem nm_eq {x y : Int} (hx : am_r x) (hy : am_r y) : Int32.ofInt x = Int32.ofInt y ↔ x = y := ⟨fun h => by have := congrArg Int32.toInt h; rwa [nm_t hx, nm_t hy] at this, fun h => by rw [h]⟩
theorem nm_0 : am_r 0 := by constructor <;> decide
theorem nm_nat {i : Int} (h0 : 0 ≤ i) (h1 : i ≤ 2147483647) : (Int32.ofInt i).toNatClampNeg = i.toNat := by
  rw [← Int32.toNat_toInt, nm_t ⟨by omega, h1⟩]
theorem nm_in {i : Int} {n : Nat} (h0 : 0 ≤ i) (h : i < n) (h1 : i ≤ 2147483647) : ¬ (Int32.ofInt i < 0 ∨ n ≤ (Int32.ofInt i).toNatClampNeg) := by
  rw [nm_nat h0 h1]
  intro q
  rcases q with q | q
  · have := (nm_lt (x := i) (y := 0) ⟨by omega, h1⟩ nm_0).mp q; omega
  · omega
theorem mo_lt_inv {α ρ : Type} {x y : Int} {A B : MO α} {k : α → MO ρ} {h : AH} {q : ρ × AH} (e : mo_b (mo_lt x y A B) k h = some q) : am_r x ∧ am_r y ∧ ((x < y ∧ mo_b A k h = some q) ∨ (¬ x < y ∧ mo_b B k h = some q)) := by
  unfold mo_b mo_lt at e
  by_cases hr : (am_rb x && am_rb y) = true
  · rw [if_pos hr] at e
    rw [Bool.and_eq_true] at hr
    refine ⟨am_rb_iff.mp hr.1, am_rb_iff.mp hr.2, ?_⟩
    by_cases hc : x < y
    · rw [if_pos hc] at e; exact Or.inl ⟨hc, e⟩
    · rw [if_neg hc] at e; exact Or.inr ⟨hc, e⟩
  · rw [if_neg hr] at e; cases e
theorem mo_le_inv {α ρ : Type} {x y : Int} {A B : MO α} {k : α → MO ρ} {h : AH} {q : ρ × AH} (e : mo_b (mo_le x y A B) k h = some q) : am_r x ∧ am_r y ∧ ((x ≤ y ∧ mo_b A k h = some q) ∨ (¬ x ≤ y ∧ mo_b B k h = some q)) := by
  unfold mo_b mo_le at e
  by_cases hr : (am_rb x && am_rb y) = true
  · rw [if_pos hr] at e
    rw [Bool.and_eq_true] at hr
    refine ⟨am_rb_iff.mp hr.1, am_rb_iff.mp hr.2, ?_⟩
    by_cases hc : x ≤ y
    · rw [if_pos hc] at e; exact Or.inl ⟨hc, e⟩
    · rw [if_neg hc] at e; exact Or.inr ⟨hc, e⟩
  · rw [if_neg hr] at e; cases e
theorem mo_eq_inv {α ρ : Type} {x y : Int} {A B : MO α} {k : α → MO ρ} {h : AH} {q : ρ × AH} (e : mo_b (mo_eq x y A B) k h = some q) : am_r x ∧ am_r y ∧ ((x = y ∧ mo_b A k h = some q) ∨ (¬ x = y ∧ mo_b B k h = some q)) := by
  unfold mo_b mo_eq at e
  by_cases hr : (am_rb x && am_rb y) = true
  · rw [if_pos hr] at e
    rw [Bool.and_eq_true] at hr
    refine ⟨am_rb_iff.mp hr.1, am_rb_iff.mp hr.2, ?_⟩
    by_cases hc : x = y
    · rw [if_pos hc] at e; exact Or.inl ⟨hc, e⟩
    · rw [if_neg hc] at e; exact Or.inr ⟨hc, e⟩
  · rw [if_neg hr] at e; cases e
theorem vL_at {L : List (Nat × VV)} {j : Nat} {q : Nat × VV} (h : L[j]? = some q) : (vL L)[j]? = some (vm q) := by rw [vL, List.getElem?_map, h]; rfl
def vf1 (i : Nat) (L : List (Nat × VV)) : List (Nat × VV) := L.filter (fun q => !(q.1 == i) && !(q.1 + 1 == i && vc q.2 == 2))
def vf2 (i : Nat) (L : List (Nat × VV)) : List (Nat × VV) := L.filter (fun q => !(q.1 == i) && (!(q.1 == i + 1) && !(q.1 + 1 == i && vc q.2 == 2)))
theorem vf1_eq (i : Nat) (L : List (Nat × VV)) : (vL L).filter (fun q => !(q.1 == i) && !(q.1 + 1 == i && q.2.category == 2)) = vL (vf1 i L) := by
  unfold vL vf1
  rw [List.filter_map]
  congr 1
  apply List.filter_congr
  intro q _
  simp only [Function.comp, vm, vc_eq]
theorem vf2_eq (i : Nat) (L : List (Nat × VV)) : (vL L).filter (fun q => !(q.1 == i) && (!(q.1 == i + 1) && !(q.1 + 1 == i && q.2.category == 2))) = vL (vf2 i L) := by
  unfold vL vf2
  rw [List.filter_map]
  congr 1
  apply List.filter_congr
  intro q _
  simp only [Function.comp, vm, vc_eq]
section RULES
variable {ρ : Type} {S : ST} {K : CX} {enc : ρ → Option Value} {cs sl pc : Nat} {L : List (Nat × VV)} {st : List VV} {f : MO ρ}
theorem gg_widen {cs' sl' : Nat} (h1 : cs ≤ cs') (h2 : sl ≤ sl') (g : GG S K enc cs' sl' pc L st f) : GG S K enc cs sl pc L st f := by
  obtain ⟨p, l, e, R, s, m, args, below, meth, c, G, h0, hf, rf⟩ := K
  intro ok h H locs ls r hI hl hf' he
  exact W.widen h1 h2 (g ok h H locs ls r hI hl hf' he)
theorem gg_sub {L' : List (Nat × VV)} (ks : List Nat) (hk : ks.filterMap (fun k => L[k]?) = L') (g : GG S K enc cs sl pc L' st f) : GG S K enc cs sl pc L st f := by
  intro ok h H locs ls r hI hl hf' he
  refine g ok h H locs ls r hI (lv_sub hl ks ?_) hf' he
  subst hk
  unfold lv_pick vL
  rw [List.map_filterMap]
  congr 1
  funext k
  rw [List.getElem?_map]
theorem gg_pure {α : Type} {a : α} {k : α → MO ρ} (g : GG S K enc cs sl pc L st (k a)) : GG S K enc cs sl pc L st (mo_b (mo_p a) k) := g
theorem gg_seq {α β : Type} {m : MO α} {k1 : α → MO β} {k : β → MO ρ} (g : GG S K enc cs sl pc L st (mo_b m (fun a => mo_b (k1 a) k))) : GG S K enc cs sl pc L st (mo_b (mo_b m k1) k) := by
  rw [mo_assoc]; exact g
theorem gg_loop {A B : Type} {F : A → MO (A ⊕ B)} {k : B → MO ρ} (Lf : A → List (Nat × VV)) (n : Nat)
    (step : ∀ (rec : A → MO ρ), (∀ a, GG S K enc cs sl pc (Lf a) st (rec a)) → ∀ a, GG S K enc cs sl pc (Lf a) st (mo_b (F a) (Sum.elim rec k))) (a : A) : GG S K enc cs sl pc (Lf a) st (mo_b (mo_lp n F a) k) := by
  induction n generalizing a with
  | zero =>
    intro ok h H locs ls r hI hl hf' he
    exact absurd hf' (by simp [mo_b, mo_lp, mo_0])
  | succ n ih =>
    have e : mo_b (mo_lp (n + 1) F a) k = mo_b (F a) (Sum.elim (fun s' => mo_b (mo_lp n F s') k) k) := by
      show mo_b (mo_b (F a) (fun r => Sum.elim (fun s' => mo_lp n F s') (fun b => mo_p b) r)) k = _
      rw [mo_assoc]
      congr 1
      funext r
      cases r <;> rfl
    rw [e]
    exact step _ ih a
theorem gg_goto {off : Int} {tgt : Nat} (hd : decode S.1 pc = .ok (.goto off, 3)) (ht : (pc : Int) + off = (tgt : Int)) (g : GG S K enc cs sl tgt L st f) : GG S K enc cs sl pc L st f := by
  obtain ⟨p, l, e, R, s, m, args, below, meth, c, G, h0, hf, rf⟩ := K
  intro ok h H locs ls r hI hl hf' he
  exact lv_goto ok.1 ok.2.1 hd ht (g ok h H locs ls r hI hl hf' he)
theorem gg_iconst {n : Int} (pc' : Nat) (hp : pc + 1 = pc') (hd : decode S.1 pc = .ok (.iconst n, 1)) (g : GG S K enc cs sl pc' L (vi n :: st) f) : GG S K enc cs sl pc L st f := by
  subst hp
  obtain ⟨p, l, e, R, s, m, args, below, meth, c, G, h0, hf, rf⟩ := K
  intro ok h H locs ls r hI hl hf' he
  exact lv_iconst ok.1 ok.2.1 hd rfl (g ok h H locs ls r hI hl hf' he)
theorem gg_bipush {n : Int} (pc' : Nat) (hp : pc + 2 = pc') (hd : decode S.1 pc = .ok (.bipush n, 2)) (hv : (Int8.ofInt n).toInt32 = Int32.ofInt n) (g : GG S K enc cs sl pc' L (vi n :: st) f) : GG S K enc cs sl pc L st f := by
  subst hp
  obtain ⟨p, l, e, R, s, m, args, below, meth, c, G, h0, hf, rf⟩ := K
  intro ok h H locs ls r hI hl hf' he
  exact lv_bipush ok.1 ok.2.1 hd hv (g ok h H locs ls r hI hl hf' he)
theorem gg_sipush {n : Int} (pc' : Nat) (hp : pc + 3 = pc') (hd : decode S.1 pc = .ok (.sipush n, 3)) (hv : (Int16.ofInt n).toInt32 = Int32.ofInt n) (g : GG S K enc cs sl pc' L (vi n :: st) f) : GG S K enc cs sl pc L st f := by
  subst hp
  obtain ⟨p, l, e, R, s, m, args, below, meth, c, G, h0, hf, rf⟩ := K
  intro ok h H locs ls r hI hl hf' he
  exact lv_sipush ok.1 ok.2.1 hd hv (g ok h H locs ls r hI hl hf' he)
theorem gg_lconst0 (pc' : Nat) (hp : pc + 1 = pc') (hd : decode S.1 pc = .ok (.lconst 0, 1)) (g : GG S K enc cs sl pc' L (vl 0 :: st) f) : GG S K enc cs sl pc L st f := by
  subst hp
  obtain ⟨p, l, e, R, s, m, args, below, meth, c, G, h0, hf, rf⟩ := K
  intro ok h H locs ls r hI hl hf' he
  exact lv_lconst (v := Int64.ofInt 0) ok.1 ok.2.1 hd (by decide) (g ok h H locs ls r hI hl hf' he)
theorem gg_null (pc' : Nat) (hp : pc + 1 = pc') (hd : decode S.1 pc = .ok (.aconst_null, 1)) (g : GG S K enc cs sl pc' L (vr none :: st) f) : GG S K enc cs sl pc L st f := by
  subst hp
  obtain ⟨p, l, e, R, s, m, args, below, meth, c, G, h0, hf, rf⟩ := K
  intro ok h H locs ls r hI hl hf' he
  exact lv_null ok.1 ok.2.1 hd (g ok h H locs ls r hI hl hf' he)
theorem gg_ldc2 {idx : Nat} {n : Int} {v : Int64} (pc' : Nat) (hp : pc + 3 = pc') (hd : decode S.1 pc = .ok (.ldc2_w idx, 3)) (hc : Cond.constantLong S.2.2.1 idx v ∈ tb_G) (hv : v = Int64.ofInt n) (g : GG S K enc cs sl pc' L (vl n :: st) f) : GG S K enc cs sl pc L st f := by
  subst hp; subst hv
  obtain ⟨p, l, e, R, s, m, args, below, meth, c, G, h0, hf, rf⟩ := K
  intro ok h H locs ls r hI hl hf' he
  exact lv_ldc2 ok.1 ok.2.1 ok.2.2.2.1 (ok.2.2.2.2.1 _ hc) hd (g ok h H locs ls r hI hl hf' he)
theorem gg_iload_n {k : Fin 4} {i : Nat} {x : Int} (j pc' : Nat) (hp : pc + 1 = pc') (hd : decode S.1 pc = .ok (.iload_n k, 1)) (hk : (k : Nat) = i) (hm : L[j]? = some (i, vi x)) (g : GG S K enc cs sl pc' L (vi x :: st) f) : GG S K enc cs sl pc L st f := by
  subst hp
  obtain ⟨p, l, e, R, s, m, args, below, meth, c, G, h0, hf, rf⟩ := K
  intro ok h H locs ls r hI hl hf' he
  exact lv_iload_n ok.1 ok.2.1 hd hk (lv_at hl j (vL_at hm)) (g ok h H locs ls r hI hl hf' he)
theorem gg_iload {i : Nat} {x : Int} (j pc' : Nat) (hp : pc + 2 = pc') (hd : decode S.1 pc = .ok (.iload i, 2)) (hm : L[j]? = some (i, vi x)) (g : GG S K enc cs sl pc' L (vi x :: st) f) : GG S K enc cs sl pc L st f := by
  subst hp
  obtain ⟨p, l, e, R, s, m, args, below, meth, c, G, h0, hf, rf⟩ := K
  intro ok h H locs ls r hI hl hf' he
  exact lv_iload ok.1 ok.2.1 hd (lv_at hl j (vL_at hm)) (g ok h H locs ls r hI hl hf' he)
theorem gg_lload_n {k : Fin 4} {i : Nat} {x : Int} (j pc' : Nat) (hp : pc + 1 = pc') (hd : decode S.1 pc = .ok (.lload_n k, 1)) (hk : (k : Nat) = i) (hm : L[j]? = some (i, vl x)) (g : GG S K enc cs sl pc' L (vl x :: st) f) : GG S K enc cs sl pc L st f := by
  subst hp
  obtain ⟨p, l, e, R, s, m, args, below, meth, c, G, h0, hf, rf⟩ := K
  intro ok h H locs ls r hI hl hf' he
  exact lv_lload_n ok.1 ok.2.1 hd hk (lv_at hl j (vL_at hm)) (g ok h H locs ls r hI hl hf' he)
theorem gg_lload {i : Nat} {x : Int} (j pc' : Nat) (hp : pc + 2 = pc') (hd : decode S.1 pc = .ok (.lload i, 2)) (hm : L[j]? = some (i, vl x)) (g : GG S K enc cs sl pc' L (vl x :: st) f) : GG S K enc cs sl pc L st f := by
  subst hp
  obtain ⟨p, l, e, R, s, m, args, below, meth, c, G, h0, hf, rf⟩ := K
  intro ok h H locs ls r hI hl hf' he
  exact lv_lload ok.1 ok.2.1 hd (lv_at hl j (vL_at hm)) (g ok h H locs ls r hI hl hf' he)
theorem gg_aload_n {k : Fin 4} {i : Nat} {x : Option Nat} (j pc' : Nat) (hp : pc + 1 = pc') (hd : decode S.1 pc = .ok (.aload_n k, 1)) (hk : (k : Nat) = i) (hm : L[j]? = some (i, vr x)) (g : GG S K enc cs sl pc' L (vr x :: st) f) : GG S K enc cs sl pc L st f := by
  subst hp
  obtain ⟨p, l, e, R, s, m, args, below, meth, c, G, h0, hf, rf⟩ := K
  intro ok h H locs ls r hI hl hf' he
  cases x with
  | none => exact lv_aload_nN ok.1 ok.2.1 hd hk (lv_at hl j (vL_at hm)) (g ok h H locs ls r hI hl hf' he)
  | some a => exact lv_aload_n ok.1 ok.2.1 hd hk (lv_at hl j (vL_at hm)) (g ok h H locs ls r hI hl hf' he)
theorem gg_aload {i : Nat} {x : Option Nat} (j pc' : Nat) (hp : pc + 2 = pc') (hd : decode S.1 pc = .ok (.aload i, 2)) (hm : L[j]? = some (i, vr x)) (g : GG S K enc cs sl pc' L (vr x :: st) f) : GG S K enc cs sl pc L st f := by
  subst hp
  obtain ⟨p, l, e, R, s, m, args, below, meth, c, G, h0, hf, rf⟩ := K
  intro ok h H locs ls r hI hl hf' he
  cases x with
  | none => exact lv_aloadN ok.1 ok.2.1 hd (lv_at hl j (vL_at hm)) (g ok h H locs ls r hI hl hf' he)
  | some a => exact lv_aload ok.1 ok.2.1 hd (lv_at hl j (vL_at hm)) (g ok h H locs ls r hI hl hf' he)
theorem gg_istore_n {k : Fin 4} {i : Nat} {x : Int} {L' : List (Nat × VV)} (pc' : Nat) (hp : pc + 1 = pc') (hd : decode S.1 pc = .ok (.istore_n k, 1)) (hk : (k : Nat) = i) (hn : i < S.2.1) (hL : (i, vi x) :: vf1 i L = L') (g : GG S K enc cs sl pc' L' st f) : GG S K enc cs sl pc L (vi x :: st) f := by
  subst hp; subst hL
  obtain ⟨p, l, e, R, s, m, args, below, meth, c, G, h0, hf, rf⟩ := K
  intro ok h H locs ls r hI hl hf' he
  exact lv_istore_n ok.1 ok.2.1 hd hk hl hn rfl (fun ls hl => g ok h H locs ls r hI (by rw [vf1_eq] at hl; exact hl) hf' he)
theorem gg_istore {i : Nat} {x : Int} {L' : List (Nat × VV)} (pc' : Nat) (hp : pc + 2 = pc') (hd : decode S.1 pc = .ok (.istore i, 2)) (hn : i < S.2.1) (hL : (i, vi x) :: vf1 i L = L') (g : GG S K enc cs sl pc' L' st f) : GG S K enc cs sl pc L (vi x :: st) f := by
  subst hp; subst hL
  obtain ⟨p, l, e, R, s, m, args, below, meth, c, G, h0, hf, rf⟩ := K
  intro ok h H locs ls r hI hl hf' he
  exact lv_istore ok.1 ok.2.1 hd hl hn rfl (fun ls hl => g ok h H locs ls r hI (by rw [vf1_eq] at hl; exact hl) hf' he)
theorem gg_lstore_n {k : Fin 4} {i : Nat} {x : Int} {L' : List (Nat × VV)} (pc' : Nat) (hp : pc + 1 = pc') (hd : decode S.1 pc = .ok (.lstore_n k, 1)) (hk : (k : Nat) = i) (hn : i + 1 < S.2.1) (hL : (i, vl x) :: vf2 i L = L') (g : GG S K enc cs sl pc' L' st f) : GG S K enc cs sl pc L (vl x :: st) f := by
  subst hp; subst hL
  obtain ⟨p, l, e, R, s, m, args, below, meth, c, G, h0, hf, rf⟩ := K
  intro ok h H locs ls r hI hl hf' he
  exact lv_lstore_n ok.1 ok.2.1 hd hk hl hn rfl (fun ls hl => g ok h H locs ls r hI (by rw [vf2_eq] at hl; exact hl) hf' he)
theorem gg_lstore {i : Nat} {x : Int} {L' : List (Nat × VV)} (pc' : Nat) (hp : pc + 2 = pc') (hd : decode S.1 pc = .ok (.lstore i, 2)) (hn : i + 1 < S.2.1) (hL : (i, vl x) :: vf2 i L = L') (g : GG S K enc cs sl pc' L' st f) : GG S K enc cs sl pc L (vl x :: st) f := by
  subst hp; subst hL
  obtain ⟨p, l, e, R, s, m, args, below, meth, c, G, h0, hf, rf⟩ := K
  intro ok h H locs ls r hI hl hf' he
  exact lv_lstore ok.1 ok.2.1 hd hl hn rfl (fun ls hl => g ok h H locs ls r hI (by rw [vf2_eq] at hl; exact hl) hf' he)
theorem gg_astore_n {k : Fin 4} {i : Nat} {x : Option Nat} {L' : List (Nat × VV)} (pc' : Nat) (hp : pc + 1 = pc') (hd : decode S.1 pc = .ok (.astore_n k, 1)) (hk : (k : Nat) = i) (hn : i < S.2.1) (hL : (i, vr x) :: vf1 i L = L') (g : GG S K enc cs sl pc' L' st f) : GG S K enc cs sl pc L (vr x :: st) f := by
  subst hp; subst hL
  obtain ⟨p, l, e, R, s, m, args, below, meth, c, G, h0, hf, rf⟩ := K
  intro ok h H locs ls r hI hl hf' he
  cases x with
  | none => exact lv_astore_nN ok.1 ok.2.1 hd hk hl hn rfl (fun ls hl => g ok h H locs ls r hI (by rw [vf1_eq] at hl; exact hl) hf' he)
  | some a => exact lv_astore_n ok.1 ok.2.1 hd hk hl hn rfl (fun ls hl => g ok h H locs ls r hI (by rw [vf1_eq] at hl; exact hl) hf' he)
theorem gg_astore {i : Nat} {x : Option Nat} {L' : List (Nat × VV)} (pc' : Nat) (hp : pc + 2 = pc') (hd : decode S.1 pc = .ok (.astore i, 2)) (hn : i < S.2.1) (hL : (i, vr x) :: vf1 i L = L') (g : GG S K enc cs sl pc' L' st f) : GG S K enc cs sl pc L (vr x :: st) f := by
  subst hp; subst hL
  obtain ⟨p, l, e, R, s, m, args, below, meth, c, G, h0, hf, rf⟩ := K
  intro ok h H locs ls r hI hl hf' he
  cases x with
  | none => exact lv_astoreN ok.1 ok.2.1 hd hl hn rfl (fun ls hl => g ok h H locs ls r hI (by rw [vf1_eq] at hl; exact hl) hf' he)
  | some a => exact lv_astore ok.1 ok.2.1 hd hl hn rfl (fun ls hl => g ok h H locs ls r hI (by rw [vf1_eq] at hl; exact hl) hf' he)
theorem gg_iinc {i : Nat} {n x : Int} {L' : List (Nat × VV)} (j pc' : Nat) (hp : pc + 3 = pc') (hd : decode S.1 pc = .ok (.iinc i n, 3)) (hm : L[j]? = some (i, vi x)) (hn : i < S.2.1) (hL : (i, vi (x + n)) :: vf1 i L = L') (g : GG S K enc cs sl pc' L' st f) : GG S K enc cs sl pc L st f := by
  subst hp; subst hL
  obtain ⟨p, l, e, R, s, m, args, below, meth, c, G, h0, hf, rf⟩ := K
  intro ok h H locs ls r hI hl hf' he
  exact lv_iinc (v := Int32.ofInt (x + n)) ok.1 ok.2.1 hd hl (vL_at hm) (Int32.ofInt_add ..).symm hn rfl (fun ls hl => g ok h H locs ls r hI (by rw [vf1_eq] at hl; exact hl) hf' he)
theorem gg_iadd {x y : Int} (pc' : Nat) (hp : pc + 1 = pc') (hd : decode S.1 pc = .ok (.iadd, 1)) (g : GG S K enc cs sl pc' L (vi (x + y) :: st) f) : GG S K enc cs sl pc L (vi y :: vi x :: st) f := by
  subst hp
  obtain ⟨p, l, e, R, s, m, args, below, meth, c, G, h0, hf, rf⟩ := K
  intro ok h H locs ls r hI hl hf' he
  refine lv_iadd ok.1 ok.2.1 hd ?_
  rw [← Int32.ofInt_add]
  exact g ok h H locs ls r hI hl hf' he
theorem gg_isub {x y : Int} (pc' : Nat) (hp : pc + 1 = pc') (hd : decode S.1 pc = .ok (.isub, 1)) (g : GG S K enc cs sl pc' L (vi (x - y) :: st) f) : GG S K enc cs sl pc L (vi y :: vi x :: st) f := by
  subst hp
  obtain ⟨p, l, e, R, s, m, args, below, meth, c, G, h0, hf, rf⟩ := K
  intro ok h H locs ls r hI hl hf' he
  refine lv_isub ok.1 ok.2.1 hd ?_
  rw [← Int32.ofInt_sub]
  exact g ok h H locs ls r hI hl hf' he
theorem gg_imul {x y : Int} (pc' : Nat) (hp : pc + 1 = pc') (hd : decode S.1 pc = .ok (.imul, 1)) (g : GG S K enc cs sl pc' L (vi (x * y) :: st) f) : GG S K enc cs sl pc L (vi y :: vi x :: st) f := by
  subst hp
  obtain ⟨p, l, e, R, s, m, args, below, meth, c, G, h0, hf, rf⟩ := K
  intro ok h H locs ls r hI hl hf' he
  refine lv_imul ok.1 ok.2.1 hd ?_
  rw [← Int32.ofInt_mul]
  exact g ok h H locs ls r hI hl hf' he
theorem gg_ladd {x y : Int} (pc' : Nat) (hp : pc + 1 = pc') (hd : decode S.1 pc = .ok (.ladd, 1)) (g : GG S K enc cs sl pc' L (vl (x + y) :: st) f) : GG S K enc cs sl pc L (vl y :: vl x :: st) f := by
  subst hp
  obtain ⟨p, l, e, R, s, m, args, below, meth, c, G, h0, hf, rf⟩ := K
  intro ok h H locs ls r hI hl hf' he
  refine lv_ladd ok.1 ok.2.1 hd ?_
  rw [← Int64.ofInt_add]
  exact g ok h H locs ls r hI hl hf' he
theorem gg_lmul {x y : Int} (pc' : Nat) (hp : pc + 1 = pc') (hd : decode S.1 pc = .ok (.lmul, 1)) (g : GG S K enc cs sl pc' L (vl (x * y) :: st) f) : GG S K enc cs sl pc L (vl y :: vl x :: st) f := by
  subst hp
  obtain ⟨p, l, e, R, s, m, args, below, meth, c, G, h0, hf, rf⟩ := K
  intro ok h H locs ls r hI hl hf' he
  refine lv_lmul ok.1 ok.2.1 hd ?_
  rw [← Int64.ofInt_mul]
  exact g ok h H locs ls r hI hl hf' he
theorem gg_ineg {x : Int} (pc' : Nat) (hp : pc + 1 = pc') (hd : decode S.1 pc = .ok (.ineg, 1)) (g : GG S K enc cs sl pc' L (vi (-x) :: st) f) : GG S K enc cs sl pc L (vi x :: st) f := by
  subst hp
  obtain ⟨p, l, e, R, s, m, args, below, meth, c, G, h0, hf, rf⟩ := K
  intro ok h H locs ls r hI hl hf' he
  refine lv_ineg ok.1 ok.2.1 hd ?_
  rw [← Int32.ofInt_neg]
  exact g ok h H locs ls r hI hl hf' he
theorem gg_i2l {x : Int} {α : Type} {k0 : MO α} {k : α → MO ρ} (pc' : Nat) (hp : pc + 1 = pc') (hd : decode S.1 pc = .ok (.i2l, 1)) (g : GG S K enc cs sl pc' L (vl x :: st) (mo_b k0 k)) : GG S K enc cs sl pc L (vi x :: st) (mo_b (mo_lt x x mo_0 k0) k) := by
  subst hp
  obtain ⟨p, l, e, R, s, m, args, below, meth, c, G, h0, hf, rf⟩ := K
  intro ok h H locs ls r hI hl hf' he
  obtain ⟨hx, -, ⟨hc, -⟩ | ⟨-, hf'⟩⟩ := mo_lt_inv hf'
  · exact absurd hc (Int.lt_irrefl _)
  refine lv_i2l (v := Int64.ofInt x) ok.1 ok.2.1 hd ?_ (g ok h H locs ls r hI hl hf' he)
  show (Int32.ofInt x).toInt64 = Int64.ofInt x
  apply Int64.toInt_inj.mp
  rw [Int32.toInt_toInt64, nm_t hx, Int64.toInt_ofInt]
  obtain ⟨h1, h2⟩ := hx
  exact (Jvm.Kit.bmod64 (by omega) (by omega)).symm
theorem gg_l2i {x : Int} (pc' : Nat) (hp : pc + 1 = pc') (hd : decode S.1 pc = .ok (.l2i, 1)) (g : GG S K enc cs sl pc' L (vi x :: st) f) : GG S K enc cs sl pc L (vl x :: st) f := by
  subst hp
  obtain ⟨p, l, e, R, s, m, args, below, meth, c, G, h0, hf, rf⟩ := K
  intro ok h H locs ls r hI hl hf' he
  refine lv_l2i (v := Int32.ofInt x) ok.1 ok.2.1 hd ?_ (g ok h H locs ls r hI hl hf' he)
  exact Int64.toInt32_ofInt
theorem gg_div {x y : Int} {α : Type} {k1 : Int → MO α} {k : α → MO ρ} (pc' : Nat) (hp : pc + 1 = pc') (hd : decode S.1 pc = .ok (.idiv, 1)) (g : ∀ z : Int, GG S K enc cs sl pc' L (vi z :: st) (mo_b (k1 z) k)) : GG S K enc cs sl pc L (vi y :: vi x :: st) (mo_b (mo_b (op_div x y) k1) k) := by
  subst hp
  rw [mo_assoc]
  obtain ⟨p, l, e, R, s, m, args, below, meth, c, G, h0, hf, rf⟩ := K
  intro ok h H locs ls r hI hl hf' he
  obtain ⟨a, h1, ha, hf'⟩ := mo_b_inv hf'
  unfold op_div at ha
  split at ha
  · rename_i hc
    cases ha
    obtain ⟨c1, c2, c3, c4⟩ := hc
    refine lv_idiv ok.1 ok.2.1 hd ?_ ?_
    · exact fun q => by have := (nm_eq (x := y) (y := 0) ⟨by omega, c4⟩ nm_0).mp q; omega
    · have e : Int32.ofInt x / Int32.ofInt y = Int32.ofInt (x / y) := by
        apply Int32.toInt_inj.mp
        have hq : 0 ≤ x / y ∧ x / y ≤ x := ⟨Int.ediv_nonneg c1 (by omega), Int.ediv_le_self _ c1⟩
        rw [Int32.toInt_div, nm_t ⟨by omega, c2⟩, nm_t ⟨by omega, c4⟩, nm_t ⟨by omega, by omega⟩, Int.tdiv_eq_ediv_of_nonneg c1]
        exact Jvm.Kit.bmod32 (by omega) (by omega)
      rw [e]
      exact g _ ok h H locs ls r hI hl hf' he
  · cases ha
theorem gg_rem {x y : Int} {α : Type} {k1 : Int → MO α} {k : α → MO ρ} (pc' : Nat) (hp : pc + 1 = pc') (hd : decode S.1 pc = .ok (.irem, 1)) (g : ∀ z : Int, GG S K enc cs sl pc' L (vi z :: st) (mo_b (k1 z) k)) : GG S K enc cs sl pc L (vi y :: vi x :: st) (mo_b (mo_b (op_rem x y) k1) k) := by
  subst hp
  rw [mo_assoc]
  obtain ⟨p, l, e, R, s, m, args, below, meth, c, G, h0, hf, rf⟩ := K
  intro ok h H locs ls r hI hl hf' he
  obtain ⟨a, h1, ha, hf'⟩ := mo_b_inv hf'
  unfold op_rem at ha
  split at ha
  · rename_i hc
    cases ha
    obtain ⟨c1, c2, c3, c4⟩ := hc
    refine lv_irem ok.1 ok.2.1 hd ?_ ?_
    · exact fun q => by have := (nm_eq (x := y) (y := 0) ⟨by omega, c4⟩ nm_0).mp q; omega
    · have e : Int32.ofInt x - Int32.ofInt x / Int32.ofInt y * Int32.ofInt y = Int32.ofInt (x % y) := by
        have e1 : Int32.ofInt x / Int32.ofInt y = Int32.ofInt (x / y) := by
          apply Int32.toInt_inj.mp
          have hq : 0 ≤ x / y ∧ x / y ≤ x := ⟨Int.ediv_nonneg c1 (by omega), Int.ediv_le_self _ c1⟩
          rw [Int32.toInt_div, nm_t ⟨by omega, c2⟩, nm_t ⟨by omega, c4⟩, nm_t ⟨by omega, by omega⟩, Int.tdiv_eq_ediv_of_nonneg c1]
          exact Jvm.Kit.bmod32 (by omega) (by omega)
        rw [e1, ← Int32.ofInt_mul, ← Int32.ofInt_sub]
        congr 1
        have := Int.mul_ediv_add_emod x y
        have h2 : x / y * y = y * (x / y) := Int.mul_comm _ _
        omega
      rw [e]
      exact g _ ok h H locs ls r hI hl hf' he
  · cases ha
theorem gg_ic_eq {x y : Int} {α : Type} {A B : MO α} {k : α → MO ρ} {off : Int} {tgt : Nat} (pc' : Nat) (hp : pc + 3 = pc') (hd : decode S.1 pc = .ok (.if_icmp .eq off, 3)) (ht : (pc : Int) + off = (tgt : Int)) (ga : GG S K enc cs sl tgt L st (mo_b A k)) (gb : GG S K enc cs sl pc' L st (mo_b B k)) : GG S K enc cs sl pc L (vi y :: vi x :: st) (mo_b (mo_eq x y A B) k) := by
  subst hp
  obtain ⟨p, l, e, R, s, m, args, below, meth, c, G, h0, hf, rf⟩ := K
  intro ok h H locs ls r hI hl hf' he
  obtain ⟨hx, hy, hf'⟩ := mo_eq_inv hf'
  have hi := nm_eq hx hy
  refine lv_icmp_eq ok.1 ok.2.1 hd ht (fun hc => ?_) (fun hc => ?_)
  · rcases hf' with ⟨h1, h2⟩ | ⟨h1, h2⟩
    · first | exact ga ok h H locs ls r hI hl h2 he | exact absurd (hi.mpr h1) hc | exact absurd (hi.mpr h1) (by first | exact Int32.not_lt.mpr hc | exact Int32.not_le.mpr hc)
    · first | exact gb ok h H locs ls r hI hl h2 he | exact absurd (hi.mp hc) h1 | exact absurd (hi.mp (by first | exact Int32.not_lt.mp hc | exact Int32.not_le.mp hc)) h1
  · rcases hf' with ⟨h1, h2⟩ | ⟨h1, h2⟩
    · first | exact ga ok h H locs ls r hI hl h2 he | exact absurd (hi.mpr h1) hc | exact absurd (hi.mpr h1) (by first | exact Int32.not_lt.mpr hc | exact Int32.not_le.mpr hc)
    · first | exact gb ok h H locs ls r hI hl h2 he | exact absurd (hi.mp hc) h1 | exact absurd (hi.mp (by first | exact Int32.not_lt.mp hc | exact Int32.not_le.mp hc)) h1
theorem gg_if_eq {x : Int} {α : Type} {A B : MO α} {k : α → MO ρ} {off : Int} {tgt : Nat} (pc' : Nat) (hp : pc + 3 = pc') (hd : decode S.1 pc = .ok (.ifCond .eq off, 3)) (ht : (pc : Int) + off = (tgt : Int)) (ga : GG S K enc cs sl tgt L st (mo_b A k)) (gb : GG S K enc cs sl pc' L st (mo_b B k)) : GG S K enc cs sl pc L (vi x :: st) (mo_b (mo_eq x 0 A B) k) := by
  subst hp
  obtain ⟨p, l, e, R, s, m, args, below, meth, c, G, h0, hf, rf⟩ := K
  intro ok h H locs ls r hI hl hf' he
  obtain ⟨hx, hy, hf'⟩ := mo_eq_inv hf'
  have hi := nm_eq hx nm_0
  refine lv_if_eq ok.1 ok.2.1 hd ht (fun hc => ?_) (fun hc => ?_)
  · rcases hf' with ⟨h1, h2⟩ | ⟨h1, h2⟩
    · first | exact ga ok h H locs ls r hI hl h2 he | exact absurd (hi.mpr h1) hc | exact absurd (hi.mpr h1) (by first | exact Int32.not_lt.mpr hc | exact Int32.not_le.mpr hc)
    · first | exact gb ok h H locs ls r hI hl h2 he | exact absurd (hi.mp hc) h1 | exact absurd (hi.mp (by first | exact Int32.not_lt.mp hc | exact Int32.not_le.mp hc)) h1
  · rcases hf' with ⟨h1, h2⟩ | ⟨h1, h2⟩
    · first | exact ga ok h H locs ls r hI hl h2 he | exact absurd (hi.mpr h1) hc | exact absurd (hi.mpr h1) (by first | exact Int32.not_lt.mpr hc | exact Int32.not_le.mpr hc)
    · first | exact gb ok h H locs ls r hI hl h2 he | exact absurd (hi.mp hc) h1 | exact absurd (hi.mp (by first | exact Int32.not_lt.mp hc | exact Int32.not_le.mp hc)) h1
theorem gg_ic_ne {x y : Int} {α : Type} {A B : MO α} {k : α → MO ρ} {off : Int} {tgt : Nat} (pc' : Nat) (hp : pc + 3 = pc') (hd : decode S.1 pc = .ok (.if_icmp .ne off, 3)) (ht : (pc : Int) + off = (tgt : Int)) (ga : GG S K enc cs sl pc' L st (mo_b A k)) (gb : GG S K enc cs sl tgt L st (mo_b B k)) : GG S K enc cs sl pc L (vi y :: vi x :: st) (mo_b (mo_eq x y A B) k) := by
  subst hp
  obtain ⟨p, l, e, R, s, m, args, below, meth, c, G, h0, hf, rf⟩ := K
  intro ok h H locs ls r hI hl hf' he
  obtain ⟨hx, hy, hf'⟩ := mo_eq_inv hf'
  have hi := nm_eq hx hy
  refine lv_icmp_ne ok.1 ok.2.1 hd ht (fun hc => ?_) (fun hc => ?_)
  · rcases hf' with ⟨h1, h2⟩ | ⟨h1, h2⟩
    · first | exact ga ok h H locs ls r hI hl h2 he | exact absurd (hi.mpr h1) hc | exact absurd (hi.mpr h1) (by first | exact Int32.not_lt.mpr hc | exact Int32.not_le.mpr hc)
    · first | exact gb ok h H locs ls r hI hl h2 he | exact absurd (hi.mp hc) h1 | exact absurd (hi.mp (by first | exact Int32.not_lt.mp hc | exact Int32.not_le.mp hc)) h1
  · rcases hf' with ⟨h1, h2⟩ | ⟨h1, h2⟩
    · first | exact ga ok h H locs ls r hI hl h2 he | exact absurd (hi.mpr h1) hc | exact absurd (hi.mpr h1) (by first | exact Int32.not_lt.mpr hc | exact Int32.not_le.mpr hc)
    · first | exact gb ok h H locs ls r hI hl h2 he | exact absurd (hi.mp hc) h1 | exact absurd (hi.mp (by first | exact Int32.not_lt.mp hc | exact Int32.not_le.mp hc)) h1
theorem gg_if_ne {x : Int} {α : Type} {A B : MO α} {k : α → MO ρ} {off : Int} {tgt : Nat} (pc' : Nat) (hp : pc + 3 = pc') (hd : decode S.1 pc = .ok (.ifCond .ne off, 3)) (ht : (pc : Int) + off = (tgt : Int)) (ga : GG S K enc cs sl pc' L st (mo_b A k)) (gb : GG S K enc cs sl tgt L st (mo_b B k)) : GG S K enc cs sl pc L (vi x :: st) (mo_b (mo_eq x 0 A B) k) := by
  subst hp
  obtain ⟨p, l, e, R, s, m, args, below, meth, c, G, h0, hf, rf⟩ := K
  intro ok h H locs ls r hI hl hf' he
  obtain ⟨hx, hy, hf'⟩ := mo_eq_inv hf'
  have hi := nm_eq hx nm_0
  refine lv_if_ne ok.1 ok.2.1 hd ht (fun hc => ?_) (fun hc => ?_)
  · rcases hf' with ⟨h1, h2⟩ | ⟨h1, h2⟩
    · first | exact ga ok h H locs ls r hI hl h2 he | exact absurd (hi.mpr h1) hc | exact absurd (hi.mpr h1) (by first | exact Int32.not_lt.mpr hc | exact Int32.not_le.mpr hc)
    · first | exact gb ok h H locs ls r hI hl h2 he | exact absurd (hi.mp hc) h1 | exact absurd (hi.mp (by first | exact Int32.not_lt.mp hc | exact Int32.not_le.mp hc)) h1
  · rcases hf' with ⟨h1, h2⟩ | ⟨h1, h2⟩
    · first | exact ga ok h H locs ls r hI hl h2 he | exact absurd (hi.mpr h1) hc | exact absurd (hi.mpr h1) (by first | exact Int32.not_lt.mpr hc | exact Int32.not_le.mpr hc)
    · first | exact gb ok h H locs ls r hI hl h2 he | exact absurd (hi.mp hc) h1 | exact absurd (hi.mp (by first | exact Int32.not_lt.mp hc | exact Int32.not_le.mp hc)) h1
theorem gg_ic_lt {x y : Int} {α : Type} {A B : MO α} {k : α → MO ρ} {off : Int} {tgt : Nat} (pc' : Nat) (hp : pc + 3 = pc') (hd : decode S.1 pc = .ok (.if_icmp .lt off, 3)) (ht : (pc : Int) + off = (tgt : Int)) (ga : GG S K enc cs sl tgt L st (mo_b A k)) (gb : GG S K enc cs sl pc' L st (mo_b B k)) : GG S K enc cs sl pc L (vi y :: vi x :: st) (mo_b (mo_lt x y A B) k) := by
  subst hp
  obtain ⟨p, l, e, R, s, m, args, below, meth, c, G, h0, hf, rf⟩ := K
  intro ok h H locs ls r hI hl hf' he
  obtain ⟨hx, hy, hf'⟩ := mo_lt_inv hf'
  have hi := nm_lt hx hy
  refine lv_icmp_lt ok.1 ok.2.1 hd ht (fun hc => ?_) (fun hc => ?_)
  · rcases hf' with ⟨h1, h2⟩ | ⟨h1, h2⟩
    · first | exact ga ok h H locs ls r hI hl h2 he | exact absurd (hi.mpr h1) hc | exact absurd (hi.mpr h1) (by first | exact Int32.not_lt.mpr hc | exact Int32.not_le.mpr hc)
    · first | exact gb ok h H locs ls r hI hl h2 he | exact absurd (hi.mp hc) h1 | exact absurd (hi.mp (by first | exact Int32.not_lt.mp hc | exact Int32.not_le.mp hc)) h1
  · rcases hf' with ⟨h1, h2⟩ | ⟨h1, h2⟩
    · first | exact ga ok h H locs ls r hI hl h2 he | exact absurd (hi.mpr h1) hc | exact absurd (hi.mpr h1) (by first | exact Int32.not_lt.mpr hc | exact Int32.not_le.mpr hc)
    · first | exact gb ok h H locs ls r hI hl h2 he | exact absurd (hi.mp hc) h1 | exact absurd (hi.mp (by first | exact Int32.not_lt.mp hc | exact Int32.not_le.mp hc)) h1
theorem gg_if_lt {x : Int} {α : Type} {A B : MO α} {k : α → MO ρ} {off : Int} {tgt : Nat} (pc' : Nat) (hp : pc + 3 = pc') (hd : decode S.1 pc = .ok (.ifCond .lt off, 3)) (ht : (pc : Int) + off = (tgt : Int)) (ga : GG S K enc cs sl tgt L st (mo_b A k)) (gb : GG S K enc cs sl pc' L st (mo_b B k)) : GG S K enc cs sl pc L (vi x :: st) (mo_b (mo_lt x 0 A B) k) := by
  subst hp
  obtain ⟨p, l, e, R, s, m, args, below, meth, c, G, h0, hf, rf⟩ := K
  intro ok h H locs ls r hI hl hf' he
  obtain ⟨hx, hy, hf'⟩ := mo_lt_inv hf'
  have hi := nm_lt hx nm_0
  refine lv_if_lt ok.1 ok.2.1 hd ht (fun hc => ?_) (fun hc => ?_)
  · rcases hf' with ⟨h1, h2⟩ | ⟨h1, h2⟩
    · first | exact ga ok h H locs ls r hI hl h2 he | exact absurd (hi.mpr h1) hc | exact absurd (hi.mpr h1) (by first | exact Int32.not_lt.mpr hc | exact Int32.not_le.mpr hc)
    · first | exact gb ok h H locs ls r hI hl h2 he | exact absurd (hi.mp hc) h1 | exact absurd (hi.mp (by first | exact Int32.not_lt.mp hc | exact Int32.not_le.mp hc)) h1
  · rcases hf' with ⟨h1, h2⟩ | ⟨h1, h2⟩
    · first | exact ga ok h H locs ls r hI hl h2 he | exact absurd (hi.mpr h1) hc | exact absurd (hi.mpr h1) (by first | exact Int32.not_lt.mpr hc | exact Int32.not_le.mpr hc)
    · first | exact gb ok h H locs ls r hI hl h2 he | exact absurd (hi.mp hc) h1 | exact absurd (hi.mp (by first | exact Int32.not_lt.mp hc | exact Int32.not_le.mp hc)) h1
theorem gg_ic_ge {x y : Int} {α : Type} {A B : MO α} {k : α → MO ρ} {off : Int} {tgt : Nat} (pc' : Nat) (hp : pc + 3 = pc') (hd : decode S.1 pc = .ok (.if_icmp .ge off, 3)) (ht : (pc : Int) + off = (tgt : Int)) (ga : GG S K enc cs sl pc' L st (mo_b A k)) (gb : GG S K enc cs sl tgt L st (mo_b B k)) : GG S K enc cs sl pc L (vi y :: vi x :: st) (mo_b (mo_lt x y A B) k) := by
  subst hp
  obtain ⟨p, l, e, R, s, m, args, below, meth, c, G, h0, hf, rf⟩ := K
  intro ok h H locs ls r hI hl hf' he
  obtain ⟨hx, hy, hf'⟩ := mo_lt_inv hf'
  have hi := nm_lt hx hy
  refine lv_icmp_ge ok.1 ok.2.1 hd ht (fun hc => ?_) (fun hc => ?_)
  · rcases hf' with ⟨h1, h2⟩ | ⟨h1, h2⟩
    · first | exact ga ok h H locs ls r hI hl h2 he | exact absurd (hi.mpr h1) hc | exact absurd (hi.mpr h1) (by first | exact Int32.not_lt.mpr hc | exact Int32.not_le.mpr hc)
    · first | exact gb ok h H locs ls r hI hl h2 he | exact absurd (hi.mp hc) h1 | exact absurd (hi.mp (by first | exact Int32.not_lt.mp hc | exact Int32.not_le.mp hc)) h1
  · rcases hf' with ⟨h1, h2⟩ | ⟨h1, h2⟩
    · first | exact ga ok h H locs ls r hI hl h2 he | exact absurd (hi.mpr h1) hc | exact absurd (hi.mpr h1) (by first | exact Int32.not_lt.mpr hc | exact Int32.not_le.mpr hc)
    · first | exact gb ok h H locs ls r hI hl h2 he | exact absurd (hi.mp hc) h1 | exact absurd (hi.mp (by first | exact Int32.not_lt.mp hc | exact Int32.not_le.mp hc)) h1
theorem gg_if_ge {x : Int} {α : Type} {A B : MO α} {k : α → MO ρ} {off : Int} {tgt : Nat} (pc' : Nat) (hp : pc + 3 = pc') (hd : decode S.1 pc = .ok (.ifCond .ge off, 3)) (ht : (pc : Int) + off = (tgt : Int)) (ga : GG S K enc cs sl pc' L st (mo_b A k)) (gb : GG S K enc cs sl tgt L st (mo_b B k)) : GG S K enc cs sl pc L (vi x :: st) (mo_b (mo_lt x 0 A B) k) := by
  subst hp
  obtain ⟨p, l, e, R, s, m, args, below, meth, c, G, h0, hf, rf⟩ := K
  intro ok h H locs ls r hI hl hf' he
  obtain ⟨hx, hy, hf'⟩ := mo_lt_inv hf'
  have hi := nm_lt hx nm_0
  refine lv_if_ge ok.1 ok.2.1 hd ht (fun hc => ?_) (fun hc => ?_)
  · rcases hf' with ⟨h1, h2⟩ | ⟨h1, h2⟩
    · first | exact ga ok h H locs ls r hI hl h2 he | exact absurd (hi.mpr h1) hc | exact absurd (hi.mpr h1) (by first | exact Int32.not_lt.mpr hc | exact Int32.not_le.mpr hc)
    · first | exact gb ok h H locs ls r hI hl h2 he | exact absurd (hi.mp hc) h1 | exact absurd (hi.mp (by first | exact Int32.not_lt.mp hc | exact Int32.not_le.mp hc)) h1
  · rcases hf' with ⟨h1, h2⟩ | ⟨h1, h2⟩
    · first | exact ga ok h H locs ls r hI hl h2 he | exact absurd (hi.mpr h1) hc | exact absurd (hi.mpr h1) (by first | exact Int32.not_lt.mpr hc | exact Int32.not_le.mpr hc)
    · first | exact gb ok h H locs ls r hI hl h2 he | exact absurd (hi.mp hc) h1 | exact absurd (hi.mp (by first | exact Int32.not_lt.mp hc | exact Int32.not_le.mp hc)) h1
theorem gg_ic_le {x y : Int} {α : Type} {A B : MO α} {k : α → MO ρ} {off : Int} {tgt : Nat} (pc' : Nat) (hp : pc + 3 = pc') (hd : decode S.1 pc = .ok (.if_icmp .le off, 3)) (ht : (pc : Int) + off = (tgt : Int)) (ga : GG S K enc cs sl tgt L st (mo_b A k)) (gb : GG S K enc cs sl pc' L st (mo_b B k)) : GG S K enc cs sl pc L (vi y :: vi x :: st) (mo_b (mo_le x y A B) k) := by
  subst hp
  obtain ⟨p, l, e, R, s, m, args, below, meth, c, G, h0, hf, rf⟩ := K
  intro ok h H locs ls r hI hl hf' he
  obtain ⟨hx, hy, hf'⟩ := mo_le_inv hf'
  have hi := nm_le hx hy
  refine lv_icmp_le ok.1 ok.2.1 hd ht (fun hc => ?_) (fun hc => ?_)
  · rcases hf' with ⟨h1, h2⟩ | ⟨h1, h2⟩
    · first | exact ga ok h H locs ls r hI hl h2 he | exact absurd (hi.mpr h1) hc | exact absurd (hi.mpr h1) (by first | exact Int32.not_lt.mpr hc | exact Int32.not_le.mpr hc)
    · first | exact gb ok h H locs ls r hI hl h2 he | exact absurd (hi.mp hc) h1 | exact absurd (hi.mp (by first | exact Int32.not_lt.mp hc | exact Int32.not_le.mp hc)) h1
  · rcases hf' with ⟨h1, h2⟩ | ⟨h1, h2⟩
    · first | exact ga ok h H locs ls r hI hl h2 he | exact absurd (hi.mpr h1) hc | exact absurd (hi.mpr h1) (by first | exact Int32.not_lt.mpr hc | exact Int32.not_le.mpr hc)
    · first | exact gb ok h H locs ls r hI hl h2 he | exact absurd (hi.mp hc) h1 | exact absurd (hi.mp (by first | exact Int32.not_lt.mp hc | exact Int32.not_le.mp hc)) h1
theorem gg_if_le {x : Int} {α : Type} {A B : MO α} {k : α → MO ρ} {off : Int} {tgt : Nat} (pc' : Nat) (hp : pc + 3 = pc') (hd : decode S.1 pc = .ok (.ifCond .le off, 3)) (ht : (pc : Int) + off = (tgt : Int)) (ga : GG S K enc cs sl tgt L st (mo_b A k)) (gb : GG S K enc cs sl pc' L st (mo_b B k)) : GG S K enc cs sl pc L (vi x :: st) (mo_b (mo_le x 0 A B) k) := by
  subst hp
  obtain ⟨p, l, e, R, s, m, args, below, meth, c, G, h0, hf, rf⟩ := K
  intro ok h H locs ls r hI hl hf' he
  obtain ⟨hx, hy, hf'⟩ := mo_le_inv hf'
  have hi := nm_le hx nm_0
  refine lv_if_le ok.1 ok.2.1 hd ht (fun hc => ?_) (fun hc => ?_)
  · rcases hf' with ⟨h1, h2⟩ | ⟨h1, h2⟩
    · first | exact ga ok h H locs ls r hI hl h2 he | exact absurd (hi.mpr h1) hc | exact absurd (hi.mpr h1) (by first | exact Int32.not_lt.mpr hc | exact Int32.not_le.mpr hc)
    · first | exact gb ok h H locs ls r hI hl h2 he | exact absurd (hi.mp hc) h1 | exact absurd (hi.mp (by first | exact Int32.not_lt.mp hc | exact Int32.not_le.mp hc)) h1
  · rcases hf' with ⟨h1, h2⟩ | ⟨h1, h2⟩
    · first | exact ga ok h H locs ls r hI hl h2 he | exact absurd (hi.mpr h1) hc | exact absurd (hi.mpr h1) (by first | exact Int32.not_lt.mpr hc | exact Int32.not_le.mpr hc)
    · first | exact gb ok h H locs ls r hI hl h2 he | exact absurd (hi.mp hc) h1 | exact absurd (hi.mp (by first | exact Int32.not_lt.mp hc | exact Int32.not_le.mp hc)) h1
theorem gg_ic_gt {x y : Int} {α : Type} {A B : MO α} {k : α → MO ρ} {off : Int} {tgt : Nat} (pc' : Nat) (hp : pc + 3 = pc') (hd : decode S.1 pc = .ok (.if_icmp .gt off, 3)) (ht : (pc : Int) + off = (tgt : Int)) (ga : GG S K enc cs sl pc' L st (mo_b A k)) (gb : GG S K enc cs sl tgt L st (mo_b B k)) : GG S K enc cs sl pc L (vi y :: vi x :: st) (mo_b (mo_le x y A B) k) := by
  subst hp
  obtain ⟨p, l, e, R, s, m, args, below, meth, c, G, h0, hf, rf⟩ := K
  intro ok h H locs ls r hI hl hf' he
  obtain ⟨hx, hy, hf'⟩ := mo_le_inv hf'
  have hi := nm_le hx hy
  refine lv_icmp_gt ok.1 ok.2.1 hd ht (fun hc => ?_) (fun hc => ?_)
  · rcases hf' with ⟨h1, h2⟩ | ⟨h1, h2⟩
    · first | exact ga ok h H locs ls r hI hl h2 he | exact absurd (hi.mpr h1) hc | exact absurd (hi.mpr h1) (by first | exact Int32.not_lt.mpr hc | exact Int32.not_le.mpr hc)
    · first | exact gb ok h H locs ls r hI hl h2 he | exact absurd (hi.mp hc) h1 | exact absurd (hi.mp (by first | exact Int32.not_lt.mp hc | exact Int32.not_le.mp hc)) h1
  · rcases hf' with ⟨h1, h2⟩ | ⟨h1, h2⟩
    · first | exact ga ok h H locs ls r hI hl h2 he | exact absurd (hi.mpr h1) hc | exact absurd (hi.mpr h1) (by first | exact Int32.not_lt.mpr hc | exact Int32.not_le.mpr hc)
    · first | exact gb ok h H locs ls r hI hl h2 he | exact absurd (hi.mp hc) h1 | exact absurd (hi.mp (by first | exact Int32.not_lt.mp hc | exact Int32.not_le.mp hc)) h1
theorem gg_if_gt {x : Int} {α : Type} {A B : MO α} {k : α → MO ρ} {off : Int} {tgt : Nat} (pc' : Nat) (hp : pc + 3 = pc') (hd : decode S.1 pc = .ok (.ifCond .gt off, 3)) (ht : (pc : Int) + off = (tgt : Int)) (ga : GG S K enc cs sl pc' L st (mo_b A k)) (gb : GG S K enc cs sl tgt L st (mo_b B k)) : GG S K enc cs sl pc L (vi x :: st) (mo_b (mo_le x 0 A B) k) := by
  subst hp
  obtain ⟨p, l, e, R, s, m, args, below, meth, c, G, h0, hf, rf⟩ := K
  intro ok h H locs ls r hI hl hf' he
  obtain ⟨hx, hy, hf'⟩ := mo_le_inv hf'
  have hi := nm_le hx nm_0
  refine lv_if_gt ok.1 ok.2.1 hd ht (fun hc => ?_) (fun hc => ?_)
  · rcases hf' with ⟨h1, h2⟩ | ⟨h1, h2⟩
    · first | exact ga ok h H locs ls r hI hl h2 he | exact absurd (hi.mpr h1) hc | exact absurd (hi.mpr h1) (by first | exact Int32.not_lt.mpr hc | exact Int32.not_le.mpr hc)
    · first | exact gb ok h H locs ls r hI hl h2 he | exact absurd (hi.mp hc) h1 | exact absurd (hi.mp (by first | exact Int32.not_lt.mp hc | exact Int32.not_le.mp hc)) h1
  · rcases hf' with ⟨h1, h2⟩ | ⟨h1, h2⟩
    · first | exact ga ok h H locs ls r hI hl h2 he | exact absurd (hi.mpr h1) hc | exact absurd (hi.mpr h1) (by first | exact Int32.not_lt.mpr hc | exact Int32.not_le.mpr hc)
    · first | exact gb ok h H locs ls r hI hl h2 he | exact absurd (hi.mp hc) h1 | exact absurd (hi.mp (by first | exact Int32.not_lt.mp hc | exact Int32.not_le.mp hc)) h1
theorem gg_ifnull {x : Option Nat} {α : Type} {A B : MO α} {k : α → MO ρ} {off : Int} {tgt : Nat} (pc' : Nat) (hp : pc + 3 = pc') (hd : decode S.1 pc = .ok (.ifnull off, 3)) (ht : (pc : Int) + off = (tgt : Int)) (ga : GG S K enc cs sl tgt L st (mo_b A k)) (gb : GG S K enc cs sl pc' L st (mo_b B k)) : GG S K enc cs sl pc L (vr x :: st) (mo_b (mo_nl x A B) k) := by
  subst hp
  obtain ⟨p, l, e, R, s, m, args, below, meth, c, G, h0, hf, rf⟩ := K
  intro ok h H locs ls r hI hl hf' he
  cases x with
  | none => first | exact lv_ifnullN ok.1 ok.2.1 hd ht (ga ok h H locs ls r hI hl hf' he) | exact lv_ifnullN ok.1 ok.2.1 hd (ga ok h H locs ls r hI hl hf' he)
  | some a => first | exact lv_ifnull ok.1 ok.2.1 hd ht (gb ok h H locs ls r hI hl hf' he) | exact lv_ifnull ok.1 ok.2.1 hd (gb ok h H locs ls r hI hl hf' he)
theorem gg_ifnonnull {x : Option Nat} {α : Type} {A B : MO α} {k : α → MO ρ} {off : Int} {tgt : Nat} (pc' : Nat) (hp : pc + 3 = pc') (hd : decode S.1 pc = .ok (.ifnonnull off, 3)) (ht : (pc : Int) + off = (tgt : Int)) (ga : GG S K enc cs sl pc' L st (mo_b A k)) (gb : GG S K enc cs sl tgt L st (mo_b B k)) : GG S K enc cs sl pc L (vr x :: st) (mo_b (mo_nl x A B) k) := by
  subst hp
  obtain ⟨p, l, e, R, s, m, args, below, meth, c, G, h0, hf, rf⟩ := K
  intro ok h H locs ls r hI hl hf' he
  cases x with
  | none => first | exact lv_ifnonnullN ok.1 ok.2.1 hd ht (ga ok h H locs ls r hI hl hf' he) | exact lv_ifnonnullN ok.1 ok.2.1 hd (ga ok h H locs ls r hI hl hf' he)
  | some a => first | exact lv_ifnonnull ok.1 ok.2.1 hd ht (gb ok h H locs ls r hI hl hf' he) | exact lv_ifnonnull ok.1 ok.2.1 hd (gb ok h H locs ls r hI hl hf' he)
theorem gg_dup {v : VV} (pc' : Nat) (hp : pc + 1 = pc') (hd : decode S.1 pc = .ok (.dup, 1)) (hv : vc v = 1) (g : GG S K enc cs sl pc' L (v :: v :: st) f) : GG S K enc cs sl pc L (v :: st) f := by
  subst hp
  obtain ⟨p, l, e, R, s, m, args, below, meth, c, G, h0, hf, rf⟩ := K
  intro ok h H locs ls r hI hl hf' he
  exact lv_dup ok.1 ok.2.1 hd (by rw [vc_eq]; exact hv) (g ok h H locs ls r hI hl hf' he)
theorem gg_pop {v : VV} (pc' : Nat) (hp : pc + 1 = pc') (hd : decode S.1 pc = .ok (.pop, 1)) (hv : vc v = 1) (g : GG S K enc cs sl pc' L st f) : GG S K enc cs sl pc L (v :: st) f := by
  subst hp
  obtain ⟨p, l, e, R, s, m, args, below, meth, c, G, h0, hf, rf⟩ := K
  intro ok h H locs ls r hI hl hf' he
  exact lv_pop ok.1 ok.2.1 hd (by rw [vc_eq]; exact hv) (g ok h H locs ls r hI hl hf' he)
theorem gg_dup2 {v w : VV} (pc' : Nat) (hp : pc + 1 = pc') (hd : decode S.1 pc = .ok (.dup2, 1)) (hv : vc v = 1) (hw : vc w = 1) (g : GG S K enc cs sl pc' L (v :: w :: v :: w :: st) f) : GG S K enc cs sl pc L (v :: w :: st) f := by
  subst hp
  obtain ⟨p, l, e, R, s, m, args, below, meth, c, G, h0, hf, rf⟩ := K
  intro ok h H locs ls r hI hl hf' he
  exact lv_dup2_11 ok.1 ok.2.1 hd (by rw [vc_eq]; exact hv) (by rw [vc_eq]; exact hw) (g ok h H locs ls r hI hl hf' he)
end RULES
