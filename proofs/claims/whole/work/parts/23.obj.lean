/-! a class: its number, name, fields, how many, their types -/
def cf_K (ci : Nat) (C : String) (T : u_T) (N : Nat) (ty : Nat → FieldType) : Prop :=
  vwCl[ci]? = some (C, T, N) ∧ (∀ w ∈ u_ws C T N, w ∈ tb_G) ∧ (∀ k, k < N → parseFieldDescriptor (T k).2.2.1 = some (ty k)) ∧ (∀ a, a < N → ∀ b, b < N → a ≠ b → (T a).2.1 ≠ (T b).2.1) ∧ rp_n ci = N ∧ rp_ty ci = ty ∧ ∀ k, k < N → (T k).1 = C
theorem mo_on_inv {α ρ : Type} {x : Option Nat} {F : Nat → MO α} {k : α → MO ρ} {h : AH} {q : ρ × AH} (e : mo_b (mo_on x F) k h = some q) : ∃ a, x = some a ∧ mo_b (F a) k h = some q := by
  cases x with
  | none => simp [mo_on, mo_b, mo_0] at e
  | some a => exact ⟨a, rfl, e⟩
section OBJ
variable {ρ : Type} {S : ST} {K : CX} {enc : ρ → Option Value} {cs sl pc : Nat} {L : List (Nat × VV)} {st : List VV} {f : MO ρ}
theorem gg_gi {ci k idx N : Nat} {C : String} {T : u_T} {ty : Nat → FieldType} {x0 : Option Nat} {α : Type} {k1 : Int → MO α} {kk : α → MO ρ} (cf : cf_K ci C T N ty) (hk : k < N) (hty : ∀ x p, rp_v (ty k) x p = .int (Int32.ofInt x)) (pc' : Nat) (hp : pc + 3 = pc') (hlink : Cond.fieldLink S.2.2.1 idx C (T k).2.1 (T k).2.2.1 ∈ tb_G) (hd : decode S.1 pc = .ok (.getfield idx, 3)) (g : ∀ x : Int, GG S K enc cs sl pc' L (vi x :: st) (mo_b (k1 x) kk)) : GG S K enc cs sl pc L (vr x0 :: st) (mo_b (mo_b (op_g ci x0 k) k1) kk) := by
  subst hp
  rw [mo_assoc]
  obtain ⟨p, l, e, R, s, m, args, below, meth, c, G, h0, hf, rf⟩ := K
  intro ok h H locs ls r hI hl hf' he
  obtain ⟨a, rfl, hf2⟩ := mo_on_inv hf'
  clear hf'
  obtain ⟨v, h1, hv, hf'⟩ := mo_b_inv hf2
  try dsimp only at hv
  split at hv
  · rename_i hT
    cases hv
    obtain ⟨hc, hin, hfd, hnm, hN, hry, hdecl⟩ := cf
    obtain ⟨cell, q1, q2, q3, q4⟩ := rp_O hI.1 hT
    rw [hN] at q4
    obtain ⟨hS, hfc, kC, hkC, hkind⟩ := ok.2.2.2.2.2.1.1.1 ci _ hc
    obtain ⟨cf, kf, fi, fd, hi, hsl⟩ := hS k hk
    have hi' : s.fieldFound? C (T k).2.1 (T k).2.2.1 = some (cf, kf, fi, fd) := by rw [hdecl k hk] at hi; exact hi
    refine W.getf (v := vv (vi (ah_F h a k))) ok.1 ok.2.1 ok.2.2.2.1 (ok.2.2.2.2.1 _ hlink) hi' (u_facts hfc hkC (u_lays ok.2.2.2.2.1 hin hk) hi).1 q1 (by rw [q3]; exact fun h => by cases h) ?_ rfl rfl hd (g _ ok h H locs ls r hI hl hf' he)
    rw [hsl, q4 k hk]
    simp only [rp_V, hry, hty]
    rfl
  · cases hv
theorem gg_gl {ci k idx N : Nat} {C : String} {T : u_T} {ty : Nat → FieldType} {x0 : Option Nat} {α : Type} {k1 : Int → MO α} {kk : α → MO ρ} (cf : cf_K ci C T N ty) (hk : k < N) (hty : ∀ x p, rp_v (ty k) x p = .long (Int64.ofInt x)) (pc' : Nat) (hp : pc + 3 = pc') (hlink : Cond.fieldLink S.2.2.1 idx C (T k).2.1 (T k).2.2.1 ∈ tb_G) (hd : decode S.1 pc = .ok (.getfield idx, 3)) (g : ∀ x : Int, GG S K enc cs sl pc' L (vl x :: st) (mo_b (k1 x) kk)) : GG S K enc cs sl pc L (vr x0 :: st) (mo_b (mo_b (op_g ci x0 k) k1) kk) := by
  subst hp
  rw [mo_assoc]
  obtain ⟨p, l, e, R, s, m, args, below, meth, c, G, h0, hf, rf⟩ := K
  intro ok h H locs ls r hI hl hf' he
  obtain ⟨a, rfl, hf2⟩ := mo_on_inv hf'
  clear hf'
  obtain ⟨v, h1, hv, hf'⟩ := mo_b_inv hf2
  try dsimp only at hv
  split at hv
  · rename_i hT
    cases hv
    obtain ⟨hc, hin, hfd, hnm, hN, hry, hdecl⟩ := cf
    obtain ⟨cell, q1, q2, q3, q4⟩ := rp_O hI.1 hT
    rw [hN] at q4
    obtain ⟨hS, hfc, kC, hkC, hkind⟩ := ok.2.2.2.2.2.1.1.1 ci _ hc
    obtain ⟨cf, kf, fi, fd, hi, hsl⟩ := hS k hk
    have hi' : s.fieldFound? C (T k).2.1 (T k).2.2.1 = some (cf, kf, fi, fd) := by rw [hdecl k hk] at hi; exact hi
    refine W.getf (v := vv (vl (ah_F h a k))) ok.1 ok.2.1 ok.2.2.2.1 (ok.2.2.2.2.1 _ hlink) hi' (u_facts hfc hkC (u_lays ok.2.2.2.2.1 hin hk) hi).1 q1 (by rw [q3]; exact fun h => by cases h) ?_ rfl rfl hd (g _ ok h H locs ls r hI hl hf' he)
    rw [hsl, q4 k hk]
    simp only [rp_V, hry, hty]
    rfl
  · cases hv
theorem gg_gr {ci k idx N : Nat} {C : String} {T : u_T} {ty : Nat → FieldType} {x0 : Option Nat} {α : Type} {k1 : Option Nat → MO α} {kk : α → MO ρ} (cf : cf_K ci C T N ty) (hk : k < N) (hty : ∀ x p, rp_v (ty k) x p = va_rf p) (pc' : Nat) (hp : pc + 3 = pc') (hlink : Cond.fieldLink S.2.2.1 idx C (T k).2.1 (T k).2.2.1 ∈ tb_G) (hd : decode S.1 pc = .ok (.getfield idx, 3)) (g : ∀ x : Option Nat, GG S K enc cs sl pc' L (vr x :: st) (mo_b (k1 x) kk)) : GG S K enc cs sl pc L (vr x0 :: st) (mo_b (mo_b (op_gr ci x0 k) k1) kk) := by
  subst hp
  rw [mo_assoc]
  obtain ⟨p, l, e, R, s, m, args, below, meth, c, G, h0, hf, rf⟩ := K
  intro ok h H locs ls r hI hl hf' he
  obtain ⟨a, rfl, hf2⟩ := mo_on_inv hf'
  clear hf'
  obtain ⟨v, h1, hv, hf'⟩ := mo_b_inv hf2
  try dsimp only at hv
  split at hv
  · rename_i hT
    cases hv
    obtain ⟨hc, hin, hfd, hnm, hN, hry, hdecl⟩ := cf
    obtain ⟨cell, q1, q2, q3, q4⟩ := rp_O hI.1 hT
    rw [hN] at q4
    obtain ⟨hS, hfc, kC, hkC, hkind⟩ := ok.2.2.2.2.2.1.1.1 ci _ hc
    obtain ⟨cf, kf, fi, fd, hi, hsl⟩ := hS k hk
    have hi' : s.fieldFound? C (T k).2.1 (T k).2.2.1 = some (cf, kf, fi, fd) := by rw [hdecl k hk] at hi; exact hi
    refine W.getf (v := vv (vr (ah_P h a k))) ok.1 ok.2.1 ok.2.2.2.1 (ok.2.2.2.2.1 _ hlink) hi' (u_facts hfc hkC (u_lays ok.2.2.2.2.1 hin hk) hi).1 q1 (by rw [q3]; exact fun h => by cases h) ?_ rfl rfl hd (g _ ok h H locs ls r hI hl hf' he)
    rw [hsl, q4 k hk]
    simp only [rp_V, hry, hty]
    rfl
  · cases hv
theorem gg_giN {ci k idx N : Nat} {C : String} {T : u_T} {ty : Nat → FieldType} {x0 : Option Nat} {α : Type} {k1 : Int → MO α} {kk : α → MO ρ} (cf : cf_K ci C T N ty) (hk : k < N) (hty : ∀ x p, rp_v (ty k) x p = .int (Int32.ofInt x)) (pc' : Nat) (hp : pc + 3 = pc') (hlink : (S.2.2.1, idx, C, (T k).2.1, (T k).2.2.1, "KeptVersions") ∈ kn_nF) (hd : decode S.1 pc = .ok (.getfield idx, 3)) (g : ∀ x : Int, GG S K enc cs sl pc' L (vi x :: st) (mo_b (k1 x) kk)) : GG S K enc cs sl pc L (vr x0 :: st) (mo_b (mo_b (op_g ci x0 k) k1) kk) := by
  subst hp
  rw [mo_assoc]
  obtain ⟨p, l, e, R, s, m, args, below, meth, c, G, h0, hf, rf⟩ := K
  intro ok h H locs ls r hI hl hf' he
  obtain ⟨a, rfl, hf2⟩ := mo_on_inv hf'
  clear hf'
  obtain ⟨v, h1, hv, hf'⟩ := mo_b_inv hf2
  try dsimp only at hv
  split at hv
  · rename_i hT
    cases hv
    obtain ⟨hc, hin, hfd, hnm, hN, hry, hdecl⟩ := cf
    obtain ⟨cell, q1, q2, q3, q4⟩ := rp_O hI.1 hT
    rw [hN] at q4
    obtain ⟨hS, hfc, kC, hkC, hkind⟩ := ok.2.2.2.2.2.1.1.1 ci _ hc
    obtain ⟨cf, kf, fi, fd, hi, hsl⟩ := hS k hk
    have hi' : s.fieldFound? C (T k).2.1 (T k).2.2.1 = some (cf, kf, fi, fd) := by rw [hdecl k hk] at hi; exact hi
    refine va_Wgetf (v := vv (vi (ah_F h a k))) ok.1 ok.2.1 ok.2.2.2.1 (va_Nw.use rfl (ok.2.2.2.2.2.1.2.1 _ hlink)) hi' (u_facts hfc hkC (u_lays ok.2.2.2.2.1 hin hk) hi).1 q1 (by rw [q3]; exact fun h => by cases h) ?_ rfl rfl hd (g _ ok h H locs ls r hI hl hf' he)
    rw [hsl, q4 k hk]
    simp only [rp_V, hry, hty]
    rfl
  · cases hv
theorem gg_glN {ci k idx N : Nat} {C : String} {T : u_T} {ty : Nat → FieldType} {x0 : Option Nat} {α : Type} {k1 : Int → MO α} {kk : α → MO ρ} (cf : cf_K ci C T N ty) (hk : k < N) (hty : ∀ x p, rp_v (ty k) x p = .long (Int64.ofInt x)) (pc' : Nat) (hp : pc + 3 = pc') (hlink : (S.2.2.1, idx, C, (T k).2.1, (T k).2.2.1, "KeptVersions") ∈ kn_nF) (hd : decode S.1 pc = .ok (.getfield idx, 3)) (g : ∀ x : Int, GG S K enc cs sl pc' L (vl x :: st) (mo_b (k1 x) kk)) : GG S K enc cs sl pc L (vr x0 :: st) (mo_b (mo_b (op_g ci x0 k) k1) kk) := by
  subst hp
  rw [mo_assoc]
  obtain ⟨p, l, e, R, s, m, args, below, meth, c, G, h0, hf, rf⟩ := K
  intro ok h H locs ls r hI hl hf' he
  obtain ⟨a, rfl, hf2⟩ := mo_on_inv hf'
  clear hf'
  obtain ⟨v, h1, hv, hf'⟩ := mo_b_inv hf2
  try dsimp only at hv
  split at hv
  · rename_i hT
    cases hv
    obtain ⟨hc, hin, hfd, hnm, hN, hry, hdecl⟩ := cf
    obtain ⟨cell, q1, q2, q3, q4⟩ := rp_O hI.1 hT
    rw [hN] at q4
    obtain ⟨hS, hfc, kC, hkC, hkind⟩ := ok.2.2.2.2.2.1.1.1 ci _ hc
    obtain ⟨cf, kf, fi, fd, hi, hsl⟩ := hS k hk
    have hi' : s.fieldFound? C (T k).2.1 (T k).2.2.1 = some (cf, kf, fi, fd) := by rw [hdecl k hk] at hi; exact hi
    refine va_Wgetf (v := vv (vl (ah_F h a k))) ok.1 ok.2.1 ok.2.2.2.1 (va_Nw.use rfl (ok.2.2.2.2.2.1.2.1 _ hlink)) hi' (u_facts hfc hkC (u_lays ok.2.2.2.2.1 hin hk) hi).1 q1 (by rw [q3]; exact fun h => by cases h) ?_ rfl rfl hd (g _ ok h H locs ls r hI hl hf' he)
    rw [hsl, q4 k hk]
    simp only [rp_V, hry, hty]
    rfl
  · cases hv
theorem gg_grN {ci k idx N : Nat} {C : String} {T : u_T} {ty : Nat → FieldType} {x0 : Option Nat} {α : Type} {k1 : Option Nat → MO α} {kk : α → MO ρ} (cf : cf_K ci C T N ty) (hk : k < N) (hty : ∀ x p, rp_v (ty k) x p = va_rf p) (pc' : Nat) (hp : pc + 3 = pc') (hlink : (S.2.2.1, idx, C, (T k).2.1, (T k).2.2.1, "KeptVersions") ∈ kn_nF) (hd : decode S.1 pc = .ok (.getfield idx, 3)) (g : ∀ x : Option Nat, GG S K enc cs sl pc' L (vr x :: st) (mo_b (k1 x) kk)) : GG S K enc cs sl pc L (vr x0 :: st) (mo_b (mo_b (op_gr ci x0 k) k1) kk) := by
  subst hp
  rw [mo_assoc]
  obtain ⟨p, l, e, R, s, m, args, below, meth, c, G, h0, hf, rf⟩ := K
  intro ok h H locs ls r hI hl hf' he
  obtain ⟨a, rfl, hf2⟩ := mo_on_inv hf'
  clear hf'
  obtain ⟨v, h1, hv, hf'⟩ := mo_b_inv hf2
  try dsimp only at hv
  split at hv
  · rename_i hT
    cases hv
    obtain ⟨hc, hin, hfd, hnm, hN, hry, hdecl⟩ := cf
    obtain ⟨cell, q1, q2, q3, q4⟩ := rp_O hI.1 hT
    rw [hN] at q4
    obtain ⟨hS, hfc, kC, hkC, hkind⟩ := ok.2.2.2.2.2.1.1.1 ci _ hc
    obtain ⟨cf, kf, fi, fd, hi, hsl⟩ := hS k hk
    have hi' : s.fieldFound? C (T k).2.1 (T k).2.2.1 = some (cf, kf, fi, fd) := by rw [hdecl k hk] at hi; exact hi
    refine va_Wgetf (v := vv (vr (ah_P h a k))) ok.1 ok.2.1 ok.2.2.2.1 (va_Nw.use rfl (ok.2.2.2.2.2.1.2.1 _ hlink)) hi' (u_facts hfc hkC (u_lays ok.2.2.2.2.1 hin hk) hi).1 q1 (by rw [q3]; exact fun h => by cases h) ?_ rfl rfl hd (g _ ok h H locs ls r hI hl hf' he)
    rw [hsl, q4 k hk]
    simp only [rp_V, hry, hty]
    rfl
  · cases hv
theorem gg_si {ci k idx N : Nat} {C : String} {T : u_T} {ty : Nat → FieldType} {x0 : Option Nat} {v : Int} {α : Type} {k1 : Unit → MO α} {kk : α → MO ρ} (cf : cf_K ci C T N ty) (hk : k < N) (hte : ty k = .int) (hty : ∀ x p, rp_v (ty k) x p = .int (Int32.ofInt x)) (hfin : (T k).2.2.2 = false) (pc' : Nat) (hp : pc + 3 = pc') (hlink : Cond.fieldLink S.2.2.1 idx C (T k).2.1 (T k).2.2.1 ∈ tb_G) (hd : decode S.1 pc = .ok (.putfield idx, 3)) (g : GG S K enc cs sl pc' L st (mo_b (k1 ()) kk)) : GG S K enc cs sl pc L (vi v :: vr x0 :: st) (mo_b (mo_b (op_si ci x0 k v) k1) kk) := by
  subst hp
  rw [mo_assoc]
  obtain ⟨p, l, e, R, s, m, args, below, meth, c, G, h0, hf, rf⟩ := K
  intro ok h H locs ls r hI hl hf' he
  obtain ⟨a, rfl, hf2⟩ := mo_on_inv hf'
  clear hf'
  obtain ⟨u, h1, hv, hf'⟩ := mo_b_inv hf2
  try dsimp only at hv
  split at hv
  · rename_i hT
    cases hv
    skip
    obtain ⟨hc, hin, hfd, hnm, hN, hry, hdecl⟩ := cf
    obtain ⟨cell, q1, q2, q3, q4⟩ := rp_O hI.1 hT
    rw [hN] at q4
    have hts := ok.2.2.2.2.1
    have hK := ok.2.2.2.2.2.1.1
    have hap := va_apart (own := S.2.2.1) hts hin ty hfd hnm hK hc
    obtain ⟨hS, hfc, kC, hkC, hkind⟩ := hK.1 ci _ hc
    obtain ⟨cf, kf, fi, fd, hi, hsl⟩ := hS k hk
    have hi' : s.fieldFound? C (T k).2.1 (T k).2.2.1 = some (cf, kf, fi, fd) := by rw [hdecl k hk] at hi; exact hi
    have hlay := hts _ (hin _ (u_in_lay hk))
    unfold u_lay at hlay
    have hst := (u_facts hfc hkC (u_lays hts hin hk) hi).1
    have hnf : narrow (ty k) (vv (vi v)) = vv (vi v) ∧ fits (ty k) (vv (vi v)) = true := by
      exact ⟨by rw [hte]; rfl, by rw [hte]; rfl⟩
    have hd' := hfd k hk
    have hset : ∀ H' : Heap, H'[a]? = some (cell.setSlot (G.1.2 ci k) (vv (vi v))) → H'.size = H.size → (∀ q : Nat, q ≠ a → H'[q]? = H[q]?) → rp_R G (ah_sF h a k v) H' := by
      intro H' e1 e2 e3
      refine rp_set hI.1 (a := a) rfl rfl rfl ?_ ?_ ?_ ?_ e2 e3 ?_
      · first | exact fun b _ => rfl | exact fun b hb => fu_n _ _ hb
      · first | exact fun b _ => rfl | exact fun b hb => fu_n _ _ hb
      · first | exact fun b _ => rfl | exact fun b hb => fu_n _ _ hb
      · first | exact fun b _ => rfl | exact fun b hb => fu_n _ _ hb
      · unfold rp_at
        have hT' : ah_T (ah_sF h a k v) a = 10 + ci := hT
        rw [hT', if_neg (by omega), if_neg (by omega), if_neg (by omega), if_neg (by omega), show 10 + ci - 10 = ci by omega, hN]
        refine t_OB.to (V := updV (rp_V h a ci) k (vv (vi v))) ⟨_, e1, q2, q3, t_set q4 hap hk _⟩ (fun j hj => ?_)
        unfold updV
        by_cases hjk : j = k
        · subst hjk
          simp only [rp_V, hry, if_true]
          rw [show ah_F (ah_sF h a j v) a j = v by simp [ah_F, ah_sF, fu]]
          exact (hty _ _).symm
        · rw [if_neg hjk]
          simp only [rp_V]
          rw [show ah_F (ah_sF h a k v) a j = ah_F h a j by simp [ah_F, ah_sF, fu, hjk]]
          rfl
    rw [if_neg (by rw [hfin]; decide)] at hlay
    have h6 := u_store hfc hkC hkind hlay hi hd' hnf.1 hnf.2
    refine W.putK ok.1 ok.2.1 (f := fd) ⟨ok.2.2.2.1, (ok.2.2.2.2.1 _ hlink), ⟨_, _, _, hi'⟩, hst⟩ (by rw [q2]; exact h6) q1 q3 (by rw [hsl]; exact k2_hasslot (q4 k hk)) rfl rfl hd fun H' e1 e2 e3 => ?_
    rw [hsl] at e1 ⊢
    exact g ok _ H' _ ls r ⟨hset H' e1 e2 e3, hI.2.1.put e2 e3 (hI.2.2 a (by rw [hT]; omega)), hI.2.2⟩ hl hf' he
  · cases hv
theorem gg_siN {ci k idx N : Nat} {C : String} {T : u_T} {ty : Nat → FieldType} {x0 : Option Nat} {v : Int} {α : Type} {k1 : Unit → MO α} {kk : α → MO ρ} (cf : cf_K ci C T N ty) (hk : k < N) (hte : ty k = .int) (hty : ∀ x p, rp_v (ty k) x p = .int (Int32.ofInt x)) (hfin : (T k).2.2.2 = false) (pc' : Nat) (hp : pc + 3 = pc') (hlink : (S.2.2.1, idx, C, (T k).2.1, (T k).2.2.1, "KeptVersions") ∈ kn_nF) (hd : decode S.1 pc = .ok (.putfield idx, 3)) (g : GG S K enc cs sl pc' L st (mo_b (k1 ()) kk)) : GG S K enc cs sl pc L (vi v :: vr x0 :: st) (mo_b (mo_b (op_si ci x0 k v) k1) kk) := by
  subst hp
  rw [mo_assoc]
  obtain ⟨p, l, e, R, s, m, args, below, meth, c, G, h0, hf, rf⟩ := K
  intro ok h H locs ls r hI hl hf' he
  obtain ⟨a, rfl, hf2⟩ := mo_on_inv hf'
  clear hf'
  obtain ⟨u, h1, hv, hf'⟩ := mo_b_inv hf2
  try dsimp only at hv
  split at hv
  · rename_i hT
    cases hv
    skip
    obtain ⟨hc, hin, hfd, hnm, hN, hry, hdecl⟩ := cf
    obtain ⟨cell, q1, q2, q3, q4⟩ := rp_O hI.1 hT
    rw [hN] at q4
    have hts := ok.2.2.2.2.1
    have hK := ok.2.2.2.2.2.1.1
    have hap := va_apart (own := S.2.2.1) hts hin ty hfd hnm hK hc
    obtain ⟨hS, hfc, kC, hkC, hkind⟩ := hK.1 ci _ hc
    obtain ⟨cf, kf, fi, fd, hi, hsl⟩ := hS k hk
    have hi' : s.fieldFound? C (T k).2.1 (T k).2.2.1 = some (cf, kf, fi, fd) := by rw [hdecl k hk] at hi; exact hi
    have hlay := hts _ (hin _ (u_in_lay hk))
    unfold u_lay at hlay
    have hst := (u_facts hfc hkC (u_lays hts hin hk) hi).1
    have hnf : narrow (ty k) (vv (vi v)) = vv (vi v) ∧ fits (ty k) (vv (vi v)) = true := by
      exact ⟨by rw [hte]; rfl, by rw [hte]; rfl⟩
    have hd' := hfd k hk
    have hset : ∀ H' : Heap, H'[a]? = some (cell.setSlot (G.1.2 ci k) (vv (vi v))) → H'.size = H.size → (∀ q : Nat, q ≠ a → H'[q]? = H[q]?) → rp_R G (ah_sF h a k v) H' := by
      intro H' e1 e2 e3
      refine rp_set hI.1 (a := a) rfl rfl rfl ?_ ?_ ?_ ?_ e2 e3 ?_
      · first | exact fun b _ => rfl | exact fun b hb => fu_n _ _ hb
      · first | exact fun b _ => rfl | exact fun b hb => fu_n _ _ hb
      · first | exact fun b _ => rfl | exact fun b hb => fu_n _ _ hb
      · first | exact fun b _ => rfl | exact fun b hb => fu_n _ _ hb
      · unfold rp_at
        have hT' : ah_T (ah_sF h a k v) a = 10 + ci := hT
        rw [hT', if_neg (by omega), if_neg (by omega), if_neg (by omega), if_neg (by omega), show 10 + ci - 10 = ci by omega, hN]
        refine t_OB.to (V := updV (rp_V h a ci) k (vv (vi v))) ⟨_, e1, q2, q3, t_set q4 hap hk _⟩ (fun j hj => ?_)
        unfold updV
        by_cases hjk : j = k
        · subst hjk
          simp only [rp_V, hry, if_true]
          rw [show ah_F (ah_sF h a j v) a j = v by simp [ah_F, ah_sF, fu]]
          exact (hty _ _).symm
        · rw [if_neg hjk]
          simp only [rp_V]
          rw [show ah_F (ah_sF h a k v) a j = ah_F h a j by simp [ah_F, ah_sF, fu, hjk]]
          rfl
    rw [if_neg (by rw [hfin]; decide)] at hlay
    have h6 := u_store hfc hkC hkind hlay hi hd' hnf.1 hnf.2
    refine va_WputK ok.1 ok.2.1 (f := fd) ok.2.2.2.1 (va_Nw.use rfl (ok.2.2.2.2.2.1.2.1 _ hlink)) hi' hst (by rw [q2]; exact h6) q1 q3 (by rw [hsl]; exact k2_hasslot (q4 k hk)) rfl rfl hd fun H' e1 e2 e3 => ?_
    rw [hsl] at e1 ⊢
    exact g ok _ H' _ ls r ⟨hset H' e1 e2 e3, hI.2.1.put e2 e3 (hI.2.2 a (by rw [hT]; omega)), hI.2.2⟩ hl hf' he
  · cases hv
theorem gg_siF {ci k idx N : Nat} {C : String} {T : u_T} {ty : Nat → FieldType} {x0 : Option Nat} {v : Int} {α : Type} {k1 : Unit → MO α} {kk : α → MO ρ} (cf : cf_K ci C T N ty) (hk : k < N) (hte : ty k = .int) (hty : ∀ x p, rp_v (ty k) x p = .int (Int32.ofInt x)) (hfin : (T k).2.2.2 = true) (hini : S.2.2.2.1 = true) (hown : S.2.2.1 = C) (pc' : Nat) (hp : pc + 3 = pc') (hlink : Cond.fieldLink S.2.2.1 idx C (T k).2.1 (T k).2.2.1 ∈ tb_G) (hd : decode S.1 pc = .ok (.putfield idx, 3)) (g : GG S K enc cs sl pc' L st (mo_b (k1 ()) kk)) : GG S K enc cs sl pc L (vi v :: vr x0 :: st) (mo_b (mo_b (op_si ci x0 k v) k1) kk) := by
  subst hp
  rw [mo_assoc]
  obtain ⟨p, l, e, R, s, m, args, below, meth, c, G, h0, hf, rf⟩ := K
  intro ok h H locs ls r hI hl hf' he
  obtain ⟨a, rfl, hf2⟩ := mo_on_inv hf'
  clear hf'
  obtain ⟨u, h1, hv, hf'⟩ := mo_b_inv hf2
  try dsimp only at hv
  split at hv
  · rename_i hT
    cases hv
    skip
    obtain ⟨hc, hin, hfd, hnm, hN, hry, hdecl⟩ := cf
    obtain ⟨cell, q1, q2, q3, q4⟩ := rp_O hI.1 hT
    rw [hN] at q4
    have hts := ok.2.2.2.2.1
    have hK := ok.2.2.2.2.2.1.1
    have hap := va_apart (own := S.2.2.1) hts hin ty hfd hnm hK hc
    obtain ⟨hS, hfc, kC, hkC, hkind⟩ := hK.1 ci _ hc
    obtain ⟨cf, kf, fi, fd, hi, hsl⟩ := hS k hk
    have hi' : s.fieldFound? C (T k).2.1 (T k).2.2.1 = some (cf, kf, fi, fd) := by rw [hdecl k hk] at hi; exact hi
    have hlay := hts _ (hin _ (u_in_lay hk))
    unfold u_lay at hlay
    have hst := (u_facts hfc hkC (u_lays hts hin hk) hi).1
    have hnf : narrow (ty k) (vv (vi v)) = vv (vi v) ∧ fits (ty k) (vv (vi v)) = true := by
      exact ⟨by rw [hte]; rfl, by rw [hte]; rfl⟩
    have hd' := hfd k hk
    have hset : ∀ H' : Heap, H'[a]? = some (cell.setSlot (G.1.2 ci k) (vv (vi v))) → H'.size = H.size → (∀ q : Nat, q ≠ a → H'[q]? = H[q]?) → rp_R G (ah_sF h a k v) H' := by
      intro H' e1 e2 e3
      refine rp_set hI.1 (a := a) rfl rfl rfl ?_ ?_ ?_ ?_ e2 e3 ?_
      · first | exact fun b _ => rfl | exact fun b hb => fu_n _ _ hb
      · first | exact fun b _ => rfl | exact fun b hb => fu_n _ _ hb
      · first | exact fun b _ => rfl | exact fun b hb => fu_n _ _ hb
      · first | exact fun b _ => rfl | exact fun b hb => fu_n _ _ hb
      · unfold rp_at
        have hT' : ah_T (ah_sF h a k v) a = 10 + ci := hT
        rw [hT', if_neg (by omega), if_neg (by omega), if_neg (by omega), if_neg (by omega), show 10 + ci - 10 = ci by omega, hN]
        refine t_OB.to (V := updV (rp_V h a ci) k (vv (vi v))) ⟨_, e1, q2, q3, t_set q4 hap hk _⟩ (fun j hj => ?_)
        unfold updV
        by_cases hjk : j = k
        · subst hjk
          simp only [rp_V, hry, if_true]
          rw [show ah_F (ah_sF h a j v) a j = v by simp [ah_F, ah_sF, fu]]
          exact (hty _ _).symm
        · rw [if_neg hjk]
          simp only [rp_V]
          rw [show ah_F (ah_sF h a k v) a j = ah_F h a j by simp [ah_F, ah_sF, fu, hjk]]
          rfl
    rw [if_pos hfin] at hlay
    have hcf : m.cls = cf := by
      obtain ⟨_, _, c', _, _, _, -, -, hf2, -, -, -, hown2, -⟩ := Cond.laysFinal_spec hlay
      have e1 : c' = cf := by have := hi.symm.trans hf2; simp at this; exact this.1.symm
      rw [hdecl k hk, ← hown] at hown2
      rw [← e1]; exact Option.some.inj (ok.2.2.2.1.symm.trans hown2)
    have h6 := u_fits hfc hkC hkind (Or.inr hlay) hi hd' hnf.1 hnf.2
    refine W.putFinK ok.1 ok.2.1 ok.2.2.2.1 (ok.2.2.2.2.1 _ hlink) hi' hst hcf (ok.2.2.2.2.2.2.2.2.1 hini) (by rw [q2]; exact h6) q1 q3 (by rw [hsl]; exact k2_hasslot (q4 k hk)) rfl rfl hd fun H' e1 e2 e3 => ?_
    rw [hsl] at e1 ⊢
    exact g ok _ H' _ ls r ⟨hset H' e1 e2 e3, hI.2.1.put e2 e3 (hI.2.2 a (by rw [hT]; omega)), hI.2.2⟩ hl hf' he
  · cases hv
theorem gg_sl {ci k idx N : Nat} {C : String} {T : u_T} {ty : Nat → FieldType} {x0 : Option Nat} {v : Int} {α : Type} {k1 : Unit → MO α} {kk : α → MO ρ} (cf : cf_K ci C T N ty) (hk : k < N) (hte : ty k = .long) (hty : ∀ x p, rp_v (ty k) x p = .long (Int64.ofInt x)) (hfin : (T k).2.2.2 = false) (pc' : Nat) (hp : pc + 3 = pc') (hlink : Cond.fieldLink S.2.2.1 idx C (T k).2.1 (T k).2.2.1 ∈ tb_G) (hd : decode S.1 pc = .ok (.putfield idx, 3)) (g : GG S K enc cs sl pc' L st (mo_b (k1 ()) kk)) : GG S K enc cs sl pc L (vl v :: vr x0 :: st) (mo_b (mo_b (op_si ci x0 k v) k1) kk) := by
  subst hp
  rw [mo_assoc]
  obtain ⟨p, l, e, R, s, m, args, below, meth, c, G, h0, hf, rf⟩ := K
  intro ok h H locs ls r hI hl hf' he
  obtain ⟨a, rfl, hf2⟩ := mo_on_inv hf'
  clear hf'
  obtain ⟨u, h1, hv, hf'⟩ := mo_b_inv hf2
  try dsimp only at hv
  split at hv
  · rename_i hT
    cases hv
    skip
    obtain ⟨hc, hin, hfd, hnm, hN, hry, hdecl⟩ := cf
    obtain ⟨cell, q1, q2, q3, q4⟩ := rp_O hI.1 hT
    rw [hN] at q4
    have hts := ok.2.2.2.2.1
    have hK := ok.2.2.2.2.2.1.1
    have hap := va_apart (own := S.2.2.1) hts hin ty hfd hnm hK hc
    obtain ⟨hS, hfc, kC, hkC, hkind⟩ := hK.1 ci _ hc
    obtain ⟨cf, kf, fi, fd, hi, hsl⟩ := hS k hk
    have hi' : s.fieldFound? C (T k).2.1 (T k).2.2.1 = some (cf, kf, fi, fd) := by rw [hdecl k hk] at hi; exact hi
    have hlay := hts _ (hin _ (u_in_lay hk))
    unfold u_lay at hlay
    have hst := (u_facts hfc hkC (u_lays hts hin hk) hi).1
    have hnf : narrow (ty k) (vv (vl v)) = vv (vl v) ∧ fits (ty k) (vv (vl v)) = true := by
      exact ⟨by rw [hte]; rfl, by rw [hte]; rfl⟩
    have hd' := hfd k hk
    have hset : ∀ H' : Heap, H'[a]? = some (cell.setSlot (G.1.2 ci k) (vv (vl v))) → H'.size = H.size → (∀ q : Nat, q ≠ a → H'[q]? = H[q]?) → rp_R G (ah_sF h a k v) H' := by
      intro H' e1 e2 e3
      refine rp_set hI.1 (a := a) rfl rfl rfl ?_ ?_ ?_ ?_ e2 e3 ?_
      · first | exact fun b _ => rfl | exact fun b hb => fu_n _ _ hb
      · first | exact fun b _ => rfl | exact fun b hb => fu_n _ _ hb
      · first | exact fun b _ => rfl | exact fun b hb => fu_n _ _ hb
      · first | exact fun b _ => rfl | exact fun b hb => fu_n _ _ hb
      · unfold rp_at
        have hT' : ah_T (ah_sF h a k v) a = 10 + ci := hT
        rw [hT', if_neg (by omega), if_neg (by omega), if_neg (by omega), if_neg (by omega), show 10 + ci - 10 = ci by omega, hN]
        refine t_OB.to (V := updV (rp_V h a ci) k (vv (vl v))) ⟨_, e1, q2, q3, t_set q4 hap hk _⟩ (fun j hj => ?_)
        unfold updV
        by_cases hjk : j = k
        · subst hjk
          simp only [rp_V, hry, if_true]
          rw [show ah_F (ah_sF h a j v) a j = v by simp [ah_F, ah_sF, fu]]
          exact (hty _ _).symm
        · rw [if_neg hjk]
          simp only [rp_V]
          rw [show ah_F (ah_sF h a k v) a j = ah_F h a j by simp [ah_F, ah_sF, fu, hjk]]
          rfl
    rw [if_neg (by rw [hfin]; decide)] at hlay
    have h6 := u_store hfc hkC hkind hlay hi hd' hnf.1 hnf.2
    refine W.putK ok.1 ok.2.1 (f := fd) ⟨ok.2.2.2.1, (ok.2.2.2.2.1 _ hlink), ⟨_, _, _, hi'⟩, hst⟩ (by rw [q2]; exact h6) q1 q3 (by rw [hsl]; exact k2_hasslot (q4 k hk)) rfl rfl hd fun H' e1 e2 e3 => ?_
    rw [hsl] at e1 ⊢
    exact g ok _ H' _ ls r ⟨hset H' e1 e2 e3, hI.2.1.put e2 e3 (hI.2.2 a (by rw [hT]; omega)), hI.2.2⟩ hl hf' he
  · cases hv
theorem gg_sz {ci k idx N : Nat} {C : String} {T : u_T} {ty : Nat → FieldType} {x0 : Option Nat} {v : Int} {α : Type} {k1 : Unit → MO α} {kk : α → MO ρ} (cf : cf_K ci C T N ty) (hk : k < N) (hte : ty k = .boolean) (hty : ∀ x p, rp_v (ty k) x p = .int (Int32.ofInt x)) (hfin : (T k).2.2.2 = false) (pc' : Nat) (hp : pc + 3 = pc') (hlink : Cond.fieldLink S.2.2.1 idx C (T k).2.1 (T k).2.2.1 ∈ tb_G) (hd : decode S.1 pc = .ok (.putfield idx, 3)) (g : GG S K enc cs sl pc' L st (mo_b (k1 ()) kk)) : GG S K enc cs sl pc L (vi v :: vr x0 :: st) (mo_b (mo_b (op_sz ci x0 k v) k1) kk) := by
  subst hp
  rw [mo_assoc]
  obtain ⟨p, l, e, R, s, m, args, below, meth, c, G, h0, hf, rf⟩ := K
  intro ok h H locs ls r hI hl hf' he
  obtain ⟨a, rfl, hf2⟩ := mo_on_inv hf'
  clear hf'
  obtain ⟨u, h1, hv, hf'⟩ := mo_b_inv hf2
  try dsimp only at hv
  split at hv
  · rename_i hT
    cases hv
    obtain ⟨hT, hz⟩ := hT
    obtain ⟨hc, hin, hfd, hnm, hN, hry, hdecl⟩ := cf
    obtain ⟨cell, q1, q2, q3, q4⟩ := rp_O hI.1 hT
    rw [hN] at q4
    have hts := ok.2.2.2.2.1
    have hK := ok.2.2.2.2.2.1.1
    have hap := va_apart (own := S.2.2.1) hts hin ty hfd hnm hK hc
    obtain ⟨hS, hfc, kC, hkC, hkind⟩ := hK.1 ci _ hc
    obtain ⟨cf, kf, fi, fd, hi, hsl⟩ := hS k hk
    have hi' : s.fieldFound? C (T k).2.1 (T k).2.2.1 = some (cf, kf, fi, fd) := by rw [hdecl k hk] at hi; exact hi
    have hlay := hts _ (hin _ (u_in_lay hk))
    unfold u_lay at hlay
    have hst := (u_facts hfc hkC (u_lays hts hin hk) hi).1
    have hnf : narrow (ty k) (vv (vi v)) = vv (vi v) ∧ fits (ty k) (vv (vi v)) = true := by
      rw [hte]; rcases hz with rfl | rfl <;> exact ⟨by decide, by decide⟩
    have hd' := hfd k hk
    have hset : ∀ H' : Heap, H'[a]? = some (cell.setSlot (G.1.2 ci k) (vv (vi v))) → H'.size = H.size → (∀ q : Nat, q ≠ a → H'[q]? = H[q]?) → rp_R G (ah_sF h a k v) H' := by
      intro H' e1 e2 e3
      refine rp_set hI.1 (a := a) rfl rfl rfl ?_ ?_ ?_ ?_ e2 e3 ?_
      · first | exact fun b _ => rfl | exact fun b hb => fu_n _ _ hb
      · first | exact fun b _ => rfl | exact fun b hb => fu_n _ _ hb
      · first | exact fun b _ => rfl | exact fun b hb => fu_n _ _ hb
      · first | exact fun b _ => rfl | exact fun b hb => fu_n _ _ hb
      · unfold rp_at
        have hT' : ah_T (ah_sF h a k v) a = 10 + ci := hT
        rw [hT', if_neg (by omega), if_neg (by omega), if_neg (by omega), if_neg (by omega), show 10 + ci - 10 = ci by omega, hN]
        refine t_OB.to (V := updV (rp_V h a ci) k (vv (vi v))) ⟨_, e1, q2, q3, t_set q4 hap hk _⟩ (fun j hj => ?_)
        unfold updV
        by_cases hjk : j = k
        · subst hjk
          simp only [rp_V, hry, if_true]
          rw [show ah_F (ah_sF h a j v) a j = v by simp [ah_F, ah_sF, fu]]
          exact (hty _ _).symm
        · rw [if_neg hjk]
          simp only [rp_V]
          rw [show ah_F (ah_sF h a k v) a j = ah_F h a j by simp [ah_F, ah_sF, fu, hjk]]
          rfl
    rw [if_neg (by rw [hfin]; decide)] at hlay
    have h6 := u_store hfc hkC hkind hlay hi hd' hnf.1 hnf.2
    refine W.putK ok.1 ok.2.1 (f := fd) ⟨ok.2.2.2.1, (ok.2.2.2.2.1 _ hlink), ⟨_, _, _, hi'⟩, hst⟩ (by rw [q2]; exact h6) q1 q3 (by rw [hsl]; exact k2_hasslot (q4 k hk)) rfl rfl hd fun H' e1 e2 e3 => ?_
    rw [hsl] at e1 ⊢
    exact g ok _ H' _ ls r ⟨hset H' e1 e2 e3, hI.2.1.put e2 e3 (hI.2.2 a (by rw [hT]; omega)), hI.2.2⟩ hl hf' he
  · cases hv
theorem gg_sr {ci k idx N : Nat} {C : String} {T : u_T} {ty : Nat → FieldType} {x0 : Option Nat} {v : Option Nat} {α : Type} {k1 : Unit → MO α} {kk : α → MO ρ} (cf : cf_K ci C T N ty) (hk : k < N) (hte : (∃ t, ty k = .array t) ∨ ∃ n, ty k = .object n) (hty : ∀ x p, rp_v (ty k) x p = va_rf p) (hfin : (T k).2.2.2 = false) (pc' : Nat) (hp : pc + 3 = pc') (hlink : Cond.fieldLink S.2.2.1 idx C (T k).2.1 (T k).2.2.1 ∈ tb_G) (hd : decode S.1 pc = .ok (.putfield idx, 3)) (g : GG S K enc cs sl pc' L st (mo_b (k1 ()) kk)) : GG S K enc cs sl pc L (vr v :: vr x0 :: st) (mo_b (mo_b (op_sr ci x0 k v) k1) kk) := by
  subst hp
  rw [mo_assoc]
  obtain ⟨p, l, e, R, s, m, args, below, meth, c, G, h0, hf, rf⟩ := K
  intro ok h H locs ls r hI hl hf' he
  obtain ⟨a, rfl, hf2⟩ := mo_on_inv hf'
  clear hf'
  obtain ⟨u, h1, hv, hf'⟩ := mo_b_inv hf2
  try dsimp only at hv
  split at hv
  · rename_i hT
    cases hv
    skip
    obtain ⟨hc, hin, hfd, hnm, hN, hry, hdecl⟩ := cf
    obtain ⟨cell, q1, q2, q3, q4⟩ := rp_O hI.1 hT
    rw [hN] at q4
    have hts := ok.2.2.2.2.1
    have hK := ok.2.2.2.2.2.1.1
    have hap := va_apart (own := S.2.2.1) hts hin ty hfd hnm hK hc
    obtain ⟨hS, hfc, kC, hkC, hkind⟩ := hK.1 ci _ hc
    obtain ⟨cf, kf, fi, fd, hi, hsl⟩ := hS k hk
    have hi' : s.fieldFound? C (T k).2.1 (T k).2.2.1 = some (cf, kf, fi, fd) := by rw [hdecl k hk] at hi; exact hi
    have hlay := hts _ (hin _ (u_in_lay hk))
    unfold u_lay at hlay
    have hst := (u_facts hfc hkC (u_lays hts hin hk) hi).1
    have hnf : narrow (ty k) (vv (vr v)) = vv (vr v) ∧ fits (ty k) (vv (vr v)) = true := by
      rcases hte with ⟨t, hte⟩ | ⟨t, hte⟩ <;> rw [hte] <;> cases v <;> exact ⟨rfl, rfl⟩
    have hd' := hfd k hk
    have hset : ∀ H' : Heap, H'[a]? = some (cell.setSlot (G.1.2 ci k) (vv (vr v))) → H'.size = H.size → (∀ q : Nat, q ≠ a → H'[q]? = H[q]?) → rp_R G (ah_sP h a k v) H' := by
      intro H' e1 e2 e3
      refine rp_set hI.1 (a := a) rfl rfl rfl ?_ ?_ ?_ ?_ e2 e3 ?_
      · first | exact fun b _ => rfl | exact fun b hb => fu_n _ _ hb
      · first | exact fun b _ => rfl | exact fun b hb => fu_n _ _ hb
      · first | exact fun b _ => rfl | exact fun b hb => fu_n _ _ hb
      · first | exact fun b _ => rfl | exact fun b hb => fu_n _ _ hb
      · unfold rp_at
        have hT' : ah_T (ah_sP h a k v) a = 10 + ci := hT
        rw [hT', if_neg (by omega), if_neg (by omega), if_neg (by omega), if_neg (by omega), show 10 + ci - 10 = ci by omega, hN]
        refine t_OB.to (V := updV (rp_V h a ci) k (vv (vr v))) ⟨_, e1, q2, q3, t_set q4 hap hk _⟩ (fun j hj => ?_)
        unfold updV
        by_cases hjk : j = k
        · subst hjk
          simp only [rp_V, hry, if_true]
          rw [show ah_P (ah_sP h a j v) a j = v by simp [ah_P, ah_sP, fu]]
          exact (hty _ _).symm
        · rw [if_neg hjk]
          simp only [rp_V]
          rw [show ah_P (ah_sP h a k v) a j = ah_P h a j by simp [ah_P, ah_sP, fu, hjk]]
          rfl
    rw [if_neg (by rw [hfin]; decide)] at hlay
    have h6 := u_store hfc hkC hkind hlay hi hd' hnf.1 hnf.2
    refine W.putK ok.1 ok.2.1 (f := fd) ⟨ok.2.2.2.1, (ok.2.2.2.2.1 _ hlink), ⟨_, _, _, hi'⟩, hst⟩ (by rw [q2]; exact h6) q1 q3 (by rw [hsl]; exact k2_hasslot (q4 k hk)) rfl rfl hd fun H' e1 e2 e3 => ?_
    rw [hsl] at e1 ⊢
    exact g ok _ H' _ ls r ⟨hset H' e1 e2 e3, hI.2.1.put e2 e3 (hI.2.2 a (by rw [hT]; omega)), hI.2.2⟩ hl hf' he
  · cases hv
theorem gg_srF {ci k idx N : Nat} {C : String} {T : u_T} {ty : Nat → FieldType} {x0 : Option Nat} {v : Option Nat} {α : Type} {k1 : Unit → MO α} {kk : α → MO ρ} (cf : cf_K ci C T N ty) (hk : k < N) (hte : (∃ t, ty k = .array t) ∨ ∃ n, ty k = .object n) (hty : ∀ x p, rp_v (ty k) x p = va_rf p) (hfin : (T k).2.2.2 = true) (hini : S.2.2.2.1 = true) (hown : S.2.2.1 = C) (pc' : Nat) (hp : pc + 3 = pc') (hlink : Cond.fieldLink S.2.2.1 idx C (T k).2.1 (T k).2.2.1 ∈ tb_G) (hd : decode S.1 pc = .ok (.putfield idx, 3)) (g : GG S K enc cs sl pc' L st (mo_b (k1 ()) kk)) : GG S K enc cs sl pc L (vr v :: vr x0 :: st) (mo_b (mo_b (op_sr ci x0 k v) k1) kk) := by
  subst hp
  rw [mo_assoc]
  obtain ⟨p, l, e, R, s, m, args, below, meth, c, G, h0, hf, rf⟩ := K
  intro ok h H locs ls r hI hl hf' he
  obtain ⟨a, rfl, hf2⟩ := mo_on_inv hf'
  clear hf'
  obtain ⟨u, h1, hv, hf'⟩ := mo_b_inv hf2
  try dsimp only at hv
  split at hv
  · rename_i hT
    cases hv
    skip
    obtain ⟨hc, hin, hfd, hnm, hN, hry, hdecl⟩ := cf
    obtain ⟨cell, q1, q2, q3, q4⟩ := rp_O hI.1 hT
    rw [hN] at q4
    have hts := ok.2.2.2.2.1
    have hK := ok.2.2.2.2.2.1.1
    have hap := va_apart (own := S.2.2.1) hts hin ty hfd hnm hK hc
    obtain ⟨hS, hfc, kC, hkC, hkind⟩ := hK.1 ci _ hc
    obtain ⟨cf, kf, fi, fd, hi, hsl⟩ := hS k hk
    have hi' : s.fieldFound? C (T k).2.1 (T k).2.2.1 = some (cf, kf, fi, fd) := by rw [hdecl k hk] at hi; exact hi
    have hlay := hts _ (hin _ (u_in_lay hk))
    unfold u_lay at hlay
    have hst := (u_facts hfc hkC (u_lays hts hin hk) hi).1
    have hnf : narrow (ty k) (vv (vr v)) = vv (vr v) ∧ fits (ty k) (vv (vr v)) = true := by
      rcases hte with ⟨t, hte⟩ | ⟨t, hte⟩ <;> rw [hte] <;> cases v <;> exact ⟨rfl, rfl⟩
    have hd' := hfd k hk
    have hset : ∀ H' : Heap, H'[a]? = some (cell.setSlot (G.1.2 ci k) (vv (vr v))) → H'.size = H.size → (∀ q : Nat, q ≠ a → H'[q]? = H[q]?) → rp_R G (ah_sP h a k v) H' := by
      intro H' e1 e2 e3
      refine rp_set hI.1 (a := a) rfl rfl rfl ?_ ?_ ?_ ?_ e2 e3 ?_
      · first | exact fun b _ => rfl | exact fun b hb => fu_n _ _ hb
      · first | exact fun b _ => rfl | exact fun b hb => fu_n _ _ hb
      · first | exact fun b _ => rfl | exact fun b hb => fu_n _ _ hb
      · first | exact fun b _ => rfl | exact fun b hb => fu_n _ _ hb
      · unfold rp_at
        have hT' : ah_T (ah_sP h a k v) a = 10 + ci := hT
        rw [hT', if_neg (by omega), if_neg (by omega), if_neg (by omega), if_neg (by omega), show 10 + ci - 10 = ci by omega, hN]
        refine t_OB.to (V := updV (rp_V h a ci) k (vv (vr v))) ⟨_, e1, q2, q3, t_set q4 hap hk _⟩ (fun j hj => ?_)
        unfold updV
        by_cases hjk : j = k
        · subst hjk
          simp only [rp_V, hry, if_true]
          rw [show ah_P (ah_sP h a j v) a j = v by simp [ah_P, ah_sP, fu]]
          exact (hty _ _).symm
        · rw [if_neg hjk]
          simp only [rp_V]
          rw [show ah_P (ah_sP h a k v) a j = ah_P h a j by simp [ah_P, ah_sP, fu, hjk]]
          rfl
    rw [if_pos hfin] at hlay
    have hcf : m.cls = cf := by
      obtain ⟨_, _, c', _, _, _, -, -, hf2, -, -, -, hown2, -⟩ := Cond.laysFinal_spec hlay
      have e1 : c' = cf := by have := hi.symm.trans hf2; simp at this; exact this.1.symm
      rw [hdecl k hk, ← hown] at hown2
      rw [← e1]; exact Option.some.inj (ok.2.2.2.1.symm.trans hown2)
    have h6 := u_fits hfc hkC hkind (Or.inr hlay) hi hd' hnf.1 hnf.2
    refine W.putFinK ok.1 ok.2.1 ok.2.2.2.1 (ok.2.2.2.2.1 _ hlink) hi' hst hcf (ok.2.2.2.2.2.2.2.2.1 hini) (by rw [q2]; exact h6) q1 q3 (by rw [hsl]; exact k2_hasslot (q4 k hk)) rfl rfl hd fun H' e1 e2 e3 => ?_
    rw [hsl] at e1 ⊢
    exact g ok _ H' _ ls r ⟨hset H' e1 e2 e3, hI.2.1.put e2 e3 (hI.2.2 a (by rw [hT]; omega)), hI.2.2⟩ hl hf' he
  · cases hv
end OBJ
