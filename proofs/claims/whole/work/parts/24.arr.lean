section ARR
variable {ρ : Type} {S : ST} {K : CX} {enc : ρ → Option Value} {cs sl pc : Nat} {L : List (Nat × VV)} {st : List VV} {f : MO ρ}
theorem gg_alen {x0 : Option Nat} {α : Type} {k1 : Int → MO α} {kk : α → MO ρ} (pc' : Nat) (hp : pc + 1 = pc') (hd : decode S.1 pc = .ok (.arraylength, 1)) (g : ∀ x : Int, GG S K enc cs sl pc' L (vi x :: st) (mo_b (k1 x) kk)) : GG S K enc cs sl pc L (vr x0 :: st) (mo_b (mo_b (op_al x0) k1) kk) := by
  subst hp
  rw [mo_assoc]
  obtain ⟨p, l, e, R, s, m, args, below, meth, c, G, h0, hf, rf⟩ := K
  intro ok h H locs ls r hI hl hf' he
  obtain ⟨a, rfl, hf2⟩ := mo_on_inv hf'
  clear hf'
  obtain ⟨v, h1, hv, hf'⟩ := mo_b_inv hf2
  try dsimp only at hv
  split at hv
  · rename_i hT
    cases hv
    have hK := ok.2.2.2.2.2.1.1.2
    have e0 : ∀ n : Nat, (n.toInt32 : Int32) = Int32.ofInt (n : Int) := fun n => (Int32.ofInt_eq_ofNat (n := n)).symm
    rcases hT with hT | hT | hT
    · exact W.alen (ty := .int) (n := Int32.ofInt (ah_N h a : Int)) ok.1 ok.2.1 (rp_1 hI.1 hT) ((hK 0 _ rfl).1 _ _) (by rw [arrV_size]; exact e0 _) rfl rfl hd (g _ ok h H locs ls r hI hl hf' he)
    · exact W.alen (ty := .object RX5) (n := Int32.ofInt (ah_N h a : Int)) ok.1 ok.2.1 (rp_2 hI.1 hT) ((hK 1 _ rfl).1 _ _) (by rw [arrV_size]; exact e0 _) rfl rfl hd (g _ ok h H locs ls r hI hl hf' he)
    · exact W.alen (ty := .object RX3) (n := Int32.ofInt (ah_N h a : Int)) ok.1 ok.2.1 (rp_3 hI.1 hT) ((hK 2 _ rfl).1 _ _) (by rw [arrV_size]; exact e0 _) rfl rfl hd (g _ ok h H locs ls r hI hl hf' he)
  · cases hv
theorem gg_ld {x0 : Option Nat} {i : Int} {α : Type} {k1 : Int → MO α} {kk : α → MO ρ} (pc' : Nat) (hp : pc + 1 = pc') (hd : decode S.1 pc = .ok (.iaload, 1)) (g : ∀ x : Int, GG S K enc cs sl pc' L (vi x :: st) (mo_b (k1 x) kk)) : GG S K enc cs sl pc L (vi i :: vr x0 :: st) (mo_b (mo_b (op_ld x0 i) k1) kk) := by
  subst hp
  rw [mo_assoc]
  obtain ⟨p, l, e, R, s, m, args, below, meth, c, G, h0, hf, rf⟩ := K
  intro ok h H locs ls r hI hl hf' he
  obtain ⟨a, rfl, hf2⟩ := mo_on_inv hf'
  clear hf'
  obtain ⟨v, h1, hv, hf'⟩ := mo_b_inv hf2
  try dsimp only at hv
  split at hv
  · rename_i hT
    cases hv
    obtain ⟨hT, i0, i1, i2⟩ := hT
    have hK := ok.2.2.2.2.2.1.1.2
    refine W.iald (v := vv (vi (ah_I h a i))) ok.1 ok.2.1 (rp_1 hI.1 hT) ((hK 0 _ rfl).1 _ _) (fun q => by cases q) (by rw [arrV_size]; exact nm_in i0 i1 i2) ?_ rfl rfl hd (g _ ok h H locs ls r hI hl hf' he)
    rw [nm_nat i0 i2, arrV_read _ _ (by omega)]
    simp only [vv, vi, Int.toNat_of_nonneg i0]
  · cases hv
theorem gg_st {x0 : Option Nat} {i v0 : Int} {α : Type} {k1 : Unit → MO α} {kk : α → MO ρ} (pc' : Nat) (hp : pc + 1 = pc') (hd : decode S.1 pc = .ok (.iastore, 1)) (g : GG S K enc cs sl pc' L st (mo_b (k1 ()) kk)) : GG S K enc cs sl pc L (vi v0 :: vi i :: vr x0 :: st) (mo_b (mo_b (op_st x0 i v0) k1) kk) := by
  subst hp
  rw [mo_assoc]
  obtain ⟨p, l, e, R, s, m, args, below, meth, c, G, h0, hf, rf⟩ := K
  intro ok h H locs ls r hI hl hf' he
  obtain ⟨a, rfl, hf2⟩ := mo_on_inv hf'
  clear hf'
  obtain ⟨v, h1, hv, hf'⟩ := mo_b_inv hf2
  try dsimp only at hv
  split at hv
  · rename_i hT
    cases hv
    obtain ⟨hT, i0, i1, i2⟩ := hT
    have hK := ok.2.2.2.2.2.1.1.2
    refine W.iast ok.1 ok.2.1 (rp_1 hI.1 hT) ((hK 0 _ rfl).1 _ _) (fun q => by cases q) (by rw [arrV_size]; exact nm_in i0 i1 i2) rfl rfl hd fun H' e1 e2 e3 => ?_
    refine g ok (ah_sI h a i v0) H' _ ls r ⟨?_, hI.2.1.put e2 e3 (hI.2.2 a (by rw [hT]; omega)), hI.2.2⟩ hl hf' he
    refine rp_set hI.1 (a := a) rfl rfl rfl (fun b _ => rfl) (fun b _ => rfl) (fun b hb => fu_n _ _ hb) (fun b _ => rfl) e2 e3 ?_
    unfold rp_at
    have hT' : ah_T (ah_sI h a i v0) a = 1 := hT
    rw [hT', if_neg (by omega), if_pos rfl, e1, arrV_store]
    congr 2
    funext j
    rw [nm_nat i0 i2]
    unfold updV
    by_cases hj : j = i.toNat
    · subst hj
      rw [if_pos rfl, Int.toNat_of_nonneg i0]
      simp [ah_I, ah_sI, fu]
    · rw [if_neg hj]
      have : (j : Int) ≠ i := by omega
      simp [ah_I, ah_sI, fu, this]
  · cases hv
theorem gg_rl2 {x0 : Option Nat} {i : Int} {α : Type} {k1 : Option Nat → MO α} {kk : α → MO ρ} (pc' : Nat) (hp : pc + 1 = pc') (hd : decode S.1 pc = .ok (.aaload, 1)) (g : ∀ x : Option Nat, GG S K enc cs sl pc' L (vr x :: st) (mo_b (k1 x) kk)) : GG S K enc cs sl pc L (vi i :: vr x0 :: st) (mo_b (mo_b (op_rl 2 x0 i) k1) kk) := by
  subst hp
  rw [mo_assoc]
  obtain ⟨p, l, e, R, s, m, args, below, meth, c, G, h0, hf, rf⟩ := K
  intro ok h H locs ls r hI hl hf' he
  obtain ⟨a, rfl, hf2⟩ := mo_on_inv hf'
  clear hf'
  obtain ⟨v, h1, hv, hf'⟩ := mo_b_inv hf2
  try dsimp only at hv
  split at hv
  · rename_i hT
    cases hv
    obtain ⟨hT, i0, i1, i2⟩ := hT
    have hK := ok.2.2.2.2.2.1.1.2
    refine W.aald (v := vv (vr (ah_R h a i))) (ty := .object RX5) ok.1 ok.2.1 (rp_2 hI.1 hT) ((hK 1 _ rfl).1 _ _) rfl (fun q => by cases q) (by rw [arrV_size]; exact nm_in i0 i1 i2) ?_ rfl rfl hd (g _ ok h H locs ls r hI hl hf' he)
    rw [nm_nat i0 i2, arrV_read _ _ (by omega)]
    simp only [vv, vr, Int.toNat_of_nonneg i0]
  · cases hv
theorem gg_rs2 {x0 v0 : Option Nat} {i : Int} {α : Type} {k1 : Unit → MO α} {kk : α → MO ρ} (pc' : Nat) (hp : pc + 1 = pc') (hd : decode S.1 pc = .ok (.aastore, 1)) (g : GG S K enc cs sl pc' L st (mo_b (k1 ()) kk)) : GG S K enc cs sl pc L (vr v0 :: vi i :: vr x0 :: st) (mo_b (mo_b (op_rs 2 5 x0 i v0) k1) kk) := by
  subst hp
  rw [mo_assoc]
  obtain ⟨p, l, e, R, s, m, args, below, meth, c, G, h0, hf, rf⟩ := K
  intro ok h H locs ls r hI hl hf' he
  obtain ⟨b, rfl, hf1⟩ := mo_on_inv hf'
  clear hf'
  obtain ⟨a, rfl, hf2⟩ := mo_on_inv hf1
  clear hf1
  obtain ⟨v, h1, hv, hf'⟩ := mo_b_inv hf2
  try dsimp only at hv
  split at hv
  · rename_i hT
    cases hv
    obtain ⟨hT, i0, i1, i2, hTb⟩ := hT
    have hK := ok.2.2.2.2.2.1.1
    obtain ⟨cellV, g1, g2, g3, -⟩ := rp_O hI.1 hTb
    have hcls := (hK.1 5 (RX5, TX5, rp_n 5) rfl).2
    obtain ⟨kA, comp, k1', k2, k3, -⟩ := (hK.2 1 _ rfl).2
    have hcomp : comp = G.1.1 5 := Option.some.inj (k3.symm.trans hcls.1)
    subst hcomp
    obtain ⟨kC, hkC, hkind⟩ := hcls.2
    refine W.aast ok.1 ok.2.1 (rp_2 hI.1 hT) (fun q h => by cases h) (fun h => by cases h) k1' k2 rfl hkC ⟨fun q => nm_in i0 i1 i2 (Or.inl q), by rw [arrV_size]; exact Nat.not_le.mp fun q => nm_in i0 i1 i2 (Or.inr q)⟩ g1 (fun q h => by rw [g3] at h; cases h) (by rw [g2]; exact hkC) (by rw [g2]; exact va_assign hcls) rfl rfl hd fun H' e1 e2 e3 => ?_
    refine g ok (ah_sR h a i (some b)) H' _ ls r ⟨?_, hI.2.1.put e2 e3 (hI.2.2 a (by rw [hT]; omega)), hI.2.2⟩ hl hf' he
    refine rp_set hI.1 (a := a) rfl rfl rfl (fun b _ => rfl) (fun b _ => rfl) (fun b _ => rfl) (fun b hb => fu_n _ _ hb) e2 e3 ?_
    unfold rp_at
    have hT' : ah_T (ah_sR h a i (some b)) a = 2 := hT
    rw [hT', if_neg (by omega), if_neg (by omega), if_pos rfl, e1, arrV_store]
    congr 2
    funext j
    rw [nm_nat i0 i2]
    unfold updV
    by_cases hj : j = i.toNat
    · subst hj
      rw [if_pos rfl, Int.toNat_of_nonneg i0]
      simp [ah_R, ah_sR, fu, va_rf]
    · rw [if_neg hj]
      have : (j : Int) ≠ i := by omega
      simp [ah_R, ah_sR, fu, this]
  · cases hv
theorem gg_rl3 {x0 : Option Nat} {i : Int} {α : Type} {k1 : Option Nat → MO α} {kk : α → MO ρ} (pc' : Nat) (hp : pc + 1 = pc') (hd : decode S.1 pc = .ok (.aaload, 1)) (g : ∀ x : Option Nat, GG S K enc cs sl pc' L (vr x :: st) (mo_b (k1 x) kk)) : GG S K enc cs sl pc L (vi i :: vr x0 :: st) (mo_b (mo_b (op_rl 3 x0 i) k1) kk) := by
  subst hp
  rw [mo_assoc]
  obtain ⟨p, l, e, R, s, m, args, below, meth, c, G, h0, hf, rf⟩ := K
  intro ok h H locs ls r hI hl hf' he
  obtain ⟨a, rfl, hf2⟩ := mo_on_inv hf'
  clear hf'
  obtain ⟨v, h1, hv, hf'⟩ := mo_b_inv hf2
  try dsimp only at hv
  split at hv
  · rename_i hT
    cases hv
    obtain ⟨hT, i0, i1, i2⟩ := hT
    have hK := ok.2.2.2.2.2.1.1.2
    refine W.aald (v := vv (vr (ah_R h a i))) (ty := .object RX3) ok.1 ok.2.1 (rp_3 hI.1 hT) ((hK 2 _ rfl).1 _ _) rfl (fun q => by cases q) (by rw [arrV_size]; exact nm_in i0 i1 i2) ?_ rfl rfl hd (g _ ok h H locs ls r hI hl hf' he)
    rw [nm_nat i0 i2, arrV_read _ _ (by omega)]
    simp only [vv, vr, Int.toNat_of_nonneg i0]
  · cases hv
theorem gg_rs3 {x0 v0 : Option Nat} {i : Int} {α : Type} {k1 : Unit → MO α} {kk : α → MO ρ} (pc' : Nat) (hp : pc + 1 = pc') (hd : decode S.1 pc = .ok (.aastore, 1)) (g : GG S K enc cs sl pc' L st (mo_b (k1 ()) kk)) : GG S K enc cs sl pc L (vr v0 :: vi i :: vr x0 :: st) (mo_b (mo_b (op_rs 3 3 x0 i v0) k1) kk) := by
  subst hp
  rw [mo_assoc]
  obtain ⟨p, l, e, R, s, m, args, below, meth, c, G, h0, hf, rf⟩ := K
  intro ok h H locs ls r hI hl hf' he
  obtain ⟨b, rfl, hf1⟩ := mo_on_inv hf'
  clear hf'
  obtain ⟨a, rfl, hf2⟩ := mo_on_inv hf1
  clear hf1
  obtain ⟨v, h1, hv, hf'⟩ := mo_b_inv hf2
  try dsimp only at hv
  split at hv
  · rename_i hT
    cases hv
    obtain ⟨hT, i0, i1, i2, hTb⟩ := hT
    have hK := ok.2.2.2.2.2.1.1
    obtain ⟨cellV, g1, g2, g3, -⟩ := rp_O hI.1 hTb
    have hcls := (hK.1 3 (RX3, TX3, rp_n 3) rfl).2
    obtain ⟨kA, comp, k1', k2, k3, -⟩ := (hK.2 2 _ rfl).2
    have hcomp : comp = G.1.1 3 := Option.some.inj (k3.symm.trans hcls.1)
    subst hcomp
    obtain ⟨kC, hkC, hkind⟩ := hcls.2
    refine W.aast ok.1 ok.2.1 (rp_3 hI.1 hT) (fun q h => by cases h) (fun h => by cases h) k1' k2 rfl hkC ⟨fun q => nm_in i0 i1 i2 (Or.inl q), by rw [arrV_size]; exact Nat.not_le.mp fun q => nm_in i0 i1 i2 (Or.inr q)⟩ g1 (fun q h => by rw [g3] at h; cases h) (by rw [g2]; exact hkC) (by rw [g2]; exact va_assign hcls) rfl rfl hd fun H' e1 e2 e3 => ?_
    refine g ok (ah_sR h a i (some b)) H' _ ls r ⟨?_, hI.2.1.put e2 e3 (hI.2.2 a (by rw [hT]; omega)), hI.2.2⟩ hl hf' he
    refine rp_set hI.1 (a := a) rfl rfl rfl (fun b _ => rfl) (fun b _ => rfl) (fun b _ => rfl) (fun b hb => fu_n _ _ hb) e2 e3 ?_
    unfold rp_at
    have hT' : ah_T (ah_sR h a i (some b)) a = 3 := hT
    rw [hT', if_neg (by omega), if_neg (by omega), if_neg (by omega), if_pos rfl, e1, arrV_store]
    congr 2
    funext j
    rw [nm_nat i0 i2]
    unfold updV
    by_cases hj : j = i.toNat
    · subst hj
      rw [if_pos rfl, Int.toNat_of_nonneg i0]
      simp [ah_R, ah_sR, fu, va_rf]
    · rw [if_neg hj]
      have : (j : Int) ≠ i := by omega
      simp [ah_R, ah_sR, fu, this]
  · cases hv
theorem cx_new {K : CX} {h h' : AH} {H H' : Heap} {locs : List Loc} {t : Nat} (ok : ah_S K.2.2.2.2.2.2.2.2.2.2.2.1 = K.2.2.2.2.1.heap.size) (hI : cx_I K h H locs) (hT : ah_T h' = fu (ah_T h) (ah_S h) t) (hR : rp_R K.2.2.2.2.2.2.2.2.2.2.1 h' H') (z : H'.size = H.size + 1) (o : ∀ q : Nat, q < H.size → H'[q]? = H[q]?) : cx_I K h' H' locs := by
  obtain ⟨p, l, e, R, s, m, args, below, meth, c, G, h0, hf, rf⟩ := K
  obtain ⟨i1, i2, i3⟩ := hI
  refine ⟨hR, ⟨Nat.le_trans i2.1 (by omega), fun q q1 q2 => (o q (Nat.lt_of_lt_of_le q1 i2.1)).trans (i2.2.1 q q1 q2), i2.2.2⟩, fun q hq => ?_⟩
  rw [hT] at hq
  by_cases hqs : q = ah_S h
  · right
    have e1 : ah_S h = H.size := i1.2.1
    have e2 : s.heap.size ≤ H.size := i2.1
    have e3 : ah_S h0 = s.heap.size := ok
    rw [e3, hqs, e1]; exact e2
  · rw [fu_n _ _ hqs] at hq
    exact i3 q hq
theorem gg_no {ci idx N : Nat} {C : String} {T : u_T} {ty : Nat → FieldType} {α : Type} {k1 : Option Nat → MO α} {kk : α → MO ρ} (cf : cf_K ci C T N ty) (pc' : Nat) (hp : pc + 3 = pc') (hcl : Cond.classLink S.2.2.1 idx C ∈ tb_G) (hins : Cond.instantiable C N ∈ tb_G) (hini : Cond.initialized C ∈ tb_G) (hdv : ∀ k, defaultValue (ty k) = rp_v (ty k) 0 none) (hd : decode S.1 pc = .ok (.new idx, 3)) (cs' sl' : Nat) (hz : cs + 1 = cs' ∧ sl + N = sl') (hc1 : cs' ≤ S.2.2.2.2.2.2.2.1) (hc2 : sl' ≤ S.2.2.2.2.2.2.2.2) (g : ∀ x : Option Nat, GG S K enc cs' sl' pc' L (vr x :: st) (mo_b (k1 x) kk)) : GG S K enc cs sl pc L st (mo_b (mo_b (op_no ci) k1) kk) := by
  subst hp
  obtain ⟨rfl, rfl⟩ := hz
  rw [mo_assoc]
  obtain ⟨p, l, e, R, s, m, args, below, meth, c, G, h0, hf, rf⟩ := K
  intro ok h H locs ls r hI hl hf' he
  obtain ⟨v, h1, hv, hf'⟩ := mo_b_inv hf'
  cases hv
  obtain ⟨hc, hin, hfd, hnm, hN, hry, hdecl⟩ := cf
  have hts := ok.2.2.2.2.1
  have hKn := ok.2.2.2.2.2.1.1.1 ci _ hc
  have hroom := ok.2.2.2.2.2.2.2.2.2.1
  refine W.newcK ok.1 ok.2.1 ok.2.2.2.1 (hts _ hcl) (hts _ hins) (hts _ hini) rfl hd (by rw [hroom]; exact hc1) (by rw [hroom]; exact hc2) hKn.2.1 rfl fun H1 kC hkC e1 z1 o1 => ?_
  have hs : ah_S h = H.size := hI.1.2.1
  have hcx : cx_I (p, l, e, R, s, m, args, below, meth, c, G, h0, hf, rf) (ah_nO h ci) H1 locs := by
    refine cx_new (t := 10 + ci) ok.2.2.2.2.2.2.2.2.2.2 hI rfl ?_ z1 o1
    refine rp_new hI.1 (10 + ci) rfl rfl (fun b _ => rfl) (fun b hb => fu_n _ _ hb) (fun b hb => fu_n _ _ hb) (fun b _ => rfl) (fun b _ => rfl) z1 o1 ?_
    unfold rp_at
    have hT' : ah_T (ah_nO h ci) (ah_S h) = 10 + ci := by simp [ah_T, ah_nO, fu]
    rw [hT', if_neg (by omega), if_neg (by omega), if_neg (by omega), if_neg (by omega), show 10 + ci - 10 = ci by omega, hN, hs]
    refine (u_born ty hts hin hKn hkC e1 hfd).to (fun j hj => ?_)
    rw [hdv j]
    simp only [rp_V, hry]
    rw [← hs]
    simp [ah_F, ah_P, ah_nO, fu]
  have hg := g (some (ah_S h)) ok (ah_nO h ci) H1 locs ls r hcx hl hf' he
  rw [hs] at hg
  exact hg
theorem gg_ni {i : Int} {cap : Nat} {α : Type} {k1 : Option Nat → MO α} {kk : α → MO ρ} (pc' : Nat) (hp : pc + 2 = pc') (hcl : Cond.arrayClass .int ∈ tb_G) (hd : decode S.1 pc = .ok (.newarray .int, 2)) (hcap : cap ≤ 100000) (cs' sl' : Nat) (hz : cs + 1 = cs' ∧ sl + cap = sl') (hc1 : cs' ≤ S.2.2.2.2.2.2.2.1) (hc2 : sl' ≤ S.2.2.2.2.2.2.2.2) (g : ∀ x : Option Nat, GG S K enc cs' sl' pc' L (vr x :: st) (mo_b (k1 x) kk)) : GG S K enc cs sl pc L (vi i :: st) (mo_b (mo_b (op_ni cap i) k1) kk) := by
  subst hp
  obtain ⟨rfl, rfl⟩ := hz
  rw [mo_assoc]
  obtain ⟨p, l, e, R, s, m, args, below, meth, c, G, h0, hf, rf⟩ := K
  intro ok h H locs ls r hI hl hf' he
  obtain ⟨v, h1, hv, hf'⟩ := mo_b_inv hf'
  unfold op_ni at hv
  split at hv
  · rename_i hi
    cases hv
    obtain ⟨i0, i1⟩ := hi
    have hts := ok.2.2.2.2.1
    have hroom := ok.2.2.2.2.2.2.2.2.2.1
    have hs : ah_S h = H.size := hI.1.2.1
    have hnt : i.toNat ≤ cap := by omega
    refine va_newaK (atype := .int) ok.1 ok.2.1 (hts _ hcl) rfl hd rfl (fun q => ?_) (nm_nat i0 (by omega)) ?_ (by rw [hroom]; exact hc1) (by rw [hroom]; exact Nat.le_trans (Nat.add_le_add_left hnt _) hc2) rfl fun H1 cA e1 z1 o1 hAr hNm => ?_
    · have := (nm_lt (x := i) (y := 0) ⟨by omega, by omega⟩ nm_0).mp q; omega
    · have e4 : componentBytes (newarray.typeOf .int) = 4 := rfl
      rw [e4]; omega
    · have hcA : cA = G.2.1 := Option.some.inj (hNm.symm.trans ((ok.2.2.2.2.2.1.1.2 0 _ rfl).2))
      subst hcA
      have hcx : cx_I (p, l, e, R, s, m, args, below, meth, c, G, h0, hf, rf) (ah_nI h i.toNat) H1 locs := by
        refine cx_new (t := 1) ok.2.2.2.2.2.2.2.2.2.2 hI rfl ?_ z1 o1
        refine rp_new hI.1 1 rfl rfl (fun b hb => fu_n _ _ hb) (fun b _ => rfl) (fun b _ => rfl) (fun b hb => fu_n _ _ hb) (fun b _ => rfl) z1 o1 ?_
        unfold rp_at
        have hT' : ah_T (ah_nI h i.toNat) (ah_S h) = 1 := by simp [ah_T, ah_nI, fu]
        rw [hT', if_neg (by omega), if_pos rfl]
        have eN : ah_N (ah_nI h i.toNat) (ah_S h) = i.toNat := by simp [ah_N, ah_nI, fu]
        have eI : ah_I (ah_nI h i.toNat) (ah_S h) = fun _ => 0 := by simp [ah_I, ah_nI, fu]
        rw [eN, eI, hs, e1]
        rfl
      have hg := g (some (ah_S h)) ok (ah_nI h i.toNat) H1 locs ls r hcx hl hf' he
      rw [hs] at hg
      exact W.widen (Nat.le_refl _) (Nat.add_le_add_left hnt _) hg
  · cases hv
theorem gg_nr2 {i : Int} {cap idx : Nat} {α : Type} {k1 : Option Nat → MO α} {kk : α → MO ρ} (pc' : Nat) (hp : pc + 3 = pc') (hcl : Cond.classLink S.2.2.1 idx RX5 ∈ tb_G) (hd : decode S.1 pc = .ok (.anewarray idx, 3)) (hcap : cap ≤ 100000) (cs' sl' : Nat) (hz : cs + 1 = cs' ∧ sl + cap = sl') (hc1 : cs' ≤ S.2.2.2.2.2.2.2.1) (hc2 : sl' ≤ S.2.2.2.2.2.2.2.2) (g : ∀ x : Option Nat, GG S K enc cs' sl' pc' L (vr x :: st) (mo_b (k1 x) kk)) : GG S K enc cs sl pc L (vi i :: st) (mo_b (mo_b (op_nr 2 cap i) k1) kk) := by
  subst hp
  obtain ⟨rfl, rfl⟩ := hz
  rw [mo_assoc]
  obtain ⟨p, l, e, R, s, m, args, below, meth, c, G, h0, hf, rf⟩ := K
  intro ok h H locs ls r hI hl hf' he
  obtain ⟨v, h1, hv, hf'⟩ := mo_b_inv hf'
  unfold op_nr at hv
  split at hv
  · rename_i hi
    cases hv
    obtain ⟨i0, i1⟩ := hi
    have hts := ok.2.2.2.2.1
    have hroom := ok.2.2.2.2.2.2.2.2.2.1
    have hs : ah_S h = H.size := hI.1.2.1
    have hnt : i.toNat ≤ cap := by omega
    have hcl0 : (Int32.ofInt i).toNatClampNeg = i.toNat := nm_nat i0 (by omega)
    refine W.anew ok.1 ok.2.1 ok.2.2.2.1 (hts _ hcl) (va_AO.use ok.2.2.2.2.2.1.2.2.2.1) rfl hd rfl (fun q => ?_) (by rw [hcl0]; omega) (by rw [hroom]; exact hc1) (by rw [hroom, hcl0]; exact Nat.le_trans (Nat.add_le_add_left hnt _) hc2) fun cA kA comp f1 f2 f3 f4 => ?_
    · have := (nm_lt (x := i) (y := 0) ⟨by omega, by omega⟩ nm_0).mp q; omega
    · obtain ⟨kA', comp', k1', k2', k3', k4'⟩ := (ok.2.2.2.2.2.1.1.2 1 _ rfl).2
      have hcA : cA = G.2.2.1 := Option.some.inj (f1.symm.trans k4')
      subst hcA
      rw [hcl0]
      generalize hH1 : H.push ({ cls := G.2.2.1, slots := Array.replicate i.toNat .null, vm := .none } : Cell) = H1
      have z1 : H1.size = H.size + 1 := by rw [← hH1, Array.size_push]
      have e1 : H1[H.size]? = some (arrV G.2.2.1 i.toNat (fun _ => .null)) := by rw [← hH1, Array.getElem?_push_size, ← arrV_new]
      have o1 : ∀ q : Nat, q < H.size → H1[q]? = H[q]? := fun q hq => by rw [← hH1, Array.getElem?_push, if_neg (Nat.ne_of_lt hq)]
      have hcx : cx_I (p, l, e, R, s, m, args, below, meth, c, G, h0, hf, rf) (ah_nR h 2 i.toNat) H1 locs := by
        refine cx_new (t := 2) ok.2.2.2.2.2.2.2.2.2.2 hI rfl ?_ z1 o1
        refine rp_new hI.1 2 rfl rfl (fun b hb => fu_n _ _ hb) (fun b _ => rfl) (fun b _ => rfl) (fun b _ => rfl) (fun b hb => fu_n _ _ hb) z1 o1 ?_
        unfold rp_at
        have hT' : ah_T (ah_nR h 2 i.toNat) (ah_S h) = 2 := by simp [ah_T, ah_nR, fu]
        rw [hT', if_neg (by omega), if_neg (by omega), if_pos rfl]
        have eN : ah_N (ah_nR h 2 i.toNat) (ah_S h) = i.toNat := by simp [ah_N, ah_nR, fu]
        have eI : ah_R (ah_nR h 2 i.toNat) (ah_S h) = fun _ => none := by simp [ah_R, ah_nR, fu]
        rw [eN, eI, hs, e1]
        rfl
      have hg := g (some (ah_S h)) ok (ah_nR h 2 i.toNat) H1 locs ls r hcx hl hf' he
      rw [hs] at hg
      exact W.widen (Nat.le_refl _) (Nat.add_le_add_left hnt _) hg
  · cases hv
theorem gg_nr3 {i : Int} {cap idx : Nat} {α : Type} {k1 : Option Nat → MO α} {kk : α → MO ρ} (pc' : Nat) (hp : pc + 3 = pc') (hcl : Cond.classLink S.2.2.1 idx RX3 ∈ tb_G) (hd : decode S.1 pc = .ok (.anewarray idx, 3)) (hcap : cap ≤ 100000) (cs' sl' : Nat) (hz : cs + 1 = cs' ∧ sl + cap = sl') (hc1 : cs' ≤ S.2.2.2.2.2.2.2.1) (hc2 : sl' ≤ S.2.2.2.2.2.2.2.2) (g : ∀ x : Option Nat, GG S K enc cs' sl' pc' L (vr x :: st) (mo_b (k1 x) kk)) : GG S K enc cs sl pc L (vi i :: st) (mo_b (mo_b (op_nr 3 cap i) k1) kk) := by
  subst hp
  obtain ⟨rfl, rfl⟩ := hz
  rw [mo_assoc]
  obtain ⟨p, l, e, R, s, m, args, below, meth, c, G, h0, hf, rf⟩ := K
  intro ok h H locs ls r hI hl hf' he
  obtain ⟨v, h1, hv, hf'⟩ := mo_b_inv hf'
  unfold op_nr at hv
  split at hv
  · rename_i hi
    cases hv
    obtain ⟨i0, i1⟩ := hi
    have hts := ok.2.2.2.2.1
    have hroom := ok.2.2.2.2.2.2.2.2.2.1
    have hs : ah_S h = H.size := hI.1.2.1
    have hnt : i.toNat ≤ cap := by omega
    have hcl0 : (Int32.ofInt i).toNatClampNeg = i.toNat := nm_nat i0 (by omega)
    refine W.anew ok.1 ok.2.1 ok.2.2.2.1 (hts _ hcl) (va_AO.use ok.2.2.2.2.2.1.2.2.2.2) rfl hd rfl (fun q => ?_) (by rw [hcl0]; omega) (by rw [hroom]; exact hc1) (by rw [hroom, hcl0]; exact Nat.le_trans (Nat.add_le_add_left hnt _) hc2) fun cA kA comp f1 f2 f3 f4 => ?_
    · have := (nm_lt (x := i) (y := 0) ⟨by omega, by omega⟩ nm_0).mp q; omega
    · obtain ⟨kA', comp', k1', k2', k3', k4'⟩ := (ok.2.2.2.2.2.1.1.2 2 _ rfl).2
      have hcA : cA = G.2.2.2 := Option.some.inj (f1.symm.trans k4')
      subst hcA
      rw [hcl0]
      generalize hH1 : H.push ({ cls := G.2.2.2, slots := Array.replicate i.toNat .null, vm := .none } : Cell) = H1
      have z1 : H1.size = H.size + 1 := by rw [← hH1, Array.size_push]
      have e1 : H1[H.size]? = some (arrV G.2.2.2 i.toNat (fun _ => .null)) := by rw [← hH1, Array.getElem?_push_size, ← arrV_new]
      have o1 : ∀ q : Nat, q < H.size → H1[q]? = H[q]? := fun q hq => by rw [← hH1, Array.getElem?_push, if_neg (Nat.ne_of_lt hq)]
      have hcx : cx_I (p, l, e, R, s, m, args, below, meth, c, G, h0, hf, rf) (ah_nR h 3 i.toNat) H1 locs := by
        refine cx_new (t := 3) ok.2.2.2.2.2.2.2.2.2.2 hI rfl ?_ z1 o1
        refine rp_new hI.1 3 rfl rfl (fun b hb => fu_n _ _ hb) (fun b _ => rfl) (fun b _ => rfl) (fun b _ => rfl) (fun b hb => fu_n _ _ hb) z1 o1 ?_
        unfold rp_at
        have hT' : ah_T (ah_nR h 3 i.toNat) (ah_S h) = 3 := by simp [ah_T, ah_nR, fu]
        rw [hT', if_neg (by omega), if_neg (by omega), if_neg (by omega), if_pos rfl]
        have eN : ah_N (ah_nR h 3 i.toNat) (ah_S h) = i.toNat := by simp [ah_N, ah_nR, fu]
        have eI : ah_R (ah_nR h 3 i.toNat) (ah_S h) = fun _ => none := by simp [ah_R, ah_nR, fu]
        rw [eN, eI, hs, e1]
        rfl
      have hg := g (some (ah_S h)) ok (ah_nR h 3 i.toNat) H1 locs ls r hcx hl hf' he
      rw [hs] at hg
      exact W.widen (Nat.le_refl _) (Nat.add_le_add_left hnt _) hg
  · cases hv
theorem gg_iret {x : Int} (hr : S.2.2.2.2.1 = some .int) (hd : decode S.1 pc = .ok (.ireturn, 1)) (h1 : cs ≤ S.2.2.2.2.2.2.2.1) (h2 : sl ≤ S.2.2.2.2.2.2.2.2) : GG S K en_i cs sl pc L [vi x] (mo_p x) := by
  obtain ⟨p, l, e, R, s, m, args, below, meth, c, G, h0, hf, rf⟩ := K
  intro ok h H locs ls r hI hl hf' he
  cases hf'
  refine W.widen h1 h2 ?_
  exact W.iret ok.1 ok.2.1 (by rw [ok.2.2.2.2.2.2.1]; exact hr) (fun t ht hW => ⟨by first | rw [← show _ = rf from he]; rfl | exact congrArg _ he, by rw [ht]; exact hI.1, by have := hI.2.1.F ht; exact this, hI.2.2⟩) hI.2.1.2.2 hd ok.2.2.2.2.2.2.2.1
theorem gg_lret {x : Int} (hr : S.2.2.2.2.1 = some .long) (hd : decode S.1 pc = .ok (.lreturn, 1)) (h1 : cs ≤ S.2.2.2.2.2.2.2.1) (h2 : sl ≤ S.2.2.2.2.2.2.2.2) : GG S K en_l cs sl pc L [vl x] (mo_p x) := by
  obtain ⟨p, l, e, R, s, m, args, below, meth, c, G, h0, hf, rf⟩ := K
  intro ok h H locs ls r hI hl hf' he
  cases hf'
  refine W.widen h1 h2 ?_
  exact W.lret ok.1 ok.2.1 (by rw [ok.2.2.2.2.2.2.1]; exact hr) (fun t ht hW => ⟨by first | rw [← show _ = rf from he]; rfl | exact congrArg _ he, by rw [ht]; exact hI.1, by have := hI.2.1.F ht; exact this, hI.2.2⟩) hI.2.1.2.2 hd ok.2.2.2.2.2.2.2.1
theorem gg_aret {x : Option Nat} {n : String} (hr : S.2.2.2.2.1 = some (.object n)) (hd : decode S.1 pc = .ok (.areturn, 1)) (h1 : cs ≤ S.2.2.2.2.2.2.2.1) (h2 : sl ≤ S.2.2.2.2.2.2.2.2) : GG S K en_r cs sl pc L [vr x] (mo_p x) := by
  obtain ⟨p, l, e, R, s, m, args, below, meth, c, G, h0, hf, rf⟩ := K
  intro ok h H locs ls r hI hl hf' he
  cases hf'
  refine W.widen h1 h2 ?_
  exact W.aret (rt := .object n) ok.1 ok.2.1 (by rw [ok.2.2.2.2.2.2.1]; exact hr) (Or.inl ⟨n, rfl⟩) (by cases x; exact Or.inl rfl; exact Or.inr ⟨_, rfl⟩) (fun t ht hW => ⟨by first | rw [← show _ = rf from he]; rfl | exact congrArg _ he, by rw [ht]; exact hI.1, by have := hI.2.1.F ht; exact this, hI.2.2⟩) hI.2.1.2.2 hd ok.2.2.2.2.2.2.2.1
theorem gg_vret (hr : S.2.2.2.2.1 = none) (hd : decode S.1 pc = .ok (.return_, 1)) (h1 : cs ≤ S.2.2.2.2.2.2.2.1) (h2 : sl ≤ S.2.2.2.2.2.2.2.2) : GG S K en_v cs sl pc L [] (mo_p ()) := by
  obtain ⟨p, l, e, R, s, m, args, below, meth, c, G, h0, hf, rf⟩ := K
  intro ok h H locs ls r hI hl hf' he
  cases hf'
  refine W.widen h1 h2 ?_
  exact W.vret ok.1 ok.2.1 (by rw [ok.2.2.2.2.2.2.1]; exact hr) (fun t ht hW => ⟨by first | rw [← show _ = rf from he]; rfl | exact congrArg _ he, by rw [ht]; exact hI.1, by have := hI.2.1.F ht; exact this, hI.2.2⟩) hI.2.1.2.2 hd ok.2.2.2.2.2.2.2.1
theorem gg_zret {x : Int} {α : Type} {k1 : Int → MO α} {kk : α → MO Int} (hk : ∀ z, mo_b (k1 z) kk = mo_p z) (hr : S.2.2.2.2.1 = some .boolean) (hd : decode S.1 pc = .ok (.ireturn, 1)) (h1 : cs ≤ S.2.2.2.2.2.2.2.1) (h2 : sl ≤ S.2.2.2.2.2.2.2.2) : GG S K en_i cs sl pc L [vi x] (mo_b (mo_b (op_z x) k1) kk) := by
  obtain ⟨p, l, e, R, s, m, args, below, meth, c, G, h0, hf, rf⟩ := K
  intro ok h H locs ls r hI hl hf' he
  rw [mo_assoc, funext hk, mo_bp] at hf'
  unfold op_z at hf'
  split at hf'
  · rename_i hz
    cases hf'
    refine W.widen h1 h2 ?_
    exact W.zret (ty := .boolean) ok.1 ok.2.1 (by rw [ok.2.2.2.2.2.2.1]; exact hr) (by rcases hz with rfl | rfl <;> decide) (fun t ht hW => ⟨by first | rw [← show _ = rf from he]; rfl | exact congrArg _ he, by rw [ht]; exact hI.1, by have := hI.2.1.F ht; exact this, hI.2.2⟩) hI.2.1.2.2 hd ok.2.2.2.2.2.2.2.1
  · cases hf'
theorem gg_objInit {x0 : Option Nat} {idx : Nat} {α : Type} {k0 : MO α} {kk : α → MO ρ} (pc' : Nat) (hp : pc + 3 = pc') (hlink : Cond.methodLink S.2.2.1 idx Lib.objectInit ∈ tb_G) (hinst : Cond.instanceMethod Lib.objectInit ∈ tb_G) (hcode : Cond.code Lib.objectInit ⟨#[0xb1]⟩ 1 none ∈ tb_G) (hd : decode S.1 pc = .ok (.invokespecial idx, 3)) (hf1 : 1 ≤ S.2.2.2.2.2.1) (hst : (st.map vc).sum + 12 ≤ S.2.2.2.2.2.2.1) (g : GG S K enc cs sl pc' L st (mo_b k0 kk)) : GG S K enc cs sl pc L (vr x0 :: st) (mo_b (mo_on x0 (fun _ => k0)) kk) := by
  subst hp
  obtain ⟨p, l, e, R, s, m, args, below, meth, c, G, h0, hf, rf⟩ := K
  intro ok h H locs ls r hI hl hf' he
  obtain ⟨a, rfl, hf2⟩ := mo_on_inv hf'
  have hts := ok.2.2.2.2.1
  have hroom := ok.2.2.2.2.2.2.2.2.2.1
  have hsum : ((vs st).map fun v => v.category).sum = (st.map vc).sum := by
    unfold vs
    rw [List.map_map]
    congr 1
    apply List.map_congr_left
    intro v _
    exact vc_eq v
  refine W.objInit ok.1 ok.2.1 ok.2.2.2.1 (hts _ hlink) (hts _ hinst) (hts _ hcode) rfl (hl.1.trans ok.2.2.1.symm) rfl hd (by rw [hroom]; exact hf1) ?_ (g ok h H locs ls r hI hl hf2 he)
  rw [hroom]
  have h3 : (List.map (fun v => v.category) (vs st)).sum + 12 ≤ S.2.2.2.2.2.2.1 := by rw [hsum]; exact hst
  show 2 * 0 + (List.map (fun v => v.category) (vs st)).sum + 12 ≤ S.2.2.2.2.2.2.1
  omega
theorem gg_lcmp {x y : Int} {α : Type} {k1 : Int → MO α} {kk : α → MO ρ} (pc' : Nat) (hp : pc + 1 = pc') (hd : decode S.1 pc = .ok (.lcmp, 1)) (g : ∀ z : Int, GG S K enc cs sl pc' L (vi z :: st) (mo_b (k1 z) kk)) : GG S K enc cs sl pc L (vl y :: vl x :: st) (mo_b (mo_b (op_lc x y) k1) kk) := by
  subst hp
  rw [mo_assoc]
  obtain ⟨p, l, e, R, s, m, args, below, meth, c, G, h0, hf, rf⟩ := K
  intro ok h H locs ls r hI hl hf' he
  obtain ⟨v, h1, hv, hf'⟩ := mo_b_inv hf'
  unfold op_lc at hv
  split at hv
  · rename_i hr
    rw [Bool.and_eq_true] at hr
    have hx := am_rb_iff.mp hr.1
    have hy := am_rb_iff.mp hr.2
    cases hv
    refine W.lcmp ok.1 ok.2.1 hd ?_
    have e : lg_cmp (Int64.ofInt x) (Int64.ofInt y) = Int32.ofInt (if y < x then 1 else if x = y then 0 else -1) := by
      have tx : ∀ {z : Int}, am_r z → (Int64.ofInt z).toInt = z := fun hz => by
        rw [Int64.toInt_ofInt]; obtain ⟨q1, q2⟩ := hz; exact Jvm.Kit.bmod64 (by omega) (by omega)
      have c1 : (Int64.ofInt x > Int64.ofInt y) ↔ y < x := by
        show Int64.ofInt y < Int64.ofInt x ↔ _
        rw [Int64.lt_iff_toInt_lt, tx hx, tx hy]
      have c2 : (Int64.ofInt x = Int64.ofInt y) ↔ x = y := ⟨fun q => by have := congrArg Int64.toInt q; rwa [tx hx, tx hy] at this, fun q => by rw [q]⟩
      unfold lg_cmp
      by_cases h1 : y < x
      · rw [if_pos (c1.mpr h1), if_pos h1]; rfl
      · rw [if_neg (fun q => h1 (c1.mp q)), if_neg h1]
        by_cases h2 : x = y
        · rw [if_pos (c2.mpr h2), if_pos h2]; rfl
        · rw [if_neg (fun q => h2 (c2.mp q)), if_neg h2]; rfl
    rw [e]
    exact g _ ok h H locs ls r hI hl hf' he
  · cases hv
theorem gg_zretc {x : Int} (hx : x = 0 ∨ x = 1) (hr : S.2.2.2.2.1 = some .boolean) (hd : decode S.1 pc = .ok (.ireturn, 1)) (h1 : cs ≤ S.2.2.2.2.2.2.2.1) (h2 : sl ≤ S.2.2.2.2.2.2.2.2) : GG S K en_i cs sl pc L [vi x] (mo_p x) := by
  intro ok h H locs ls r hI hl hf' he
  refine gg_zret (k1 := mo_p) (kk := mo_p) (fun z => rfl) hr hd h1 h2 ok h H locs ls r hI hl ?_ he
  rw [mo_bp, mo_bp]
  unfold op_z
  rw [if_pos hx]
  exact hf'
end ARR
