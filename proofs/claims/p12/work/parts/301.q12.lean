/-! variables -/
theorem bit_b {y : Int32} {v : Nat} (hy : y.toInt = (v : Int)) (hv : v < 64) (j : Nat) (hj : j < 64) : ((Int64.ofNat ((1 : Fin 2) : Nat)) <<< (y.toInt64 &&& 63)).toBitVec.getLsbD j = decide (j = v) := by
  have e1 : (y.toInt64 &&& 63).toBitVec = BitVec.ofNat 64 v := by
    have a : y.toBitVec.toInt = (v : Int) := hy
    have b : y.toInt64.toBitVec = BitVec.ofInt 64 (v : Int) := by rw [Int32.toBitVec_toInt64, BitVec.signExtend, a]
    rw [Int64.toBitVec_and, b]
    have c : (63 : Int64).toBitVec = BitVec.ofNat 64 63 := rfl
    rw [c]
    refine BitVec.eq_of_toNat_eq ?_
    rw [BitVec.toNat_and, BitVec.toNat_ofNat, BitVec.toNat_ofInt, BitVec.toNat_ofNat]
    have d : ((v : Int) % ((2 ^ 64 : Nat) : Int)).toNat = v := by omega
    rw [d]
    have q : 63 % 2 ^ 64 = 2 ^ 6 - 1 := by decide
    rw [q, Nat.and_two_pow_sub_one_eq_mod]
    omega
  have e2 : ((Int64.ofNat ((1 : Fin 2) : Nat)) <<< (y.toInt64 &&& 63)).toBitVec = 1#64 <<< v := by
    show (1#64 <<< ((y.toInt64 &&& 63).toBitVec.smod 64#64)) = _
    rw [e1]
    have d : (BitVec.ofNat 64 v).smod 64#64 = BitVec.ofNat 64 v := by
      refine BitVec.eq_of_toInt_eq ?_
      rw [BitVec.toInt_smod]
      have f : (BitVec.ofNat 64 v).toInt = (v : Int) := by
        rw [BitVec.toInt_eq_toNat_of_lt (by rw [BitVec.toNat_ofNat]; omega), BitVec.toNat_ofNat]
        omega
      rw [f]
      show (v : Int).fmod 64 = _
      rw [Int.fmod_eq_emod_of_nonneg _ (by decide)]
      omega
    rw [d, BitVec.shiftLeft_eq', BitVec.toNat_ofNat, Nat.mod_eq_of_lt (by omega)]
  rw [e2, BitVec.getLsbD_shiftLeft, BitVec.getLsbD_one]
  by_cases c : j = v
  · subst c
    simp [hj]
  · rw [decide_eq_false c]
    by_cases d : j < v
    · simp [d]
    · have : ¬ j - v = 0 := by omega
      simp [d, this]
theorem KbC.cn {x y : Int64} {l : List (Int × Int)} {v : Nat} {t : Int} (h : KbC x l) (hb : ∀ j, j < 64 → y.toBitVec.getLsbD j = decide (j = v)) : KbC (x ||| y) (((v : Int), t) :: l) := by
  intro j hj
  have e : (x ||| y).toBitVec = x.toBitVec ||| y.toBitVec := rfl
  rw [e, BitVec.getLsbD_or, hb j hj, Bool.or_eq_true, h j hj, decide_eq_true_iff]
  constructor
  · rintro (⟨k, hk⟩ | rfl)
    · exact ⟨k, List.mem_cons_of_mem _ hk⟩
    · exact ⟨t, List.mem_cons_self⟩
  · rintro ⟨k, hk⟩
    rcases List.mem_cons.mp hk with q | q
    · cases q
      exact Or.inr rfl
    · exact Or.inl ⟨k, q⟩
theorem dcl_nz {ty f h : Int} {s : SpC} (q : zFt (dclY ty f h s) = 0) : (codY s = 80 ∧ ¬ h = 0 ∧ (zVs s).length < 60) ∧ zFt s = 0 ∧ dclY ty f h s = accY (vadY ty f s) ∧ zFt (accY (vadY ty f s)) = 0 := by
  unfold dclY at q ⊢
  have a : zFt (dc1Y h s) = 0 := Classical.byContradiction (fun c => by
    unfold dc2Y at q
    rw [if_neg c] at q
    exact c q)
  have b : codY s = 80 := Classical.byContradiction (fun c => by
    unfold dc1Y at a
    rw [if_neg c] at a
    exact raiY_z (by decide) a)
  have c : ¬ (h = 0 ∨ 60 ≤ (zVs s).length) := fun c => by
    unfold dc1Y at a
    rw [if_pos b, if_pos c] at a
    exact raiY_z (by decide) a
  have e : dc1Y h s = s := by
    unfold dc1Y
    rw [if_pos b, if_neg c]
  rw [e] at q a ⊢
  unfold dc2Y at q ⊢
  rw [if_pos a] at q ⊢
  exact ⟨⟨b, fun x => c (Or.inl x), by omega⟩, a, rfl, q⟩
/-- a variable more, before its NAME is passed -/
def vaZ (N : Int → Int) (ty f : Int) (z : ZS) : ZS := (vadY ty f z.1, z.2.1, z.2.2.1, z.2.2.2.1, (z.2.2.2.2.1, fun k => if k = (zVs z.1).length then (if 0 ≤ lkM N z (zAt z.1) then 1 else 0) else z.2.2.2.2.2.1 k, z.2.2.2.2.2.2))
/-- declared, not known yet -/
def dc0M (N : Int → Int) (ty f h : Int) (z : ZS) : ZS := (dclY ty f h z.1, z.2.1, z.2.2.1, z.2.2.2.1, (z.2.2.2.2.1, fun k => if k = (zVs z.1).length then (if 0 ≤ lkM N z (zAt z.1) then 1 else 0) else z.2.2.2.2.2.1 k, z.2.2.2.2.2.2))
def knM (v : Nat) (t : Int) (z : ZS) : ZS := (z.1, z.2.1, z.2.2.1, (((v : Int), t) :: z.2.2.2.1.1, z.2.2.2.1.2), z.2.2.2.2)
theorem dc_kn {N : Int → Int} {ty f h : Int} {z : ZS} : dcM N ty f h z = knM (zVs z.1).length (zAt z.1) (dc0M N ty f h z) := rfl
theorem vth_o {ty f : Int} {s : SpC} {v : Nat} (h : v < (zVs s).length) : vth (vadY ty f s) v = vth s v := by
  unfold vth
  show (((zAt s, ty, f, ((zMs s).length : Int) - 1) :: zVs s).getD ((zVs s).length + 1 - 1 - v) _) = _
  rw [show (zVs s).length + 1 - 1 - v = ((zVs s).length - 1 - v) + 1 by omega]
  rfl
theorem vth_n {ty f : Int} {s : SpC} : vth (vadY ty f s) (zVs s).length = (zAt s, ty, f, ((zMs s).length : Int) - 1) := by
  unfold vth
  show (((zAt s, ty, f, ((zMs s).length : Int) - 1) :: zVs s).getD ((zVs s).length + 1 - 1 - (zVs s).length) _) = _
  rw [show (zVs s).length + 1 - 1 - (zVs s).length = 0 by omega]
  rfl
theorem ZC.va {N : Int → Int} {E A B V : Nat → Nat} {σ τ : CsC} {z : ZS} {ty f : Int} {o : Nat} (h : ZC N E A B V σ z) (F : PoX o σ τ) (ho : cnC σ ≤ o) (hx : VrC τ (zAt z.1, ty, f, ((zMs z.1).length : Int) - 1) (if 0 ≤ lkM N z (zAt z.1) then 1 else 0) o) (hl : (zVs z.1).length < 60) (l1 : LiC τ (E 213) (xnM z) A) (l2 : LiC τ (E 214) (snM z) B) (l3 : LiC τ (E 212) ((zVs z.1).length + 1) (upA V (zVs z.1).length o)) (l4 : LiC τ (E 211) (zMs z.1).length (fun k => E (1000 + k))) : ZC N E A B (upA V (zVs z.1).length o) τ (vaZ N ty f z) := by
  obtain ⟨h1, ⟨⟨h2, h3⟩, h4, h5, h6⟩, ⟨h7, h8⟩, ⟨m1, m2, m3, m4⟩, ⟨x1, x2⟩, ⟨s1, s2⟩, v1, v2, v3, v4⟩ := h
  obtain ⟨f0, f1, f2⟩ := F
  have ff : ∀ a, a < cnC σ → ∀ k, 3 ≤ k ∧ k < 900 → fIC τ a k = fIC σ a k ∧ fLC τ a k = fLC σ a k ∧ fRC τ a k = fRC σ a k := fun a ha k hk => f1 a ha (by omega) k hk
  have n0 := h1.2.2.2.1.1
  have n302 := h1.2.2.2.2.2.1.1
  have n304 := h1.2.2.2.2.2.1.2.2
  refine ⟨h1.cg (fun a k ha hk => (ff a ha k (by omega)).2.2) f0, ⟨⟨?_, ?_⟩, ?_, ?_, h6⟩, ⟨fun j => ?_, fun j => ?_⟩, ⟨l1, l2, l3, l4⟩, ⟨fun i hi => ⟨(x1 i hi).1.cg (fun k hk => ff _ (m1.2 i hi).2 k (by omega)), (x1 i hi).2⟩, fun i hi => ⟨(x2 i hi).1, ChC.cg (fun a ha => ?_) (x2 i hi).2⟩⟩, ⟨fun j hj => ⟨(s1 j hj).1.cg (fun k hk => ff _ (m2.2 j hj).2 k (by omega)), (s1 j hj).2⟩, s2⟩, fun v hv => ?_, fun q hq => ?_, v3, hl, fun i j hij hj => ?_⟩
  · rw [(ff _ n0 242 (by decide)).1]; exact h2
  · rw [(ff _ n0 243 (by decide)).1]; exact h3
  · rw [(ff _ n0 245 (by decide)).2.1]; exact h4
  · rw [(ff _ n0 246 (by decide)).2.2]; exact h5
  · rw [(f2 _ n302).1]; exact h7 j
  · rw [(f2 _ n304).2]; exact h8 j
  · have hi : i < xnM z := hi
    have q := (x2 i hi).1 a ha
    exact (ff _ (m1.2 a.toNat (by omega)).2 75 (by decide)).2.2
  · have hv : v < (zVs z.1).length + 1 := hv
    by_cases c : v < (zVs z.1).length
    · have e1 : vth (vaZ N ty f z).1 v = vth z.1 v := vth_o c
      have e2 : (vaZ N ty f z).2.2.2.2.2.1 v = z.2.2.2.2.2.1 v := if_neg (Nat.ne_of_lt c)
      rw [e1, e2, upA_n (Nat.ne_of_lt c)]
      exact (v1 v c).cg (fun k hk => (ff _ (m3.2 v c).2 k (by omega)).1)
    · obtain rfl : v = (zVs z.1).length := by omega
      have e1 : vth (vaZ N ty f z).1 (zVs z.1).length = (zAt z.1, ty, f, ((zMs z.1).length : Int) - 1) := vth_n
      have e2 : (vaZ N ty f z).2.2.2.2.2.1 (zVs z.1).length = (if 0 ≤ lkM N z (zAt z.1) then 1 else 0) := if_pos rfl
      rw [e1, e2, upA_e]
      exact hx
  · have q2 := v2 q hq
    have e1 : vth (vaZ N ty f z).1 q.1.toNat = vth z.1 q.1.toNat := vth_o (by omega)
    rw [e1]
    refine ⟨q2.1, ?_, q2.2.2⟩
    show q.1 < (((zVs z.1).length + 1 : Nat) : Int)
    omega
  · have hj : j < (zVs z.1).length + 1 := hj
    by_cases c : j < (zVs z.1).length
    · rw [upA_n (by omega), upA_n (by omega)]
      exact v4.2 i j hij c
    · obtain rfl : j = (zVs z.1).length := by omega
      rw [upA_n (by omega), upA_e]
      exact Nat.lt_of_lt_of_le (m3.2 i hij).2 ho
theorem FzC.va {n m : Nat} {N : Int → Int} {E A B V : Nat → Nat} {z : ZS} {ty f : Int} {o : Nat} {σ τ : CsC} (F : PoX o σ τ) (hn : n ≤ o) (hc : n ≤ cnC σ) (h3 : E 303 < cnC σ) : FzC n m E A A B B V (upA V (zVs z.1).length o) z (vaZ N ty f z) σ τ := by
  obtain ⟨f0, f1, f2⟩ := F
  exact ⟨f0, fun a ha k hk => f1 a (by omega) (by omega) k (by have := xsF_r hk; omega), ⟨⟨Nat.le_refl _, fun _ _ => ⟨rfl, rfl⟩⟩, fun i h1 h2 => absurd h2 (Nat.not_lt.mpr h1)⟩, ⟨⟨Nat.le_refl _, fun _ _ => ⟨rfl, rfl, rfl⟩⟩, fun i h1 h2 => absurd h2 (Nat.not_lt.mpr h1)⟩, ⟨Nat.le_succ _, fun v hv => ⟨upA_n (Nat.ne_of_lt hv), vth_o hv⟩⟩, Int.le_refl _, fun j _ => by rw [(f2 _ h3).1]⟩
/-- what is known changes -/
theorem ZC.kn {N : Int → Int} {E A B V : Nat → Nat} {σ : CsC} {z z' : ZS} {x : Int64} (h : ZC N E A B V σ z) (e : z'.1 = z.1 ∧ z'.2.1 = z.2.1 ∧ z'.2.2.1 = z.2.2.1) (e2 : z'.2.2.2.1.2 = z.2.2.2.1.2 ∧ z'.2.2.2.2.2.1 = z.2.2.2.2.2.1) (hx : KbC x z'.2.2.2.1.1) (hk : ∀ q ∈ z'.2.2.2.1.1, 0 ≤ q.1 ∧ q.1 < ((zVs z.1).length : Int) ∧ q.2 = (vth z.1 q.1.toNat).1) (hp : List.Pairwise (fun a b => b.1 < a.1) z'.2.2.2.1.1) : ZC N E A B V (pLC σ (E 0) 245 x) z' := by
  obtain ⟨a1, a2, a3, ⟨a4, a5⟩, a6, a7, a8⟩ := z
  obtain ⟨b1, b2, b3, ⟨b4, b5⟩, b6, b7, b8⟩ := z'
  obtain ⟨rfl, rfl, rfl⟩ : b1 = a1 ∧ b2 = a2 ∧ b3 = a3 := e
  obtain ⟨rfl, rfl⟩ : b5 = a5 ∧ b7 = a7 := e2
  obtain ⟨h1, ⟨⟨h2, h3⟩, h4, h5, h6⟩, ⟨h7, h8⟩, l, ⟨x1, x2⟩, ⟨s1, s2⟩, v1, v2, v3, v4⟩ := h
  have fl : ∀ a k, k ≠ 245 → fLC (pLC σ (E 0) 245 x) a k = fLC σ a k := fun a k hk => u2C_nk hk
  refine ⟨h1, ⟨⟨h2, h3⟩, ?_, h5, h6⟩, ⟨h7, h8⟩, l, ⟨fun i hi => ⟨(x1 i hi).1.cg (fun k hk => ⟨rfl, fl _ k (by omega), rfl⟩), (x1 i hi).2⟩, fun i hi => ⟨(x2 i hi).1, ChC.cg (σ := σ) (τ := pLC σ (E 0) 245 x) (fun _ _ => rfl) (x2 i hi).2⟩⟩, ⟨fun j hj => ⟨(s1 j hj).1.cg (fun k hk => ⟨rfl, fl _ k (by omega), rfl⟩), (s1 j hj).2⟩, s2⟩, v1, hk, hp, v4⟩
  show KbC (u2C (fLC σ) (E 0) 245 x (E 0) 245) b4
  rw [u2C_eq]
  exact hx
theorem FzC.kn {n m : Nat} {E A A' B B' V V' : Nat → Nat} {y z z' : ZS} {σ τ : CsC} {x : Int64} (h : FzC n m E A A' B B' V V' y z σ τ) (e : z'.1 = z.1 ∧ z'.2.1 = z.2.1 ∧ z'.2.2.1 = z.2.2.1) : FzC n m E A A' B B' V V' y z' σ (pLC τ (E 0) 245 x) := by
  obtain ⟨a1, a2, a3, a4⟩ := z
  obtain ⟨b1, b2, b3, b4⟩ := z'
  obtain ⟨rfl, rfl, rfl⟩ : b1 = a1 ∧ b2 = a2 ∧ b3 = a3 := e
  obtain ⟨p1, p2, p3, p6, p7, p8⟩ := h
  exact ⟨p1, fun o ho k hk => ⟨(p2 o ho k hk).1, (u2C_nk (fun q => by rw [q] at hk; cases hk)).trans (p2 o ho k hk).2.1, (p2 o ho k hk).2.2⟩, p3, p6, p7, p8⟩
abbrev Pz_bit : ((Int → Int) × (Nat → Nat) × (Nat → Nat) × (Nat → Nat) × (Nat → Nat) × ZS × Nat) → CpC := fun y As σ => match y with
  | (N, E, A, B, V, z, v) => ∃ (p0 : Int32), As = [.inl p0] ∧ (p0.toInt = (v : Int)) ∧ (v < 64)
abbrev Qz_bit : ((Int → Int) × (Nat → Nat) × (Nat → Nat) × (Nat → Nat) × (Nat → Nat) × ZS × Nat) → CqC := fun y As σ w τ => match y, As with
  | (N, E, A, B, V, z, v), [.inl p0] => ∃ r : Int64, w = some (.inr (.inl r)) ∧ (∀ j, j < 64 → r.toBitVec.getLsbD j = decide (j = v)) ∧ σ = τ
  | _, _ => True
abbrev Uz_bit : CqC := fun As σ w τ => ∀ y, Pz_bit y As σ → Qz_bit y As σ w τ
set_option maxHeartbeats 4000000 in
theorem pz_bit (y : (Int → Int) × (Nat → Nat) × (Nat → Nat) × (Nat → Nat) × (Nat → Nat) × ZS × Nat) : PbC KX11_bit [] [] (fun As σ => Pz_bit y As σ ∧ cnC σ ≤ 1000000 ∧ ∃ w τ, uqC quL 222 As σ w τ) (Qz_bit y) := by
  obtain ⟨N, E, A, B, V, z, v⟩ := y
  rintro As σ ⟨⟨p0, rfl, hp0, hv⟩, hcn, _, _, hQ⟩ K hB hW n_
  change K n_ 0 [(0, .inl p0)] [] σ
  refine hB _ _ _ _ _ (fun m51 hm51 => ?_)
  dsimp only [ucgo, ucwp, ucsC, uqC, uoC, ctC, rfd, KX11_bit, KX11_bit_0, lkC, s1C, s2C, dlC, kyC, Nat.beq, Nat.ble, rcd, rno, rsw, Nat.reduceAdd, Nat.reduceBEq, Nat.reduceDiv, List.drop, List.take, List.reverse, List.reverseAux, Int.toNat, Option.toList, List.append, List.cons_append, List.nil_append]
  try dsimp only [Qz_bit]
  exact ⟨_, rfl, bit_b hp0 hv, rfl⟩
theorem wz_bit : ∀ (L : Nat) (As : List AvC) (σ : CsC) (w : Option AvC) (τ : CsC), EvF L 222 As σ w τ → Uz_bit As σ w τ := by
  intro L
  cases L with
  | zero => exact fun _ _ _ _ h => h.elim
  | succ L => exact fun As σ w τ h y hy => EvF.us (cs := []) (pz_bit y) rfl (fun _ h => absurd h List.not_mem_nil) h hy
abbrev Pz_know : ((Int → Int) × (Nat → Nat) × (Nat → Nat) × (Nat → Nat) × (Nat → Nat) × ZS × Nat) → CpC := fun y As σ => match y with
  | (N, E, A, B, V, z, v) => ∃ (p1 : Int32), As = [.inr (.inr (some (E 0))), .inl p1] ∧ (ZC N E A B V σ z) ∧ (p1.toInt = (v : Int)) ∧ (v < (zVs z.1).length ∧ ∀ q ∈ z.2.2.2.1.1, q.1 < (v : Int))
abbrev Qz_know : ((Int → Int) × (Nat → Nat) × (Nat → Nat) × (Nat → Nat) × (Nat → Nat) × ZS × Nat) → CqC := fun y As σ w τ => match y, As with
  | (N, E, A, B, V, z, v), [_, .inl p1] => w = none ∧ ZC N E A B V τ (knM v (vth z.1 v).1 z) ∧ FzC (cnC σ) (xnM z) E A A B B V V z (knM v (vth z.1 v).1 z) σ τ
  | _, _ => True
abbrev Uz_know : CqC := fun As σ w τ => ∀ y, Pz_know y As σ → Qz_know y As σ w τ
set_option maxHeartbeats 4000000 in
theorem pz_know (y : (Int → Int) × (Nat → Nat) × (Nat → Nat) × (Nat → Nat) × (Nat → Nat) × ZS × Nat) : PbC KX7_know [(222, TrP, EqC 222)] [(222, Uz_bit)] (fun As σ => Pz_know y As σ ∧ cnC σ ≤ 1000000 ∧ ∃ w τ, uqC quL 138 As σ w τ) (Qz_know y) := by
  obtain ⟨N, E, A, B, V, z, v⟩ := y
  rintro As σ ⟨⟨p1, rfl, hZ, hp1, hv⟩, hcn, _, _, hQ⟩ K hB hW n_
  have hH : HI0 σ ∧ TyC σ (E 0) 8 := hQ
  have hat := hZ.at0 hH
  change K n_ 0 [(0, .inr (.inr (some (E 0)))), (1, .inl p1)] [] σ
  refine hB _ _ _ _ _ (fun m51 hm51 => ?_)
  dsimp only [ucgo, ucwp, ucsC, uqC, uoC, ctC, rfd, KX7_know, KX7_know_0, KX7_know_4, KX7_know_17, lkC, s1C, s2C, dlC, kyC, Nat.beq, Nat.ble, rcd, rno, rsw, Nat.reduceAdd, Nat.reduceBEq, Nat.reduceDiv, List.drop, List.take, List.reverse, List.reverseAux, Int.toNat, Option.toList, List.append, List.cons_append, List.nil_append, zg245]
  refine ⟨fun h52 => ?_, fun h52 => ?_⟩
  · have g52 := ltI (x := p1) (y := 0) h52
    have z0_ : (0 : Int32).toInt = 0 := rfl
    exfalso
    omega
  · have g52 := nltI (x := p1) (y := 0) h52
    have z0_ : (0 : Int32).toInt = 0 := rfl
    refine hB _ _ _ _ _ (fun m53 hm53 => ?_)
    dsimp only [ucgo, ucwp, ucsC, uqC, uoC, ctC, rfd, KX7_know, KX7_know_0, KX7_know_4, KX7_know_17, lkC, s1C, s2C, dlC, kyC, Nat.beq, Nat.ble, rcd, rno, rsw, Nat.reduceAdd, Nat.reduceBEq, Nat.reduceDiv, List.drop, List.take, List.reverse, List.reverseAux, Int.toNat, Option.toList, List.append, List.cons_append, List.nil_append, zg245]
    intro a54 e54 ob54
    cases e54
    intro w55 τ55 o55 q55
    obtain ⟨r55, rfl, hr55, rfl⟩ := q55 (N, E, A, B, V, z, v) ⟨_, rfl, hp1, by have := hZ.2.2.2.2.2.2.2.2.2.1; omega⟩
    try dsimp only [Option.toList, List.cons_append, List.nil_append, s1C, s2C, dlC, kyC, Nat.beq, lkC, rcd, rno, rsw]
    intro a56 e56 ob56 fk56
    cases e56
    clear fk56 ob56
    generalize hs56 : pLC σ (E 0) 245 ((fLC σ (E 0) 245) ||| r55) = s56
    have hZ56 : ZC N E A B V s56 (knM v (vth z.1 v).1 z) := by
      rw [← hs56]
      exact ZC.kn hZ ⟨rfl, rfl, rfl⟩ ⟨rfl, rfl⟩ (KbC.cn hZ.2.1.2.1 hr55) (fun q hq => (List.mem_cons.mp hq).elim (fun e => by rw [e]; exact ⟨by show (0 : Int) ≤ (v : Int); omega, by show (v : Int) < _; omega, rfl⟩) (fun m => hZ.2.2.2.2.2.2.2.1 q m)) (List.pairwise_cons.mpr ⟨fun q hq => hv.2 q hq, hZ.2.2.2.2.2.2.2.2.1⟩)
    have hF56 : FzC (cnC σ) (xnM z) E A A B B V V z (knM v (vth z.1 v).1 z) σ s56 := by
      rw [← hs56]
      exact FzC.kn FzC.rf ⟨rfl, rfl, rfl⟩
    refine hB _ _ _ _ _ (fun m57 hm57 => ?_)
    dsimp only [ucgo, ucwp, ucsC, uqC, uoC, ctC, rfd, KX7_know, KX7_know_0, KX7_know_4, KX7_know_17, lkC, s1C, s2C, dlC, kyC, Nat.beq, Nat.ble, rcd, rno, rsw, Nat.reduceAdd, Nat.reduceBEq, Nat.reduceDiv, List.drop, List.take, List.reverse, List.reverseAux, Int.toNat, Option.toList, List.append, List.cons_append, List.nil_append, zg245]
    try dsimp only [Qz_know]
    intro τ hwe
    exact ⟨rfl, hZ56.we hwe, hF56.we hwe⟩
theorem wz_know : ∀ (L : Nat) (As : List AvC) (σ : CsC) (w : Option AvC) (τ : CsC), EvF L 138 As σ w τ → Uz_know As σ w τ := by
  intro L
  cases L with
  | zero => exact fun _ _ _ _ h => h.elim
  | succ L => exact fun As σ w τ h y hy => EvF.us (cs := [222]) (pz_know y) rfl (List.forall_mem_cons.2 ⟨wz_bit L, fun _ h => absurd h List.not_mem_nil⟩) h hy
abbrev Pz_declare : ((Int → Int) × (Nat → Nat) × (Nat → Nat) × (Nat → Nat) × (Nat → Nat) × ZS × Int × Int × Int) → CpC := fun y As σ => match y with
  | (N, E, A, B, V, z, ty, f, h) => ∃ (p1 : Int32) (p2 : Int32) (p3 : Int32), As = [.inr (.inr (some (E 0))), .inl p1, .inl p2, .inl p3] ∧ (ZC N E A B V σ z) ∧ (p1.toInt = ty) ∧ (p2.toInt = f) ∧ (p3.toInt = h) ∧ (zFt (dclY ty f h z.1) = 0)
abbrev Qz_declare : ((Int → Int) × (Nat → Nat) × (Nat → Nat) × (Nat → Nat) × (Nat → Nat) × ZS × Int × Int × Int) → CqC := fun y As σ w τ => match y, As with
  | (N, E, A, B, V, z, ty, f, h), [_, .inl p1, .inl p2, .inl p3] => ∃ r, w = some (.inl r) ∧ r.toInt = ((zVs z.1).length : Int) ∧ ZC N E A B (upA V (zVs z.1).length (cnC σ)) τ (dc0M N ty f h z) ∧ FzC (cnC σ) (xnM z) E A A B B V (upA V (zVs z.1).length (cnC σ)) z (dc0M N ty f h z) σ τ
  | _, _ => True
abbrev Uz_declare : CqC := fun As σ w τ => ∀ y, Pz_declare y As σ → Qz_declare y As σ w τ
set_option maxHeartbeats 4000000 in
theorem pz_declare (y : (Int → Int) × (Nat → Nat) × (Nat → Nat) × (Nat → Nat) × (Nat → Nat) × ZS × Int × Int × Int) : PbC KX7_declare [(234, TrP, EqC 234), (125, TrP, EqC 125), (127, TrP, EqC 127), (199, TrP, EqC 199), (139, TrP, EqC 139), (236, TrP, EqC 236), (128, TrP, EqC 128)] [(125, Uz_code), (199, Uz_Variable), (139, Uz_lookUp), (128, Uz_accept)] (fun As σ => Pz_declare y As σ ∧ cnC σ ≤ 1000000 ∧ ∃ w τ, uqC quL 137 As σ w τ) (Qz_declare y) := by
  obtain ⟨N, E, A, B, V, z, ty, f, h⟩ := y
  rintro As σ ⟨⟨p1, p2, p3, rfl, hZ, hp1, hp2, hp3, hft⟩, hcn, _, _, hQ⟩ K hB hW n_
  have hH : HI0 σ ∧ TyC σ (E 0) 8 := hQ
  have hat := hZ.at0 hH
  have hd := dcl_nz hft
  change K n_ 0 [(0, .inr (.inr (some (E 0)))), (1, .inl p1), (2, .inl p2), (3, .inl p3)] [] σ
  refine hB _ _ _ _ _ (fun m51 hm51 => ?_)
  dsimp only [ucgo, ucwp, ucsC, uqC, uoC, ctC, rfd, KX7_declare, KX7_declare_0, KX7_declare_21, KX7_declare_29, KX7_declare_33, KX7_declare_40, KX7_declare_45, KX7_declare_52, KX7_declare_54, KX7_declare_102, KX7_declare_106, KX7_declare_107, lkC, s1C, s2C, dlC, kyC, Nat.beq, Nat.ble, rcd, rno, rsw, Nat.reduceAdd, Nat.reduceBEq, Nat.reduceDiv, List.drop, List.take, List.reverse, List.reverseAux, Int.toNat, Option.toList, List.append, List.cons_append, List.nil_append, zg211, zg212, zg240, zg241, zg242, zg243, zg303, zg304]
  intro a52 e52 ob52
  cases e52
  intro a53 e53 ob53
  obtain rfl : E 1 = a53 := Option.some.inj (hZ.1.1.1.symm.trans e53)
  rw [hZ.1.2.1.2.1]
  try dsimp only
  intro w54 τ54 o54 q54
  obtain ⟨r54, rfl, rfl, hr54a, hr54b, hr54, -⟩ := (show Q_Jx4a65c_size_8abf5 [.inr (.inr (some (E 212)))] σ w54 τ54 from o54.1.1)
  have hv54 : r54.toInt = ((zVs z.1).length : Int) := by rw [← hr54]; exact hZ.2.2.2.1.2.2.1.1
  try dsimp only [Option.toList, List.cons_append, List.nil_append, s1C, s2C, dlC, kyC, Nat.beq, lkC, rcd, rno, rsw]
  intro w55 τ55 o55 q55
  obtain ⟨c55, rfl, hc55, rfl⟩ := q55 (N, E, A, B, V, z) ⟨rfl, hZ⟩
  try dsimp only [Option.toList, List.cons_append, List.nil_append, s1C, s2C, dlC, kyC, Nat.beq, lkC, rcd, rno, rsw]
  have c56 : (Int32.ofInt 80).toInt = 80 := by decide
  refine ⟨fun h57 => ?_, fun h57 => ?_⟩
  · have g57 := (eqI (x := c55) (y := (Int32.ofInt 80)) h57 : (c55 : Int32).toInt = ((Int32.ofInt 80) : Int32).toInt)
    refine hB _ _ _ _ _ (fun m58 hm58 => ?_)
    dsimp only [ucgo, ucwp, ucsC, uqC, uoC, ctC, rfd, KX7_declare, KX7_declare_0, KX7_declare_21, KX7_declare_29, KX7_declare_33, KX7_declare_40, KX7_declare_45, KX7_declare_52, KX7_declare_54, KX7_declare_102, KX7_declare_106, KX7_declare_107, lkC, s1C, s2C, dlC, kyC, Nat.beq, Nat.ble, rcd, rno, rsw, Nat.reduceAdd, Nat.reduceBEq, Nat.reduceDiv, List.drop, List.take, List.reverse, List.reverseAux, Int.toNat, Option.toList, List.append, List.cons_append, List.nil_append, zg211, zg212, zg240, zg241, zg242, zg243, zg303, zg304]
    refine ⟨fun h59 => ?_, fun h59 => ?_⟩
    · have g59 := (eqI (x := p3) (y := 0) h59 : (p3 : Int32).toInt = (0 : Int32).toInt)
      have z0_ : (0 : Int32).toInt = 0 := rfl
      exfalso
      omega
    · have g59 := (neI (x := p3) (y := 0) h59 : ¬ (p3 : Int32).toInt = (0 : Int32).toInt)
      have z0_ : (0 : Int32).toInt = 0 := rfl
      refine hB _ _ _ _ _ (fun m60 hm60 => ?_)
      dsimp only [ucgo, ucwp, ucsC, uqC, uoC, ctC, rfd, KX7_declare, KX7_declare_0, KX7_declare_21, KX7_declare_29, KX7_declare_33, KX7_declare_40, KX7_declare_45, KX7_declare_52, KX7_declare_54, KX7_declare_102, KX7_declare_106, KX7_declare_107, lkC, s1C, s2C, dlC, kyC, Nat.beq, Nat.ble, rcd, rno, rsw, Nat.reduceAdd, Nat.reduceBEq, Nat.reduceDiv, List.drop, List.take, List.reverse, List.reverseAux, Int.toNat, Option.toList, List.append, List.cons_append, List.nil_append, zg211, zg212, zg240, zg241, zg242, zg243, zg303, zg304]
      have c61 : (Int32.ofInt 60).toInt = 60 := by decide
      refine ⟨fun h62 => ?_, fun h62 => ?_⟩
      · have g62 := ltI (x := r54) (y := (Int32.ofInt 60)) h62
        refine hB _ _ _ _ _ (fun m63 hm63 => ?_)
        dsimp only [ucgo, ucwp, ucsC, uqC, uoC, ctC, rfd, KX7_declare, KX7_declare_0, KX7_declare_21, KX7_declare_29, KX7_declare_33, KX7_declare_40, KX7_declare_45, KX7_declare_52, KX7_declare_54, KX7_declare_102, KX7_declare_106, KX7_declare_107, lkC, s1C, s2C, dlC, kyC, Nat.beq, Nat.ble, rcd, rno, rsw, Nat.reduceAdd, Nat.reduceBEq, Nat.reduceDiv, List.drop, List.take, List.reverse, List.reverseAux, Int.toNat, Option.toList, List.append, List.cons_append, List.nil_append, zg211, zg212, zg240, zg241, zg242, zg243, zg303, zg304]
        intro a64 e64 ob64
        cases e64
        have f65 : (fIC σ (E 0) 243).toInt = zFt z.1 := hZ.2.1.1.2
        refine ⟨fun h66 => ?_, fun h66 => ?_⟩
        · have g66 := (eqI (x := (fIC σ (E 0) 243)) (y := 0) h66 : ((fIC σ (E 0) 243) : Int32).toInt = (0 : Int32).toInt)
          have z0_ : (0 : Int32).toInt = 0 := rfl
          refine hB _ _ _ _ _ (fun m67 hm67 => ?_)
          dsimp only [ucgo, ucwp, ucsC, uqC, uoC, ctC, rfd, KX7_declare, KX7_declare_0, KX7_declare_21, KX7_declare_29, KX7_declare_33, KX7_declare_40, KX7_declare_45, KX7_declare_52, KX7_declare_54, KX7_declare_102, KX7_declare_106, KX7_declare_107, lkC, s1C, s2C, dlC, kyC, Nat.beq, Nat.ble, rcd, rno, rsw, Nat.reduceAdd, Nat.reduceBEq, Nat.reduceDiv, List.drop, List.take, List.reverse, List.reverseAux, Int.toNat, Option.toList, List.append, List.cons_append, List.nil_append, zg211, zg212, zg240, zg241, zg242, zg243, zg303, zg304]
          generalize hs68 : nOC σ 61 (nfC 11) 0 = s68
          have hZ68 : ZC N E A B V s68 z := hZ.nw (fun a ha k => by rw [← hs68]; exact nO_a (Nat.ne_of_lt ha)) (by rw [← hs68]; exact ⟨rfl, rfl, rfl⟩) (by rw [← hs68]; exact Nat.le_succ _)
          intro a69 e69 ob69
          cases e69
          have f70 : (fIC s68 (E 0) 242).toInt = zAt z.1 := hZ68.2.1.1.1
          intro a71 e71 ob71
          cases e71
          intro a72 e72 ob72
          obtain rfl : E 1 = a72 := Option.some.inj (hZ68.1.1.1.symm.trans e72)
          rw [hZ68.1.2.1.1]
          try dsimp only
          intro w73 τ73 o73 q73
          obtain ⟨r73, rfl, rfl, hr73a, hr73b, hr73, -⟩ := (show Q_Jx4a65c_size_8abf5 [.inr (.inr (some (E 211)))] s68 w73 τ73 from o73.1.1)
          have hv73 : r73.toInt = ((zMs z.1).length : Int) := by rw [← hr73]; exact hZ68.2.2.2.1.2.2.2.1
          try dsimp only [Option.toList, List.cons_append, List.nil_append, s1C, s2C, dlC, kyC, Nat.beq, lkC, rcd, rno, rsw]
          have c74 : (Int32.ofInt 1).toInt = 1 := by decide
          have u75 := tiC r73
          have a75 : (r73 - (Int32.ofInt 1)).toInt = ((zMs z.1).length : Int) - 1 := subC (by omega) (by omega) (by omega)
          intro w76 τ76 o76 q76
          obtain ⟨rfl, hi76⟩ := q76 (N, E, A, B, V, z) ⟨_, _, _, _, _, rfl⟩
          have ht76 : ∀ a, a < cnC s68 → a ≠ cnC σ → tgC τ76 a = tgC s68 a := o76.1.1
          have hc76 : cnC τ76 = cnC σ + 1 := by rw [hi76.2.2.2.1, ← hs68]; rfl
          have hg76 : ∀ a, a < cnC σ → ∀ k, fIC τ76 a k = fIC σ a k ∧ fLC τ76 a k = fLC σ a k ∧ fRC τ76 a k = fRC σ a k := fun a ha k => by
            have q2 : fIC s68 a k = fIC σ a k ∧ fLC s68 a k = fLC σ a k ∧ fRC s68 a k = fRC σ a k := by rw [← hs68]; exact nO_a (Nat.ne_of_lt ha)
            exact ⟨(hi76.1 a (Nat.ne_of_lt ha) k).trans q2.1, by rw [hi76.2.1.1]; exact q2.2.1, by rw [hi76.2.1.2]; exact q2.2.2⟩
          have he76 : eIC τ76 = eIC σ ∧ eLC τ76 = eLC σ ∧ eRC τ76 = eRC σ := by
            obtain ⟨q1, q2, q3⟩ := hi76.2.2.1
            rw [← hs68] at q1 q2 q3
            exact ⟨q1, q2, q3⟩
          have hZ76 : ZC N E A B V τ76 z := hZ.nw hg76 he76 (by omega)
          try dsimp only [Option.toList, List.cons_append, List.nil_append, s1C, s2C, dlC, kyC, Nat.beq, lkC, rcd, rno, rsw]
          intro a77 e77 ob77
          cases e77
          intro a78 e78 ob78
          obtain rfl : E 2 = a78 := Option.some.inj (hZ76.1.1.2.symm.trans e78)
          intro a79 e79 ob79
          cases e79
          have f80 : (fIC τ76 (E 0) 242).toInt = zAt z.1 := hZ76.2.1.1.1
          intro a81 e81 t81 v81
          obtain rfl : E 304 = a81 := Option.some.inj (hZ76.1.2.2.1.2.2.symm.trans e81)
          intro w82 τ82 o82 q82
          obtain ⟨r82, rfl, hr82, rfl⟩ := q82 (N, E, A, B, V, z, (zAt z.1)) ⟨_, rfl, hZ76, by rw [hZ76.2.2.1.2, nT_toNat, show ((fIC τ76 (E 0) 242) : Int32).toInt.toNat = ((zAt z.1)).toNat by omega]; exact congrArg N (by omega)⟩
          try dsimp only [Option.toList, List.cons_append, List.nil_append, s1C, s2C, dlC, kyC, Nat.beq, lkC, rcd, rno, rsw]
          refine ⟨fun h83 => ?_, fun h83 => ?_⟩
          · have g83 := ltI (x := r82) (y := 0) h83
            have z0_ : (0 : Int32).toInt = 0 := rfl
            refine hB _ _ _ _ _ (fun m84 hm84 => ?_)
            dsimp only [ucgo, ucwp, ucsC, uqC, uoC, ctC, rfd, KX7_declare, KX7_declare_0, KX7_declare_21, KX7_declare_29, KX7_declare_33, KX7_declare_40, KX7_declare_45, KX7_declare_52, KX7_declare_54, KX7_declare_102, KX7_declare_106, KX7_declare_107, lkC, s1C, s2C, dlC, kyC, Nat.beq, Nat.ble, rcd, rno, rsw, Nat.reduceAdd, Nat.reduceBEq, Nat.reduceDiv, List.drop, List.take, List.reverse, List.reverseAux, Int.toNat, Option.toList, List.append, List.cons_append, List.nil_append, zg211, zg212, zg240, zg241, zg242, zg243, zg303, zg304]
            have c85 : (Int32.ofInt 0).toInt = 0 := by decide
            refine hB _ _ _ _ _ (fun m86 hm86 => ?_)
            dsimp only [ucgo, ucwp, ucsC, uqC, uoC, ctC, rfd, KX7_declare, KX7_declare_0, KX7_declare_21, KX7_declare_29, KX7_declare_33, KX7_declare_40, KX7_declare_45, KX7_declare_52, KX7_declare_54, KX7_declare_102, KX7_declare_106, KX7_declare_107, lkC, s1C, s2C, dlC, kyC, Nat.beq, Nat.ble, rcd, rno, rsw, Nat.reduceAdd, Nat.reduceBEq, Nat.reduceDiv, List.drop, List.take, List.reverse, List.reverseAux, Int.toNat, Option.toList, List.append, List.cons_append, List.nil_append, zg211, zg212, zg240, zg241, zg242, zg243, zg303, zg304]
            intro a87 e87 ob87 fk87
            cases e87
            clear fk87 ob87
            generalize hs87 : pIC τ76 (cnC σ) 334 (Int32.ofInt 0) = s87
            have hg87 : ∀ a, a < cnC σ → ∀ k, fIC s87 a k = fIC σ a k ∧ fLC s87 a k = fLC σ a k ∧ fRC s87 a k = fRC σ a k := fun a ha k => by
              rw [← hs87]
              exact ⟨(fI_pI (Or.inr (Nat.ne_of_lt ha))).trans (hg76 a ha k).1, (hg76 a ha k).2.1, (hg76 a ha k).2.2⟩
            have he87 : eIC s87 = eIC σ ∧ eLC s87 = eLC σ ∧ eRC s87 = eRC σ := by rw [← hs87]; exact he76
            have hc87 : cnC s87 = cnC σ + 1 := by rw [← hs87]; exact hc76
            have hZ87 : ZC N E A B V s87 z := hZ.nw hg87 he87 (by omega)
            intro a88 e88 ob88
            cases e88
            intro a89 e89 ob89
            obtain rfl : E 1 = a89 := Option.some.inj (hZ87.1.1.1.symm.trans e89)
            rw [hZ87.1.2.1.2.1]
            try dsimp only
            intro w90 τ90 o90 q90
            have hq90 : AdQ2 [.inr (.inr (some (E 212))), .inr (.inr (some (cnC σ)))] s87 w90 τ90 := o90.1.1
            obtain ⟨⟨r90, rfl⟩, ⟨hH2, ht2⟩, ha1, ha2, ha3⟩ := hq90
            have hfr : FrE [0, 1, 2, 902] s87 τ90 := o90.2
            have t8 : TyC s87 (E 0) 8 := ⟨by rw [hc87]; exact Nat.lt_succ_of_lt hH.2.1, by rw [← hs87]; show tgC τ76 (E 0) = 8; rw [ht76 _ (by rw [← hs68]; exact Nat.lt_succ_of_lt hH.2.1) (Nat.ne_of_lt hH.2.1), ← hs68, tg_nO (Nat.ne_of_lt hH.2.1)]; exact hH.2.2.1, fun q => by cases q⟩
            have hls := EnC.ls hZ87.1 hH2 t8
            have hlt := hZ87.1.2.2.2.2.1
            have f2 := hfr.2 rfl
            have hpa : ∀ a, a < cnC s87 → (∀ k, 3 ≤ k ∧ k < 900 → fIC τ90 a k = fIC s87 a k ∧ fLC τ90 a k = fLC s87 a k ∧ fRC τ90 a k = fRC s87 a k) ∧ (eIC τ90 a = eIC s87 a ∧ eLC τ90 a = eLC s87 a) := fun a ha => ⟨fun k hk => (f2 a ha).1 k (by
              cases h9 : ([0, 1, 2, 902] : List Nat).elem k with
              | false => rfl
              | true =>
                have h8 := List.elem_iff.mp h9
                simp only [List.mem_cons, List.not_mem_nil, or_false] at h8
                omega), (f2 a ha).2.1 rfl, (f2 a ha).2.2.1 rfl⟩
            have hpo : PoX (cnC σ) σ τ90 := ⟨Nat.le_trans (by omega) hfr.1, fun a ha _ k hk => by
              have p := hg87 a ha k
              have q := (hpa a (by omega)).1 k hk
              exact ⟨q.1.trans p.1, q.2.1.trans p.2.1, q.2.2.trans p.2.2⟩, fun a ha => by
              have q := (hpa a (by omega)).2
              exact ⟨q.1.trans (by rw [he87.1]), q.2.trans (by rw [he87.2.1])⟩⟩
            have hlo : cnC σ < cnC τ90 := Nat.lt_of_lt_of_le (by omega) hfr.1
            have g9 : ∀ k, 330 ≤ k ∧ k ≤ 333 → fIC τ90 (cnC σ) k = fIC τ76 (cnC σ) k := fun k hk => by rw [((hpa (cnC σ) (by omega)).1 k (by omega)).1, ← hs87, pI_n (by omega)]
            have g7 : fIC τ90 (cnC σ) 335 = 0 := by rw [((hpa (cnC σ) (by omega)).1 335 (by omega)).1, ← hs87, pI_n (by omega), hi76.2.2.2.2.2.2.2.2, ← hs68]; exact nO_v.1
            have g8 : fIC τ90 (cnC σ) 334 = (Int32.ofInt 0) := by rw [((hpa (cnC σ) (by omega)).1 334 (by omega)).1, ← hs87, pI_e]
            obtain ⟨v1, v2, v3, v4, -⟩ := hi76.2.2.2.2
            have hvr : VrC τ90 (zAt z.1, ty, f, ((zMs z.1).length : Int) - 1) (if 0 ≤ lkM N z (zAt z.1) then 1 else 0) (cnC σ) := ⟨by rw [g9 330 (by omega), v1]; omega, by rw [g9 331 (by omega), v2]; omega, by rw [g9 332 (by omega), v3]; omega, by rw [g9 333 (by omega), v4]; omega, by rw [g8, if_neg (by omega)]; omega, g7⟩
            have hZ90 : ZC N E A B (upA V (zVs z.1).length (cnC σ)) τ90 (vaZ N ty f z) := ZC.va hZ hpo (Nat.le_refl _) hvr hd.1.2.2 (LiC.ao hZ87.2.2.2.1.1 ha2 ha3 hlt.2.2.1 hls.1.2.2.1 (fun q => hls.2.2.1.1 q.symm) hfr.1) (LiC.ao hZ87.2.2.2.1.2.1 ha2 ha3 hlt.2.2.2 hls.1.2.2.2 (fun q => hls.2.2.1.2 q.symm) hfr.1) (LiC.ad hZ87.2.2.2.1.2.2.1 ha1 ha3 hfr.1 hlo) (LiC.ao hZ87.2.2.2.1.2.2.2 ha2 ha3 hlt.1 hls.1.1 hls.2.1.1 hfr.1)
            have hF90 : FzC (cnC σ) (xnM z) E A A B B V (upA V (zVs z.1).length (cnC σ)) z (vaZ N ty f z) σ τ90 := FzC.va hpo (Nat.le_refl _) (Nat.le_refl _) hZ.1.2.2.2.2.2.1.2.1
            have hle90 : cnC σ ≤ cnC τ90 := Nat.le_of_lt hlo
            try dsimp only [Option.toList, List.cons_append, List.nil_append, s1C, s2C, dlC, kyC, Nat.beq, lkC, rcd, rno, rsw]
            intro a91 e91 ob91
            cases e91
            intro a92 e92 ob92
            obtain rfl : E 2 = a92 := Option.some.inj (hZ90.1.1.2.symm.trans e92)
            intro a93 e93 ob93
            cases e93
            have f94 : (fIC τ90 (E 0) 242).toInt = zAt (vaZ N ty f z).1 := hZ90.2.1.1.1
            intro a95 e95 t95 v95
            obtain rfl : E 303 = a95 := Option.some.inj (hZ90.1.2.2.1.2.1.symm.trans e95)
            generalize hs95 : qIC τ90 (E 303) (upd (eIC τ90 (E 303)) (fIC τ90 (E 0) 242).toNatClampNeg r54) = s95
            have hZ95 : ZC N E A B (upA V (zVs z.1).length (cnC σ)) s95 (vaZ N ty f z) := by rw [← hs95]; exact hZ90.mn
            have hF95 := FzC.tr hF90 (show FzC (cnC σ) (xnM z) E A A B B (upA V (zVs z.1).length (cnC σ)) (upA V (zVs z.1).length (cnC σ)) (vaZ N ty f z) (vaZ N ty f z) τ90 s95 by rw [← hs95]; exact FzC.mn (by rw [nT_toNat]; have e9 : zAt (vaZ N ty f z).1 = zAt z.1 := rfl; omega))
            have hle95 : cnC σ ≤ cnC s95 := by rw [← hs95]; exact hle90
            intro w96 τ96 o96 q96
            obtain ⟨rfl, hZ96, hf96⟩ := q96 (N, E, A, B, (upA V (zVs z.1).length (cnC σ)), (vaZ N ty f z)) ⟨rfl, hZ95, hd.2.2.2⟩
            have hF96 := FzC.tr hF95 (FzC.mo hf96 hle95 (hF95).2.2.1.1.1)
            have hle96 : cnC σ ≤ cnC τ96 := Nat.le_trans hle95 (hf96).1
            try dsimp only [Option.toList, List.cons_append, List.nil_append, s1C, s2C, dlC, kyC, Nat.beq, lkC, rcd, rno, rsw]
            try dsimp only [Qz_declare]
            have ez : accM (vaZ N ty f z) = dc0M N ty f h z := by show (accY (vadY ty f z.1), _) = (dclY ty f h z.1, _); rw [hd.2.2.1]; rfl
            rw [← ez]
            exact ⟨_, rfl, by omega, hZ96, hF96⟩
          · have g83 := nltI (x := r82) (y := 0) h83
            have z0_ : (0 : Int32).toInt = 0 := rfl
            refine hB _ _ _ _ _ (fun m97 hm97 => ?_)
            dsimp only [ucgo, ucwp, ucsC, uqC, uoC, ctC, rfd, KX7_declare, KX7_declare_0, KX7_declare_21, KX7_declare_29, KX7_declare_33, KX7_declare_40, KX7_declare_45, KX7_declare_52, KX7_declare_54, KX7_declare_102, KX7_declare_106, KX7_declare_107, lkC, s1C, s2C, dlC, kyC, Nat.beq, Nat.ble, rcd, rno, rsw, Nat.reduceAdd, Nat.reduceBEq, Nat.reduceDiv, List.drop, List.take, List.reverse, List.reverseAux, Int.toNat, Option.toList, List.append, List.cons_append, List.nil_append, zg211, zg212, zg240, zg241, zg242, zg243, zg303, zg304]
            have c98 : (Int32.ofInt 1).toInt = 1 := by decide
            refine hB _ _ _ _ _ (fun m99 hm99 => ?_)
            dsimp only [ucgo, ucwp, ucsC, uqC, uoC, ctC, rfd, KX7_declare, KX7_declare_0, KX7_declare_21, KX7_declare_29, KX7_declare_33, KX7_declare_40, KX7_declare_45, KX7_declare_52, KX7_declare_54, KX7_declare_102, KX7_declare_106, KX7_declare_107, lkC, s1C, s2C, dlC, kyC, Nat.beq, Nat.ble, rcd, rno, rsw, Nat.reduceAdd, Nat.reduceBEq, Nat.reduceDiv, List.drop, List.take, List.reverse, List.reverseAux, Int.toNat, Option.toList, List.append, List.cons_append, List.nil_append, zg211, zg212, zg240, zg241, zg242, zg243, zg303, zg304]
            intro a100 e100 ob100 fk100
            cases e100
            clear fk100 ob100
            generalize hs100 : pIC τ76 (cnC σ) 334 (Int32.ofInt 1) = s100
            have hg100 : ∀ a, a < cnC σ → ∀ k, fIC s100 a k = fIC σ a k ∧ fLC s100 a k = fLC σ a k ∧ fRC s100 a k = fRC σ a k := fun a ha k => by
              rw [← hs100]
              exact ⟨(fI_pI (Or.inr (Nat.ne_of_lt ha))).trans (hg76 a ha k).1, (hg76 a ha k).2.1, (hg76 a ha k).2.2⟩
            have he100 : eIC s100 = eIC σ ∧ eLC s100 = eLC σ ∧ eRC s100 = eRC σ := by rw [← hs100]; exact he76
            have hc100 : cnC s100 = cnC σ + 1 := by rw [← hs100]; exact hc76
            have hZ100 : ZC N E A B V s100 z := hZ.nw hg100 he100 (by omega)
            intro a101 e101 ob101
            cases e101
            intro a102 e102 ob102
            obtain rfl : E 1 = a102 := Option.some.inj (hZ100.1.1.1.symm.trans e102)
            rw [hZ100.1.2.1.2.1]
            try dsimp only
            intro w103 τ103 o103 q103
            have hq103 : AdQ2 [.inr (.inr (some (E 212))), .inr (.inr (some (cnC σ)))] s100 w103 τ103 := o103.1.1
            obtain ⟨⟨r103, rfl⟩, ⟨hH2, ht2⟩, ha1, ha2, ha3⟩ := hq103
            have hfr : FrE [0, 1, 2, 902] s100 τ103 := o103.2
            have t8 : TyC s100 (E 0) 8 := ⟨by rw [hc100]; exact Nat.lt_succ_of_lt hH.2.1, by rw [← hs100]; show tgC τ76 (E 0) = 8; rw [ht76 _ (by rw [← hs68]; exact Nat.lt_succ_of_lt hH.2.1) (Nat.ne_of_lt hH.2.1), ← hs68, tg_nO (Nat.ne_of_lt hH.2.1)]; exact hH.2.2.1, fun q => by cases q⟩
            have hls := EnC.ls hZ100.1 hH2 t8
            have hlt := hZ100.1.2.2.2.2.1
            have f2 := hfr.2 rfl
            have hpa : ∀ a, a < cnC s100 → (∀ k, 3 ≤ k ∧ k < 900 → fIC τ103 a k = fIC s100 a k ∧ fLC τ103 a k = fLC s100 a k ∧ fRC τ103 a k = fRC s100 a k) ∧ (eIC τ103 a = eIC s100 a ∧ eLC τ103 a = eLC s100 a) := fun a ha => ⟨fun k hk => (f2 a ha).1 k (by
              cases h9 : ([0, 1, 2, 902] : List Nat).elem k with
              | false => rfl
              | true =>
                have h8 := List.elem_iff.mp h9
                simp only [List.mem_cons, List.not_mem_nil, or_false] at h8
                omega), (f2 a ha).2.1 rfl, (f2 a ha).2.2.1 rfl⟩
            have hpo : PoX (cnC σ) σ τ103 := ⟨Nat.le_trans (by omega) hfr.1, fun a ha _ k hk => by
              have p := hg100 a ha k
              have q := (hpa a (by omega)).1 k hk
              exact ⟨q.1.trans p.1, q.2.1.trans p.2.1, q.2.2.trans p.2.2⟩, fun a ha => by
              have q := (hpa a (by omega)).2
              exact ⟨q.1.trans (by rw [he100.1]), q.2.trans (by rw [he100.2.1])⟩⟩
            have hlo : cnC σ < cnC τ103 := Nat.lt_of_lt_of_le (by omega) hfr.1
            have g9 : ∀ k, 330 ≤ k ∧ k ≤ 333 → fIC τ103 (cnC σ) k = fIC τ76 (cnC σ) k := fun k hk => by rw [((hpa (cnC σ) (by omega)).1 k (by omega)).1, ← hs100, pI_n (by omega)]
            have g7 : fIC τ103 (cnC σ) 335 = 0 := by rw [((hpa (cnC σ) (by omega)).1 335 (by omega)).1, ← hs100, pI_n (by omega), hi76.2.2.2.2.2.2.2.2, ← hs68]; exact nO_v.1
            have g8 : fIC τ103 (cnC σ) 334 = (Int32.ofInt 1) := by rw [((hpa (cnC σ) (by omega)).1 334 (by omega)).1, ← hs100, pI_e]
            obtain ⟨v1, v2, v3, v4, -⟩ := hi76.2.2.2.2
            have hvr : VrC τ103 (zAt z.1, ty, f, ((zMs z.1).length : Int) - 1) (if 0 ≤ lkM N z (zAt z.1) then 1 else 0) (cnC σ) := ⟨by rw [g9 330 (by omega), v1]; omega, by rw [g9 331 (by omega), v2]; omega, by rw [g9 332 (by omega), v3]; omega, by rw [g9 333 (by omega), v4]; omega, by rw [g8, if_pos (by omega)]; omega, g7⟩
            have hZ103 : ZC N E A B (upA V (zVs z.1).length (cnC σ)) τ103 (vaZ N ty f z) := ZC.va hZ hpo (Nat.le_refl _) hvr hd.1.2.2 (LiC.ao hZ100.2.2.2.1.1 ha2 ha3 hlt.2.2.1 hls.1.2.2.1 (fun q => hls.2.2.1.1 q.symm) hfr.1) (LiC.ao hZ100.2.2.2.1.2.1 ha2 ha3 hlt.2.2.2 hls.1.2.2.2 (fun q => hls.2.2.1.2 q.symm) hfr.1) (LiC.ad hZ100.2.2.2.1.2.2.1 ha1 ha3 hfr.1 hlo) (LiC.ao hZ100.2.2.2.1.2.2.2 ha2 ha3 hlt.1 hls.1.1 hls.2.1.1 hfr.1)
            have hF103 : FzC (cnC σ) (xnM z) E A A B B V (upA V (zVs z.1).length (cnC σ)) z (vaZ N ty f z) σ τ103 := FzC.va hpo (Nat.le_refl _) (Nat.le_refl _) hZ.1.2.2.2.2.2.1.2.1
            have hle103 : cnC σ ≤ cnC τ103 := Nat.le_of_lt hlo
            try dsimp only [Option.toList, List.cons_append, List.nil_append, s1C, s2C, dlC, kyC, Nat.beq, lkC, rcd, rno, rsw]
            intro a104 e104 ob104
            cases e104
            intro a105 e105 ob105
            obtain rfl : E 2 = a105 := Option.some.inj (hZ103.1.1.2.symm.trans e105)
            intro a106 e106 ob106
            cases e106
            have f107 : (fIC τ103 (E 0) 242).toInt = zAt (vaZ N ty f z).1 := hZ103.2.1.1.1
            intro a108 e108 t108 v108
            obtain rfl : E 303 = a108 := Option.some.inj (hZ103.1.2.2.1.2.1.symm.trans e108)
            generalize hs108 : qIC τ103 (E 303) (upd (eIC τ103 (E 303)) (fIC τ103 (E 0) 242).toNatClampNeg r54) = s108
            have hZ108 : ZC N E A B (upA V (zVs z.1).length (cnC σ)) s108 (vaZ N ty f z) := by rw [← hs108]; exact hZ103.mn
            have hF108 := FzC.tr hF103 (show FzC (cnC σ) (xnM z) E A A B B (upA V (zVs z.1).length (cnC σ)) (upA V (zVs z.1).length (cnC σ)) (vaZ N ty f z) (vaZ N ty f z) τ103 s108 by rw [← hs108]; exact FzC.mn (by rw [nT_toNat]; have e9 : zAt (vaZ N ty f z).1 = zAt z.1 := rfl; omega))
            have hle108 : cnC σ ≤ cnC s108 := by rw [← hs108]; exact hle103
            intro w109 τ109 o109 q109
            obtain ⟨rfl, hZ109, hf109⟩ := q109 (N, E, A, B, (upA V (zVs z.1).length (cnC σ)), (vaZ N ty f z)) ⟨rfl, hZ108, hd.2.2.2⟩
            have hF109 := FzC.tr hF108 (FzC.mo hf109 hle108 (hF108).2.2.1.1.1)
            have hle109 : cnC σ ≤ cnC τ109 := Nat.le_trans hle108 (hf109).1
            try dsimp only [Option.toList, List.cons_append, List.nil_append, s1C, s2C, dlC, kyC, Nat.beq, lkC, rcd, rno, rsw]
            try dsimp only [Qz_declare]
            have ez : accM (vaZ N ty f z) = dc0M N ty f h z := by show (accY (vadY ty f z.1), _) = (dclY ty f h z.1, _); rw [hd.2.2.1]; rfl
            rw [← ez]
            exact ⟨_, rfl, by omega, hZ109, hF109⟩
        · have g66 := (neI (x := (fIC σ (E 0) 243)) (y := 0) h66 : ¬ ((fIC σ (E 0) 243) : Int32).toInt = (0 : Int32).toInt)
          have z0_ : (0 : Int32).toInt = 0 := rfl
          exfalso
          omega
      · have g62 := nltI (x := r54) (y := (Int32.ofInt 60)) h62
        exfalso
        omega
  · have g57 := (neI (x := c55) (y := (Int32.ofInt 80)) h57 : ¬ (c55 : Int32).toInt = ((Int32.ofInt 80) : Int32).toInt)
    exfalso
    omega
theorem wz_declare : ∀ (L : Nat) (As : List AvC) (σ : CsC) (w : Option AvC) (τ : CsC), EvF L 137 As σ w τ → Uz_declare As σ w τ := by
  intro L
  cases L with
  | zero => exact fun _ _ _ _ h => h.elim
  | succ L => exact fun As σ w τ h y hy => EvF.us (cs := [234, 125, 127, 199, 139, 236, 128]) (pz_declare y) rfl (List.forall_mem_cons.2 ⟨fun _ _ _ _ _ => trivial, List.forall_mem_cons.2 ⟨wz_code L, List.forall_mem_cons.2 ⟨fun _ _ _ _ _ => trivial, List.forall_mem_cons.2 ⟨wz_Variable L, List.forall_mem_cons.2 ⟨wz_lookUp L, List.forall_mem_cons.2 ⟨fun _ _ _ _ _ => trivial, List.forall_mem_cons.2 ⟨wz_accept L, fun _ h => absurd h List.not_mem_nil⟩⟩⟩⟩⟩⟩⟩) h hy
