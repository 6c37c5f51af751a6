/-! the law: both halves between two calls, the program that stands -/
/-- what the reference has read of the kept text, judged or not -/
def RfA (y : TxY) (ρ : RS) : Prop := ∀ N s n, Z0Y s → TkS y s n → NwN N y n → RfS N ρ s (prM N 11 (z0S s))
theorem RfA.f8 {y : TxY} {ρ ρ1 : RS} (h : RfA y ρ) (f : F8 ρ ρ1) : RfA y ρ1 := fun N s n a b c => (h N s n a b c).f8 f
theorem RfA.jd {y : TxY} {ρ ρ1 : RS} (h : RfA y ρ) (h91 : gI ρ 91 = 0) (j : JdR ρ ρ1) : RfA y ρ1 := fun N s n a b c => (h N s n a b c).jd h91 j
theorem RfA.hx {y : TxY} {ρ ρ1 : RS} (h : RfA y ρ) (h91 : gI ρ 91 = 0) (j : HX ρ ρ1) : RfA y ρ1 := fun N s n a b c => (h N s n a b c).hx h91 j
theorem RfA.judge {y : TxY} {ρ ρ1 : RS} {w : Option Value} (h : RfA y ρ) (h91 : gI ρ 91 = 0) (e : EvM 126 [] ρ w ρ1) : RfA y ρ1 := fun N s n a b c => (h N s n a b c).judge h91 e
theorem RfA.type {y : TxY} {ρ ρ1 : RS} {w : Option Value} {i k : Int32} (h : RfA y ρ) (h91 : gI ρ 91 = 0) (e : EvM 135 [.int i, .int k] ρ w ρ1) : RfA y ρ1 := h.jd h91 ((w_type [.int i, .int k] ρ trivial w ρ1 e) trivial).1
theorem RfA.constant {y : TxY} {ρ ρ1 : RS} {w : Option Value} {i k : Int32} (h : RfA y ρ) (h91 : gI ρ 91 = 0) (e : EvM 136 [.int i, .int k] ρ w ρ1) : RfA y ρ1 := h.jd h91 ((w_constant [.int i, .int k] ρ trivial w ρ1 e) trivial).1
theorem RfA.ends {y : TxY} {ρ ρ1 : RS} {w : Option Value} {i : Int32} (h : RfA y ρ) (h91 : gI ρ 91 = 0) (e : EvM 137 [.int i] ρ w ρ1) : RfA y ρ1 := h.jd h91 ((w_ends [.int i] ρ trivial w ρ1 e) trivial).1
theorem RfA.assigned {y : TxY} {ρ ρ1 : RS} {w : Option Value} {i k : Int32} (h : RfA y ρ) (h91 : gI ρ 91 = 0) (e : EvM 138 [.int i, .int k] ρ w ρ1) : RfA y ρ1 := h.jd h91 ((w_assigned [.int i, .int k] ρ trivial w ρ1 e) trivial).1
theorem RfA.means {y : TxY} {ρ ρ1 : RS} {w : Option Value} {i : Int32} (h : RfA y ρ) (h91 : gI ρ 91 = 0) (e : EvM 133 [.int i] ρ w ρ1) : RfA y ρ1 := by
  obtain ⟨r, rfl, q⟩ := (w_means [.int i] ρ trivial w ρ1 e) trivial
  rcases q with ⟨_, _, rfl⟩ | ⟨_, j, _⟩
  · exact h
  · exact h.jd h91 j
/-- the program that stands, in both halves -/
def JqD (a : Nat) (σ : CsC) (ρ : RS) : Prop := ∃ y, okY y ∧ (y.2 = (gI ρ 119).toInt ∧ ∀ j : Nat, (j : Int) < y.2 → y.1 j = (aI ρ 118 j).toInt) ∧ RfA y ρ ∧ ∃ P P', (fRC σ a 363 = some P ∧ fRC σ a 364 = some P') ∧ PpC σ P P' ∧ PgA y σ P
/-- what a call of the class keeps of the programs -/
def CkK (a : Nat) (σ τ : CsC) : Prop := (fRC τ a 363 = fRC σ a 363 ∧ fRC τ a 364 = fRC σ a 364) ∧ ∀ P P', fRC σ a 363 = some P → fRC σ a 364 = some P' → PpC σ P P' → PpC τ P P' ∧ AnF σ τ P
section
variable {a : Nat} {σ τ : CsC} {ρ ρ1 : RS}
theorem CkK.rf : CkK a σ σ := ⟨⟨rfl, rfl⟩, fun _ _ _ _ h => ⟨h, AnF.rf⟩⟩
theorem CkK.fx {M M' : List Nat} (H : HI0 σ) (ty : TyC σ a 12) (f : FrE M σ τ) (e : ExC M' σ τ) (hM : [999, 1, 2, 60, 62, 64, 68, 70, 71, 181, 182, 183, 185, 212, 213, 214, 215, 216, 217, 270, 271, 274, 282, 285].all (fun k => !M.elem k) = true) (hm : [2, 363, 364, 995].all (fun k => !M'.elem k) = true) : CkK a σ τ := by
  refine ⟨⟨ty.mr e (nel hm rfl), ty.mr e (nel hm rfl)⟩, fun P P' e1 e2 h => ?_⟩
  obtain ⟨Q, -, i1, t1⟩ := cg363 H ty
  obtain ⟨Q', -, i2, t2⟩ := cg364 H ty
  obtain rfl : P = Q := Option.some.inj (e1.symm.trans i1)
  obtain rfl : P' = Q' := Option.some.inj (e2.symm.trans i2)
  have sub : ∀ L : List Nat, L.all (fun k => [999, 1, 2, 60, 62, 64, 68, 70, 71, 181, 182, 183, 185, 212, 213, 214, 215, 216, 217, 270, 271, 274, 282, 285].elem k) = true → L.all (fun k => !M.elem k) = true := fun L hL => List.all_eq_true.mpr (fun k hk => by
    have q := List.all_eq_true.mp hL k hk
    rw [nel hM q]
    rfl)
  exact ⟨h.fx H t1 t2 f e (sub _ rfl) (nel hm rfl), AnF.fx H t1 f e (sub _ rfl) (nel hm rfl)⟩
theorem JqD.k (h : JqD a σ ρ) (H : HI0 σ) (ty : TyC σ a 12) (k : CkK a σ τ) (e1 : gI ρ1 119 = gI ρ 119) (e2 : aI ρ1 118 = aI ρ 118) (hr : ∀ y, RfA y ρ → RfA y ρ1) : JqD a τ ρ1 := by
  obtain ⟨y, h1, ⟨h2, h3⟩, h4, P, P', ⟨h5, h6⟩, h7, h8⟩ := h
  obtain ⟨Q, -, i1, t1⟩ := cg363 H ty
  obtain rfl : P = Q := Option.some.inj (h5.symm.trans i1)
  have q := k.2 P P' h5 h6 h7
  exact ⟨y, h1, ⟨by rw [e1]; exact h2, fun j hj => by rw [e2]; exact h3 j hj⟩, hr y h4, P, P', ⟨k.1.1.trans h5, k.1.2.trans h6⟩, q.1, h8.an H t1 q.2⟩
/-- more keys -/
theorem AnC.ke {N : Int → Int} {E A B V : Nat → Nat} {s : SpC} {z : ZS} {L : List Nat} (h : AnC N E A B V σ s z L) : AnC N (fun k => if k = 11 then a else E k) A B V σ s z L := h
theorem JqD.type {i k r r2 : Int32} {L9 : Nat} (h : JqD a σ ρ) (h91 : gI ρ 91 = 0) (c : EvF L9 212 [.inr (.inr (some a)), .inl i, .inl k] σ (some (.inl r)) τ) (e : EvM 135 [.int i, .int k] ρ (some (.int r2)) ρ1) : r = r2 := by
  obtain ⟨y, h1, h2, h4, P, P', ⟨h5, h6⟩, h7, N, E, A, B, V, s, n, L, k1, ⟨⟨b1, b2, b3⟩, b4⟩, ⟨b5, b6⟩, b7⟩ := h
  obtain ⟨_, r3, e3, q⟩ := (h4 N s n b1 b2 b3).type h91 b5 b6 e
  obtain rfl : r2 = r3 := Value.int.inj (Option.some.inj e3)
  refine sm_type (b7.ke (a := a)) (ea_all b4 b1) (fun T hX => ?_) q
  obtain ⟨_, r4, e4, q4⟩ := wz_type L9 _ _ _ _ c (N, (fun k => if k = 11 then a else E k), A, B, V, prM N 11 (z0S s), T) ⟨_, _, rfl, by show fRC σ a 363 = some (E 1); rw [k1]; exact h5, hX⟩
  obtain rfl : r = r4 := Sum.inl.inj (Option.some.inj e4)
  exact q4
theorem JqD.constant {i k : Int32} {r r2 : Int64} {L9 : Nat} (h : JqD a σ ρ) (h91 : gI ρ 91 = 0) (c : EvF L9 213 [.inr (.inr (some a)), .inl i, .inl k] σ (some (.inr (.inl r))) τ) (e : EvM 136 [.int i, .int k] ρ (some (.long r2)) ρ1) : r = r2 := by
  obtain ⟨y, h1, h2, h4, P, P', ⟨h5, h6⟩, h7, N, E, A, B, V, s, n, L, k1, ⟨⟨b1, b2, b3⟩, b4⟩, ⟨b5, b6⟩, b7⟩ := h
  obtain ⟨_, r3, e3, q⟩ := (h4 N s n b1 b2 b3).constant h91 b5 b6 e
  obtain rfl : r2 = r3 := Value.long.inj (Option.some.inj e3)
  refine sm_constant (b7.ke (a := a)) (ea_all b4 b1) (fun T hX => ?_) q
  obtain ⟨_, r4, e4, q4⟩ := wz_constant L9 _ _ _ _ c (N, (fun k => if k = 11 then a else E k), A, B, V, prM N 11 (z0S s), T) ⟨_, _, rfl, by show fRC σ a 363 = some (E 1); rw [k1]; exact h5, hX⟩
  obtain rfl : r = r4 := Sum.inl.inj (Sum.inr.inj (Option.some.inj e4))
  exact q4
theorem okp_cv {N : Int → Int} {s : SpC} {z : ZS} {L : List Nat} (P : PrD N z L 0 (0, 0, []) (psM z)) : ∀ T, OkP N s z L T → ∀ j, j < snM z → SkD z j → ∃ x ∈ GlW N s z L T, x.1 = j := fun T hT j hj hk => (cv_pr (N := N) (z := z) (T := T) (ms := msM N koY kiY z.1) (V1 := V1W N s) (Nat.le_refl _) L 0 (0, 0, []) (psM z) P (Nat.le_refl _)).2 hT.2.2.2 j (Nat.zero_le _) hj hk
theorem JqD.ends {i r r2 : Int32} {L9 : Nat} (h : JqD a σ ρ) (h91 : gI ρ 91 = 0) (c : EvF L9 214 [.inr (.inr (some a)), .inl i] σ (some (.inl r)) τ) (e : EvM 137 [.int i] ρ (some (.int r2)) ρ1) : r = r2 := by
  obtain ⟨y, h1, h2, h4, P, P', ⟨h5, h6⟩, h7, N, E, A, B, V, s, n, L, k1, ⟨⟨b1, b2, b3⟩, b4⟩, ⟨b5, b6⟩, b7⟩ := h
  obtain ⟨_, r3, e3, q⟩ := (h4 N s n b1 b2 b3).ends h91 b5 b6 e
  obtain rfl : r2 = r3 := Value.int.inj (Option.some.inj e3)
  refine sm_ends (b7.ke (a := a)) (tki_pr b4 b1.1).1 (okp_cv b6) (fun hX => ?_) q
  obtain ⟨_, r4, e4, q4⟩ := wz_ends L9 _ _ _ _ c (N, (fun k => if k = 11 then a else E k), A, B, V, prM N 11 (z0S s)) ⟨_, rfl, by show fRC σ a 363 = some (E 1); rw [k1]; exact h5, hX⟩
  obtain rfl : r = r4 := Sum.inl.inj (Option.some.inj e4)
  exact q4
theorem JqD.assigned {i k r r2 : Int32} {L9 : Nat} (h : JqD a σ ρ) (h91 : gI ρ 91 = 0) (c : EvF L9 215 [.inr (.inr (some a)), .inl i, .inl k] σ (some (.inl r)) τ) (e : EvM 138 [.int i, .int k] ρ (some (.int r2)) ρ1) : r = r2 := by
  obtain ⟨y, h1, h2, h4, P, P', ⟨h5, h6⟩, h7, N, E, A, B, V, s, n, L, k1, ⟨⟨b1, b2, b3⟩, b4⟩, ⟨b5, b6⟩, b7⟩ := h
  obtain ⟨_, r3, e3, q⟩ := (h4 N s n b1 b2 b3).assigned h91 b5 b6 e
  obtain rfl : r2 = r3 := Value.int.inj (Option.some.inj e3)
  refine sm_assigned (b7.ke (a := a)) (tki_pr b4 b1.1).1 (okp_cv b6) (fun hX => ?_) q
  obtain ⟨_, r4, e4, q4⟩ := wz_assigned L9 _ _ _ _ c (N, (fun k => if k = 11 then a else E k), A, B, V, prM N 11 (z0S s)) ⟨_, _, rfl, by show fRC σ a 363 = some (E 1); rw [k1]; exact h5, hX⟩
  obtain rfl : r = r4 := Sum.inl.inj (Option.some.inj e4)
  exact q4
end
/-! read -/
theorem rk_key {ρ : RS} {x : TxY} {s : SpC} {n : Nat} (hok : okY x) (hx : (gI ρ 1).toInt = x.2 ∧ ∀ j, (aI ρ 0 j).toInt = x.1 j) (hZ : Z0Y s) (hT : TkS x s n) : ∀ (b : Int32) (T U : RS), EvM 6 [] ρ none T → EvM 37 [] T (some (.int b)) U → LxQ ρ T x ∧ ((some (Value.int b) = some (Value.int 0) ∧ FlR U (prlY 11 s)) ∨ (some (Value.int b) = some (Value.int 1) ∧ MhR U (prlY 11 s) ∧ codY (prlY 11 s) = 84)) := fun b T U e1 e2 => by
  have a : (none : Option Value) = none ∧ LxQ ρ T x := w_lexer [] ρ trivial none T e1 x ⟨hok, hx.1, hx.2⟩
  exact ⟨a.2, w_parse [] T trivial _ U e2 s ⟨sh_of hok a.2 hT hZ, hZ⟩⟩
theorem RfX.of {ρ T U : RS} (hI : IV ρ) (e1 : EvM 6 [] ρ none T) (e2 : EvM 37 [] T (some (.int 1)) U) : RfX (txR ρ) U := ⟨fun s n a b => by
  rcases (rk_key (tx_ok hI) ⟨rfl, fun _ => rfl⟩ a b 1 T U e1 e2).2 with ⟨q, _⟩ | ⟨_, q, _⟩
  · exact absurd (Value.int.inj (Option.some.inj q)) (by decide)
  · exact q, fun s n N a b c => rfu_of (tx_ok hI) ⟨rfl, fun _ => rfl⟩ a b c e1 e2⟩
theorem jq_rd {a L9 m : Nat} {σ τ : CsC} {ρ ρ1 : RS} {w : Option AvC} {r2 : Int32} {y0 : TxY} {lz : LzY} (H0 : HIC σ) (ty : TyC σ a 12) (hR : IV ρ) (hJ : JqD a σ ρ) (hp : Pp_read (txR ρ, y0, m, lz) [.inr (.inr (some a))] σ) (c : EvF L9 204 [.inr (.inr (some a))] σ w τ) (h2 : RnX ρ r2 ρ1) : JqD a τ ρ1 := by
  obtain ⟨y, j1, ⟨j2, j3⟩, j4, P, P', j5, j7, j8⟩ := hJ
  obtain ⟨gB, gG⟩ := wz_read L9 _ _ _ _ c (fun _ => 0, fun _ => 0, fun _ => 0, fun _ => 0, fun _ => 0, z0S ((0, 0, 0), ([], []), (fun _ => 84), ((fun _ => 0), (fun _ => none), (fun _ => none), 0, [])), txR ρ, y0, m, lz, P, P') ⟨_, rfl, H0, hp, j5, j7⟩
  obtain ⟨Q, -, i1, t1⟩ := cg363 H0.1 ty
  obtain rfl : P = Q := Option.some.inj (j5.1.symm.trans i1)
  rcases h2 with ⟨_, ⟨hg, g68⟩, g3⟩ | ⟨⟨f, ⟨T, U, e1, e2, _⟩, _⟩, hb⟩
  · obtain ⟨T, U, e1, e2, f3, f4, f9⟩ := id hg
    obtain ⟨q1, q2, q3⟩ := gG U (RfX.of hR e1 e2)
    refine ⟨txR ρ, tx_ok hR, ⟨by rw [g3.1]; rfl, fun j hj => ?_⟩, fun N s n b1 b2 b3 => Or.inl (hg.rb hR b1 b2 b3 g68), P', P, q1, q2, q3⟩
    have z : (j : Int) < (gI ρ 1).toInt := hj
    rw [g3.2 j (by show j < (gI ρ 1).toInt.toNat; omega)]
    rfl
  · obtain ⟨q1, q2, q3⟩ := gB (fun s n a b => by
      rcases (rk_key (tx_ok hR) ⟨rfl, fun _ => rfl⟩ a b 0 T U e1 e2).2 with ⟨_, q, _⟩ | ⟨q, _⟩
      · exact q
      · exact absurd (Value.int.inj (Option.some.inj q)) (by decide))
    exact ⟨y, j1, ⟨by rw [hb.2.1]; exact j2, fun j hj => by rw [hb.2.2]; exact j3 j hj⟩, fun N s n b1 b2 b3 => Or.inl (hb.rb j1 j2 j3 b1 b2 b3), P, P', q1, q2, j8.an H0.1 t1 q3⟩
/-! the start -/
theorem tk_0 {y : TxY} {s : SpC} {n : Nat} (hT : TkS y s n) (h2 : y.2 = 0) : n = 0 := by
  by_cases c : n = 0
  · exact c
  exfalso
  have q := (hT.2.1 0 (by omega)).2.2.2
  have e : skY y 0 = 0 := by
    unfold skY
    rw [h2]
    show bbY y 0 0 0 = 0
    rw [bbY, h2]
  have q : skY y 0 < y.2 := q
  omega
theorem em_z {N : Int → Int} {y : TxY} {s : SpC} (hZ : Z0Y s) (hT : TkS y s 0) (h2 : y.2 = 0) : prM N 11 (z0S s) = z0S s := by
  obtain ⟨z1, z2, z3, z4⟩ := hZ
  have k84 : zK s 0 = 84 := by
    rcases hT.2.2.2 with ⟨a, _⟩ | ⟨_, _, a, _⟩
    · exact a
    · exfalso
      have e : skY y 0 = 0 := by
        unfold skY
        rw [h2]
        show bbY y 0 0 0 = 0
        rw [bbY, h2]
      have a : skY y 0 < y.2 := a
      omega
  have c : codY (z0S s).1 = 84 := by
    show codY s = 84
    unfold codY
    rw [if_pos z2, z1]
    exact k84
  rw [prM, if_pos (show zFt (z0S s).1 = 0 from z2), if_pos c]
theorem PgA.new {τ : CsC} {P lo hi : Nat} {y : TxY} {s : SpC} (hy : y.2 = 0) (hZ : Z0Y s) (hT : TkS y s 0) (h : BpC lo hi τ P) : PgA y τ P := by
  obtain ⟨_, h217, hl⟩ := h
  obtain ⟨l2, e2, _, z2⟩ := hl 212 (by decide) (by decide)
  obtain ⟨l3, e3, _, z3⟩ := hl 213 (by decide) (by decide)
  obtain ⟨l4, e4, _, z4⟩ := hl 214 (by decide) (by decide)
  obtain ⟨E, hE⟩ : ∃ E : Nat → Nat, E = fun k => if k = 1 then P else if k = 212 then l2 else if k = 213 then l3 else l4 := ⟨_, rfl⟩
  have k1 : E 1 = P := by rw [hE]; rfl
  have k2 : E 212 = l2 := by rw [hE]; rfl
  have k3 : E 213 = l3 := by rw [hE]; rfl
  have k4 : E 214 = l4 := by rw [hE]; rfl
  have ez := em_z (N := fun _ => 0) hZ hT hy
  have em := em_of (N := fun _ => 0) hZ hT hy
  have hft : zFt (prM (fun _ => 0) 11 (z0S s)).1 = 0 := by rw [ez]; exact hZ.2.1
  obtain ⟨L, p1, _, p3⟩ := pr_d hft ⟨hZ.1, hZ.2.2.1⟩
  obtain rfl : L = [] := em_L em p1
  refine ⟨fun _ => 0, E, fun _ => 0, fun _ => 0, fun _ => 0, s, 0, [], k1, ⟨⟨hZ, hT, fun k hk => absurd hk (Nat.not_lt_zero _)⟩, hft⟩, ⟨p1, p3⟩, ?_⟩
  rw [ez] at em ⊢
  have x0 : xnM (z0S s) = 0 := rfl
  have s0 : snM (z0S s) = 0 := rfl
  have v0 : vnW (z0S s) = 0 := by
    show (zVs s).length = 0
    rw [hZ.2.2.2]
    rfl
  have li : ∀ {a : Nat} {F : Nat → Nat}, fIC τ a 2 = 0 → LiC τ a 0 F := fun {a F} q => ⟨by rw [q]; rfl, fun i hi => absurd hi (Nat.not_lt_zero _)⟩
  refine Or.inr ⟨fun q => q (by rw [k1]; exact h217), _, em_ok em, ⟨⟨by rw [k1, k3]; exact e3, by rw [x0, k3]; exact li z3, fun q hq => absurd hq (by rw [x0]; exact Nat.not_lt_zero _), by rw [x0]; exact Nat.zero_le _⟩, fun q hq => absurd hq (by rw [x0]; exact Nat.not_lt_zero _)⟩, ⟨⟨by rw [k1, k4]; exact e4, by rw [s0, k4]; exact li z4, fun q hq => absurd hq (by rw [s0]; exact Nat.not_lt_zero _), by rw [s0]; exact Nat.zero_le _⟩, ⟨by rw [k1, k2]; exact e2, by rw [v0, k2]; exact li z2, by rw [v0]; decide⟩, fun j hj => absurd hj (by rw [s0]; exact Nat.not_lt_zero _)⟩, fun x hx => absurd hx List.not_mem_nil⟩
theorem PpC.new {a : Nat} {τ : CsC} (h : Ip11 a τ) (H : HI0 τ) (ty : TyC τ a 12) : ∃ P P', (fRC τ a 363 = some P ∧ fRC τ a 364 = some P') ∧ PpC τ P P' ∧ ∃ lo hi, BpC lo hi τ P := by
  obtain ⟨P, P', m, ⟨h1, h2⟩, hn, ⟨l, h3⟩, n, h4⟩ := h
  obtain ⟨Q, -, i1, t1⟩ := cg363 H ty
  obtain ⟨Q', -, i2, t2⟩ := cg364 H ty
  obtain rfl : P = Q := Option.some.inj (h1.symm.trans i1)
  obtain rfl : P' = Q' := Option.some.inj (h2.symm.trans i2)
  refine ⟨P, P', ⟨h1, h2⟩, ⟨⟨hn, fun k a b e => ?_⟩, h3.1.1.p H t1, h4.1.1.p H t2⟩, l, m, h3⟩
  obtain ⟨c, e1, ⟨_, c2, _⟩, _⟩ := h3.2.2 k a b
  obtain ⟨d, f1, ⟨d1, _⟩, _⟩ := h4.2.2 k a b
  rw [e1, f1] at e
  have := Option.some.inj e
  omega
