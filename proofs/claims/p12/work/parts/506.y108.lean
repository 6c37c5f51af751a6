/-! what the class asks of a program is what the reference asks -/
def CeQ (C D : CxT) : Prop := C.1 = D.1 ∧ C.2.2 = D.2.2 ∧ ∀ v, v < C.2.2.1 → C.2.1 v = D.2.1 v
theorem ite_iff {α : Type} {p q : Prop} [Decidable p] [Decidable q] (h : p ↔ q) {a b : α} : (if p then a else b) = if q then a else b := by
  by_cases hp : p
  · rw [if_pos hp, if_pos (h.mp hp)]
  · rw [if_neg hp, if_neg (fun z => hp (h.mpr z))]
section
variable {C D : CxT} {T : TbT} {i : Nat} {x : XrZ} {xs : Nat → XrZ}
theorem CeQ.kn (h : CeQ C D) {l : Int} : knT C l ↔ knT D l := by
  show (0 ≤ l ∧ l < (C.2.2.1 : Int)) ↔ (0 ≤ l ∧ l < (D.2.2.1 : Int))
  rw [h.2.1]
theorem CeQ.vt (h : CeQ C D) {l : Int} (q : knT C l) : vtT C l = vtT D l := h.2.2 l.toNat (by omega)
theorem ex_cg (h : CeQ C D) : exT C T i x = exT D T i x := by
  have e2 : x2T C T (T.1 i) x = x2T D T (T.1 i) x := by
    unfold x2T
    by_cases q : knT C x.2.1.2.1
    · rw [if_pos q, if_pos (h.kn.mp q), h.vt q]
    · rw [if_neg q, if_neg (fun r => q (h.kn.mpr r))]
  have e6 : x6T C (T.1 i) x = x6T D (T.1 i) x := by
    unfold x6T
    by_cases q : knT C x.2.1.2.1
    · rw [h.vt q]
      exact ite_iff ⟨fun r => ⟨⟨h.kn.mp r.1.1, r.1.2⟩, r.2⟩, fun r => ⟨⟨h.kn.mpr r.1.1, r.1.2⟩, r.2⟩⟩
    · rw [if_neg (fun r => q r.1.1), if_neg (fun r => q (h.kn.mpr r.1.1))]
  have e9 : x9T C (opT T x.2.2.1.2.2.1) (T.1 i) x = x9T D (opT T x.2.2.1.2.2.1) (T.1 i) x := by
    unfold x9T
    by_cases q : knT C x.2.1.2.1
    · rw [h.vt q]
      exact ite_iff ⟨fun r => ⟨⟨h.kn.mp r.1.1, r.1.2⟩, r.2⟩, fun r => ⟨⟨h.kn.mpr r.1.1, r.1.2⟩, r.2⟩⟩
    · rw [if_neg (fun r => q r.1.1), if_neg (fun r => q (h.kn.mpr r.1.1))]
  have es : xsT C (opT T x.2.2.1.2.1) (T.1 i) x = xsT D (opT T x.2.2.1.2.1) (T.1 i) x := by
    unfold xsT
    by_cases q : knT C x.2.1.2.1
    · rw [h.vt q]
      exact ite_iff ⟨fun r => ⟨h.kn.mp r.1, r.2⟩, fun r => ⟨h.kn.mpr r.1, r.2⟩⟩
    · rw [if_neg (fun r => q r.1), if_neg (fun r => q (h.kn.mpr r.1))]
  have ea : xaT C T (T.1 i) x = xaT D T (T.1 i) x := by
    unfold xaT cmaT mtyT
    rw [h.1, h.2.1]
  unfold exT
  rw [e2, e6, e9, es, ea]
theorem st_cg (h : CeQ C D) : stT C T i x = stT D T i x := by
  unfold stT
  rw [ex_cg h]
  by_cases k : x.1.1 = 15
  · by_cases q : knT C x.2.1.2.1
    · have e : vrT C T x = vrT D T x := by
        unfold vrT
        rw [h.vt q]
      rw [e]
    · rw [ex_15 k]
      unfold xsT
      rw [if_neg (fun r => q (h.kn.mpr r.1))]
      rfl
  · have e : vrT C T x = vrT D T x := by
      unfold vrT
      rw [if_neg k, if_neg k]
    rw [e]
theorem tb_cg (h : CeQ C D) : ∀ i, tbT C xs i = tbT D xs i := by
  intro i
  induction i with
  | zero =>
    rw [tbT, tbT, h.1]
  | succ i ih =>
    rw [tbT, tbT, ih]
    cases tbT D xs i with
    | none => rfl
    | some T => exact st_cg h
end
theorem vth_vr {s : SpC} {v : Nat} (h : v < (zVs s).length) : vth s v = vrL (zVs s) v := by
  unfold vth
  have key : ∀ (l : List (Int × Int × Int × Int)) (v : Nat), v < l.length → l.getD (l.length - 1 - v) (0, 0, 0, 0) = vrL l v := by
    intro l
    induction l with
    | nil => exact fun v h => absurd h (Nat.not_lt_zero _)
    | cons a l ih =>
      intro v h
      rw [List.length_cons] at h ⊢
      rw [vrL]
      by_cases e : v = l.length
      · rw [if_pos e, show l.length + 1 - 1 - v = 0 by omega]
        rfl
      · rw [if_neg e, show l.length + 1 - 1 - v = (l.length - 1 - v) + 1 by omega]
        exact ih v (by omega)
  exact key _ v h
theorem ce_zx {N : Int → Int} {z : ZS} {ms : MfT} : CeQ (CzT N z ms) (CxM N z.1 ms) := ⟨rfl, rfl, fun v hv => by
  show ((vth z.1 v).2.1, (vth z.1 v).2.2.1) = ((vrL (zVs z.1) v).2.1, (vrL (zVs z.1) v).2.2.1)
  rw [vth_vr hv]⟩
/-- variables clash or not -/
def C01 (z : ZS) : Prop := ∀ v, clW z v = 0 ∨ clW z v = 1
def C01W (z0 z : ZS) : Prop := C01 z0 → C01 z
section
variable {N : Int → Int} {z0 z z' : ZS} {a b c : ZS} {j n k : Nat}
theorem C01W.e (e : z'.2.2.2.2.2.1 = z.2.2.2.2.2.1) : C01W z z' := fun h v => by
  unfold clW
  rw [e]
  exact h v
theorem C01W.tr (h : C01W a b) (g : C01W b c) : C01W a c := fun q => g (h q)
theorem C01W.dc {ty f h : Int} : C01W z (dcM N ty f h z) := fun q v => by
  show (if v = (zVs z.1).length then (if 0 ≤ lkM N z (zAt z.1) then (1 : Int) else 0) else z.2.2.2.2.2.1 v) = 0 ∨ (if v = (zVs z.1).length then (if 0 ≤ lkM N z (zAt z.1) then (1 : Int) else 0) else z.2.2.2.2.2.1 v) = 1
  by_cases e : v = (zVs z.1).length
  · rw [if_pos e]
    by_cases g : 0 ≤ lkM N z (zAt z.1)
    · rw [if_pos g]
      exact Or.inr rfl
    · rw [if_neg g]
      exact Or.inl rfl
  · rw [if_neg e]
    exact q v
theorem C01W.ee : C01W z (eM N n z) := C01W.e (by rw [(ks_lv (N := N) n).1 z])
theorem C01W.va1 {f ty : Int} : C01W z (va1M N j n f ty z) := by
  refine (C01W.dc (N := N) (ty := ty) (f := f) (h := 1)).tr ?_
  show C01W (dcM N ty f 1 z) (va2M N j n f (zVs z.1).length (zAt z.1) (seM j (sLk (zVs z.1).length) (dcM N ty f 1 z)))
  unfold va2M
  split
  · refine C01W.tr (b := xpM 8 (coM 22 (zVs z.1).length 2 (zAt z.1) (seM j (sLk (zVs z.1).length) (dcM N ty f 1 z)))) (C01W.e rfl) ?_
    exact C01W.tr (C01W.ee (N := N) (n := n)) (C01W.e rfl)
  · exact C01W.e rfl
end
theorem c01_w {N : Int → Int} : WkC N C01W := ⟨fun _ => C01W.e rfl, fun _ _ _ => C01W.tr, fun _ _ _ _ => C01W.e rfl, fun _ _ _ => C01W.e rfl, fun _ _ _ _ _ _ => C01W.va1, fun _ _ => C01W.e rfl, fun _ => C01W.e rfl, fun _ _ _ _ => C01W.e rfl, fun _ _ _ => C01W.e rfl, fun _ _ _ => C01W.e rfl, fun _ _ _ _ _ => C01W.dc, fun _ _ _ => C01W.e rfl, fun _ _ => C01W.ee, fun _ _ _ => C01W.e rfl, fun z n c _ => by
  show C01W z (enM (snM z) (cnM z) (xpM 4 (if codY (accY z.1) = 80 then _ else _)))
  split
  · exact C01W.e rfl
  · exact C01W.e rfl, fun _ _ _ _ _ => C01W.e rfl, fun _ _ _ => C01W.e rfl⟩
theorem c01_all {N : Int → Int} {f : Nat} {s : SpC} : C01 (prM N f (z0S s)) := Rl.pr (N := N) (R := C01W) f (z0S s) c01_w (fun _ => Or.inl rfl)
section
variable {N : Int → Int} {σ : RS} {s : SpC} {z : ZS} {L : List Nat} {T : TbT} {g0 : GzA} {J : Nat → Nat}
theorem RdA.df (h : RdA N σ s z) (hL : L.length = (zMs z.1).length) (P : PrD N z L 0 (0, 0, []) (psM z)) (hT : tbT (CxR N z) (fun i => xth z i) (xnM z) = some T) (hok : ∀ y l, (.inr y :: l) <:+ z.2.1 → okS (CxR N z) N T l y) : DfX N (CxR N z) z T (msM N koY kiY z.1) := by
  have sg := fun i hi => h.sg (i := i) hi
  have va := fun i hi k => h.va (i := i) hi k
  obtain ⟨⟨hs, hz, hft⟩, R, _⟩ := h
  subst hz
  exact dfx_of hs hft R P hL sg va hT hok
theorem RdA.ok (h : RdA N σ s z) (hL : L.length = (zMs z.1).length) (P : PrD N z L 0 (0, 0, []) (psM z)) : (∀ y l, (.inr y :: l) <:+ z.2.1 → okS (CxR N z) N T l y) ↔ ∀ j, j < snM z → skT N z T (msM N koY kiY z.1) j := by
  obtain ⟨⟨hs, hz, hft⟩, R, _⟩ := h
  subst hz
  exact ok_sk hs R P hL
theorem RdA.up (h : RdA N σ s z) : UpS z ∧ ∀ j, j < snM z → paS z j < (j : Int) := by
  obtain ⟨⟨hs, hz, hft⟩, _⟩ := h
  subst hz
  exact up_pr (N := N) (f := 11) (z := z0S s) rfl (by show (-1 : Int) < 0; decide)
/-- the class tells no ERROR where the reference tells none; then it says the same of each S -/
theorem pok_iff (h : RdA N σ s z) (hL : L.length = (zMs z.1).length) (hJ : ∀ i j, L[i]? = some j → J i = j) (P : PrD N z L 0 (0, 0, []) (psM z)) (hg : G0T z g0) : (PokT N z (msM N koY kiY z.1) (zMs z.1).length J (V1W N s) (2 * snM z) g0 T ↔ OkP N s z L T) ∧ (OkP N s z L T → LgR z 0 (snM z) (raL (rcF N z T (2 * snM z)) z (msM N koY kiY z.1) J (zMs z.1).length 0 r00) (GlW N s z L T) ∧ LgA z 0 (snM z) (asL (asF N z T (2 * snM z)) (msM N koY kiY z.1) J (V1W N s) (zMs z.1).length 0 g0) (GlW N s z L T)) := by
  have cl : (∀ v, v < (zVs z.1).length → clS z v = 0) ↔ ∀ v, v < vnW z → ¬ clW z v = 1 := by
    have c := c01_all (N := N) (f := 11) (s := s)
    rw [← h.1.2.1] at c
    constructor
    · intro q v hv e
      have q : clW z v = 0 := q v hv
      omega
    · intro q v hv
      show clW z v = 0
      exact (c v).resolve_right (q v hv)
  have tb : tbT (CzT N z (msM N koY kiY z.1)) (fun i => xth z i) (xnM z) = tbT (CxR N z) (fun i => xth z i) (xnM z) := tb_cg ce_zx _
  have fl : tbT (CxR N z) (fun i => xth z i) (xnM z) = some T → (∀ j, j < snM z → skT N z T (msM N koY kiY z.1) j) → ((((raL (rcF N z T (2 * snM z)) z (msM N koY kiY z.1) J (zMs z.1).length 0 r00).2.2.2 = false ∧ geA (asL (asF N z T (2 * snM z)) (msM N koY kiY z.1) J (V1W N s) (zMs z.1).length 0 g0) = false) ↔ FlO N z T (msM N koY kiY z.1) (V1W N s) (2 * snM z) L 0) ∧ (FlO N z T (msM N koY kiY z.1) (V1W N s) (2 * snM z) L 0 → LgR z 0 (snM z) (raL (rcF N z T (2 * snM z)) z (msM N koY kiY z.1) J (zMs z.1).length 0 r00) (GlW N s z L T) ∧ LgA z 0 (snM z) (asL (asF N z T (2 * snM z)) (msM N koY kiY z.1) J (V1W N s) (zMs z.1).length 0 g0) (GlW N s z L T))) := fun t k => by
    have D := h.df hL P t ((h.ok hL P).mpr k)
    have q := (fl_all D h.up.2 (J := J) (V1 := V1W N s) (Nat.le_refl _) L 0 (0, 0, []) (psM z) P (Nat.le_refl _) (List.suffix_refl _) (fun i j e => by rw [Nat.zero_add]; exact hJ i j e)).2 r00 g0 (fun _ _ _ => ⟨rfl, rfl⟩) (fun i _ hi => hg.1 i hi) rfl hg.2
    rw [hL] at q
    exact ⟨q.1, fun r => ⟨(q.2 r).1, (q.2 r).2.1⟩⟩
  refine ⟨⟨fun ⟨⟨a, b⟩, c, d, e, f⟩ => ?_, fun ⟨⟨a, b⟩, c, d, e⟩ => ?_⟩, fun ⟨⟨a, b⟩, c, d, e⟩ => (fl c ((h.ok hL P).mp d)).2 e⟩
  · rw [tb] at c
    exact ⟨⟨a, cl.mp b⟩, c, (h.ok hL P).mpr d, (fl c d).1.mp ⟨e, f⟩⟩
  · have d' := (h.ok hL P).mp d
    have q := (fl c d').1.mpr e
    exact ⟨⟨a, cl.mpr b⟩, by rw [tb]; exact c, d', q.1, q.2⟩
end
