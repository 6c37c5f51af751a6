/-! the reference's flow: at a place of the codes; what an S does -/
def AtF (τ : RS) (C : CxT) (z : ZS) (T : TbT) (M : Int32) (l : List ItZ) (σ : RS) : Prop := (RnR τ σ (plI l) M ∧ ¬ BdF σ) ∧ EnF σ C z T ∧ ∃ n : Nat, (gI σ 103).toInt = (n : Int) ∧ n ≤ l.length
/-- no S from lo on has begun -/
def Is0 (z : ZS) (lo : Nat) (σ : RS) : Prop := ∀ i, lo ≤ i → i < snM z → SkD z i → aI σ 109 (fiS z i).toNat = 0
def BgF (τ : RS) (C : CxT) (z : ZS) (T : TbT) (M : Int32) (lo : Nat) (l : List ItZ) (σ : RS) : Prop := AtF τ C z T M l σ ∧ HdR l ∧ Is0 z lo σ ∧ OjR z lo (l.length : Int) (jnS σ)
def RowT (i : Nat) (σ Y : RS) : Prop := aI Y 95 i = aI σ 95 i ∧ aL Y 96 i = aL σ 96 i ∧ aI Y 97 i = aI σ 97 i ∧ aL Y 98 i = aL σ 98 i ∧ aL Y 99 i = aL σ 99 i
def FzT (b : Nat) (σ Y : RS) : Prop := FfR σ Y ∧ ∀ i, i < b → RowT i σ Y
def LgU (σ Y : RS) (u : Nat) : Prop := aI Y 109 u = aI σ 109 u ∧ aL Y 110 u = aL σ 110 u ∧ aI Y 111 u = aI σ 111 u
/-- where S's from lo to hi began, with which bits, whether they end -/
def LgF (z : ZS) (lo hi : Nat) (σ Y : RS) (G : List (Nat × Int64 × Bool)) : Prop := (∀ u : Nat, (∀ i, lo ≤ i → i < hi → SkD z i → ¬ (fiS z i).toNat = u) → LgU σ Y u) ∧ ∀ x ∈ G, (lo ≤ x.1 ∧ x.1 < hi ∧ SkD z x.1) ∧ ¬ aI Y 109 (fiS z x.1).toNat = 0 ∧ aL Y 110 (fiS z x.1).toNat = x.2.1 ∧ (¬ aI Y 111 (fiS z x.1).toNat = 0 ↔ x.2.2 = true)
def OutF (τ : RS) (C : CxT) (z : ZS) (T : TbT) (M : Int32) (lo hi b : Nat) (l l' : List ItZ) (σ : RS) (R : ReG) (Y : RS) : Prop := BgF τ C z T M hi l' Y ∧ Bw Y (R.1 = true) R.2.1 R.2.1 ∧ JsH z (l.length : Int) (l'.length : Int) (jnS σ) Y R.2.2.1 ∧ FzT b σ Y ∧ LgF z lo hi σ Y R.2.2.2
/-- jumps since then, but not yet where they lead -/
def JsK (z : ZS) (c0 c1 : Int) (J0 : List JfZ) (σ : RS) (J : List JmZ) : Prop := ∃ K, jnS σ = J0 ++ K ∧ JrR z c0 c1 K J
def OutI (τ : RS) (C : CxT) (z : ZS) (T : TbT) (M : Int32) (lo hi b : Nat) (l l' : List ItZ) (σ : RS) (R : ReG) (Y : RS) : Prop := AtF τ C z T M l' Y ∧ Bw Y (R.1 = true) R.2.1 R.2.1 ∧ JsK z (l.length : Int) (l'.length : Int) (jnS σ) Y R.2.2.1 ∧ FzT b σ Y ∧ LgF z lo hi σ Y R.2.2.2
abbrev FwSo (τ : RS) (C : CxT) (N : Int → Int) (z : ZS) (T : TbT) (St : SsT) : Prop := ∀ a p q, St a p q → ∀ (f : Nat) (M : Int32) (σ : RS) (al : Bool) (mm : Int64), 2 * (q.1 - p.1) ≤ f + 1 → a < (p.1 : Int) → BgF τ C z T M p.1 p.2.2 σ → Bw σ (al = true) mm mm → (BdF τ ∧ (dF N z T f).2.2 p.1 al mm = none) ∨ ∃ R Y, (dF N z T f).2.2 p.1 al mm = some R ∧ OutF τ C z T M p.1 q.1 p.2.1 p.2.2 q.2.2 σ R Y
abbrev FwRo (τ : RS) (C : CxT) (N : Int → Int) (z : ZS) (T : TbT) (Rw : RsT) : Prop := ∀ a L p q, Rw 0 0 a L p q → q.1 ≤ snM z → q.2.2 <:+ z.2.1 → ∀ (f : Nat) (M : Int32) (σ : RS) (al : Bool) (mm : Int64), 2 * (q.1 - p.1) ≤ f → a < (p.1 : Int) → BgF τ C z T M p.1 p.2.2 σ → Bw σ (al = true) mm mm → (BdF τ ∧ (dF N z T f).1 (hdI L) al mm = none) ∨ ∃ R Y, (dF N z T f).1 (hdI L) al mm = some R ∧ OutF τ C z T M p.1 q.1 p.2.1 p.2.2 q.2.2 σ R Y
abbrev FwRs (τ : RS) (C : CxT) (N : Int → Int) (z : ZS) (T : TbT) (Rw : RsT) : Prop := ∀ (k : Nat) a L p q, Rw 1 k a L p q → k < p.2.1 → q.1 ≤ snM z → q.2.2 <:+ z.2.1 → ∀ (f : Nat) (M : Int32) (σ : RS) (al d : Bool) (mm : Int64), 2 * (q.1 - p.1) ≤ f → a < (p.1 : Int) → BgF τ C z T M p.1 p.2.2 σ → Bw σ (al = true) mm mm → (0 ≤ dfZ (k : Int) p.2.2 ↔ d = true) → (BdF τ ∧ (dF N z T f).2.1 (hdI L) (aL σ 96 k) al mm d = none) ∨ ∃ R Y, (dF N z T f).2.1 (hdI L) (aL σ 96 k) al mm d = some R ∧ OutF τ C z T M p.1 q.1 k p.2.2 q.2.2 σ R.2 Y ∧ aL Y 96 k = aL σ 96 k ∧ (0 ≤ dfZ (k : Int) q.2.2 ↔ R.1 = true)
abbrev FwI (τ : RS) (C : CxT) (N : Int → Int) (z : ZS) (T : TbT) (j hi k : Nat) (l l' : List ItZ) : Prop := ∀ (f : Nat) (M : Int32) (σ : RS) (mm : Int64), 2 * (hi - j) ≤ f + 2 → BgF τ C z T M (j + 1) l σ → OjR z j (l.length : Int) (jnS σ) → Bw σ True mm mm → (BdF τ ∧ inD' (dF N z T f) N z T j mm = none) ∨ ∃ R Y, inD' (dF N z T f) N z T j mm = some R ∧ OutI τ C z T M (j + 1) hi k l l' σ R Y
def TkI (z : ZS) : Prop := ∀ i j, i < snM z → j < snM z → SkD z i → SkD z j → (fiS z i).toNat = (fiS z j).toNat → i = j
/-- what is fixed -/
def GxF (N : Int → Int) (C : CxT) (z : ZS) (T : TbT) (ms : MfT) : Prop := DfX N C z T ms ∧ PuE C z T ∧ MonT z ∧ TkI z ∧ ∀ i, i < snM z → paS z i < (i : Int)
section
variable {σ τ Y W : RS} {C : CxT} {z : ZS} {T : TbT} {l l' m : List ItZ} {k j lo mid hi b : Nat} {M : Int32} {A : Prop} {u v : Int64} {J0 : List JfZ} {J J' : List JmZ} {c0 c1 c2 c3 : Int} {o : Bool} {G G' : List (Nat × Int64 × Bool)}
theorem RowT.rf : RowT k σ σ := ⟨rfl, rfl, rfl, rfl, rfl⟩
theorem RowT.tr (h : RowT k σ Y) (g : RowT k Y W) : RowT k σ W := ⟨g.1.trans h.1, g.2.1.trans h.2.1, g.2.2.1.trans h.2.2.1, g.2.2.2.1.trans h.2.2.2.1, g.2.2.2.2.trans h.2.2.2.2⟩
theorem FzT.rf : FzT b σ σ := ⟨FfR.rf, fun _ _ => RowT.rf⟩
theorem FzT.tr (h : FzT b σ Y) (g : FzT b Y W) : FzT b σ W := ⟨h.1.tr g.1, fun i hi => (h.2 i hi).tr (g.2 i hi)⟩
theorem FzT.mo {c : Nat} (h : FzT b σ Y) (q : c ≤ b) : FzT c σ Y := ⟨h.1, fun i hi => h.2 i (by omega)⟩
theorem FqT.fz (h : FqT k σ Y) : FzT k σ Y := ⟨h.1, fun i hi => h.2.1 i (by omega)⟩
theorem FzT.q (h : FzT b σ Y) (g : FqT k Y W) (q : b ≤ k) : FzT b σ W := h.tr (g.fz.mo q)
theorem LgU.tr {u : Nat} (h : LgU σ Y u) (g : LgU Y W u) : LgU σ W u := ⟨g.1.trans h.1, g.2.1.trans h.2.1, g.2.2.trans h.2.2⟩
theorem FqT.lg (h : FqT k σ Y) (u : Nat) : LgU σ Y u := ⟨congrFun h.2.2.1 u, congrFun h.2.2.2.1 u, congrFun h.2.2.2.2 u⟩
theorem LgF.sa (h : ∀ u, LgU σ Y u) : LgF z lo hi σ Y [] := ⟨fun u _ => h u, fun _ q => absurd q List.not_mem_nil⟩
theorem FqT.lf (h : FqT k σ Y) : LgF z lo hi σ Y [] := LgF.sa h.lg
theorem LgF.tr (hT : TkI z) (hz : hi ≤ snM z) (h1 : lo ≤ mid) (h2 : mid ≤ hi) (h : LgF z lo mid σ Y G) (g : LgF z mid hi Y W G') : LgF z lo hi σ W (G ++ G') := by
  refine ⟨fun u hu => (h.1 u (fun i a b c => hu i a (by omega) c)).tr (g.1 u (fun i a b c => hu i (by omega) b c)), fun x hx => ?_⟩
  rcases List.mem_append.mp hx with hx | hx
  · obtain ⟨⟨a1, a2, a3⟩, a4, a5, a6⟩ := h.2 x hx
    obtain ⟨e1, e2, e3⟩ := g.1 (fiS z x.1).toNat (fun i p q r s => by
      have := hT i x.1 (by omega) (by omega) r a3 s
      omega)
    rw [e1, e2, e3]
    exact ⟨⟨a1, by omega, a3⟩, a4, a5, a6⟩
  · obtain ⟨⟨a1, a2, a3⟩, a4⟩ := g.2 x hx
    exact ⟨⟨by omega, a2, a3⟩, a4⟩
theorem LgF.wd {lo' hi' : Nat} (h : LgF z lo hi σ Y G) (h1 : lo' ≤ lo) (h2 : hi ≤ hi') : LgF z lo' hi' σ Y G := ⟨fun u hu => h.1 u (fun i a b c => hu i (by omega) (by omega) c), fun x hx => ⟨⟨by have := (h.2 x hx).1.1; omega, by have := (h.2 x hx).1.2.1; omega, (h.2 x hx).1.2.2⟩, (h.2 x hx).2⟩⟩
theorem LgF.q (h : LgF z lo hi σ Y G) (g : FqT k Y W) : LgF z lo hi σ W G := by
  refine ⟨fun u hu => (h.1 u hu).tr (g.lg u), fun x hx => ?_⟩
  obtain ⟨e1, e2, e3⟩ := g.lg (fiS z x.1).toNat
  rw [e1, e2, e3]
  exact h.2 x hx
theorem LgF.qb (g : FqT k σ Y) (h : LgF z lo hi Y W G) : LgF z lo hi σ W G := ⟨fun u hu => (g.lg u).tr (h.1 u hu), h.2⟩
theorem Is0.lg (hT : TkI z) (h : Is0 z lo σ) (g : LgF z lo hi σ Y G) (h1 : lo ≤ hi) : Is0 z hi Y := fun i a b c => by
  by_cases e : i < lo
  · omega
  · have q := (g.1 (fiS z i).toNat (fun i' p q r s => by
      have := hT i' i (by omega) b r c s
      omega)).1
    rw [q]
    exact h i (by omega) b c
theorem Is0.q (h : Is0 z lo σ) (g : FqT k σ Y) : Is0 z lo Y := fun i a b c => by
  rw [(g.lg _).1]
  exact h i a b c
theorem AtF.mv (h : AtF τ C z T M l σ) (r : RnR τ Y (plI l') M ∧ ¬ BdF Y) (f : FfR σ Y) (e : gI Y 103 = gI σ 103) (n : l.length ≤ l'.length) : AtF τ C z T M l' Y := ⟨r, h.2.1.fr f, by
  obtain ⟨n0, a, b⟩ := h.2.2
  exact ⟨n0, by rw [e]; exact a, by omega⟩⟩
theorem BgF.mv {lo' : Nat} (h : BgF τ C z T M lo l σ) (a : AtF τ C z T M l' Y) (g : NxT k σ Y) (hd : HdR l') (n : l.length ≤ l'.length) (q : lo ≤ lo') : BgF τ C z T M lo' l' Y := ⟨a, hd, fun i c d e => h.2.2.1.q g.1 i (by omega) d e, by
  rw [g.2.1]
  exact h.2.2.2.mo q (by omega)⟩
theorem JsK.rf : JsK z c0 c1 (jnS σ) σ [] := ⟨[], (List.append_nil _).symm, trivial⟩
theorem JsK.q (h : JsK z c0 c1 J0 σ J) (q : jnS Y = jnS σ) : JsK z c0 c1 J0 Y J := by
  unfold JsK
  rw [q]
  exact h
theorem JsH.jk (h : JsH z c0 c1 J0 σ J) : JsK z c0 c1 J0 σ J := by
  obtain ⟨K, a, b, _⟩ := h
  exact ⟨K, a, b⟩
theorem JsK.wd (h : JsK z c0 c1 J0 σ J) (a : c2 ≤ c0) (b : c1 ≤ c3) : JsK z c2 c3 J0 σ J := by
  obtain ⟨K, e, g⟩ := h
  exact ⟨K, e, g.wd a b⟩
theorem JsH.wd (h : JsH z c0 c1 J0 σ J) (a : c2 ≤ c0) (b : c1 ≤ c3) : JsH z c2 c3 J0 σ J := by
  obtain ⟨K, e, g, t⟩ := h
  exact ⟨K, e, g.wd a b, t⟩
theorem JsK.ap (h : JsK z c0 c1 J0 σ J) (g : JsK z c0 c1 (jnS σ) Y J') : JsK z c0 c1 J0 Y (J ++ J') := by
  obtain ⟨K, e, a⟩ := h
  obtain ⟨K', e', a'⟩ := g
  exact ⟨K ++ K', by rw [e', e, List.append_assoc], a.ap a'⟩
theorem TgO.nil : TgO z [] := fun _ q => absurd q List.not_mem_nil
theorem TgO.ap (h : TgO z J) (g : TgO z J') : TgO z (J ++ J') := fun y hy => (List.mem_append.mp hy).elim (h y) (g y)
theorem JsH.ap (h : JsH z c0 c1 J0 σ J) (g : JsH z c0 c1 (jnS σ) Y J') : JsH z c0 c1 J0 Y (J ++ J') := by
  obtain ⟨K, e, a, t⟩ := h
  obtain ⟨K', e', a', t'⟩ := g
  exact ⟨K ++ K', by rw [e', e, List.append_assoc], a.ap a', t.ap t'⟩
theorem JsH.rf : JsH z c0 c1 (jnS σ) σ [] := ⟨[], (List.append_nil _).symm, trivial, TgO.nil⟩
/-- jumps lead to S's around with things of their own -/
theorem jto_tg (hp : ∀ i, i < snM z → paS z i < (i : Int)) {a : Int} (h : JtO z a J) (ha : a + 1 < (snM z : Int)) : TgO z J ∧ ∀ y ∈ J, y.1 ≤ a + 1 ∨ y.1 < 0 := by
  have key : ∀ (on : Bool) (k : Nat) (a x : Int), ChO z on k a x → a + 1 < (snM z : Int) → OwK z x.toNat ∧ x ≤ a + 1 := by
    intro on k
    induction k with
    | zero => exact fun _ _ h => absurd h id
    | succ k ih =>
      intro a x ⟨h0, h⟩ ha
      rcases h with ⟨rfl, h⟩ | ⟨rfl, h6, _, h⟩ | h
      · refine ⟨?_, by omega⟩
        unfold OwK
        unfold LpK at h
        omega
      · refine ⟨?_, by omega⟩
        rw [show (a + 1).toNat = a.toNat + 1 by omega]
        unfold OwK
        unfold LpK at h
        omega
      · have p := hp a.toNat (by omega)
        obtain ⟨i1, i2⟩ := ih _ _ h (by omega)
        exact ⟨i1, by omega⟩
  refine ⟨fun y hy y0 => ?_, fun y hy => ?_⟩
  · rcases h y hy with q | ⟨k, q⟩
    · omega
    · obtain ⟨r1, r2⟩ := key _ _ _ _ q ha
      exact ⟨r1, by omega⟩
  · rcases h y hy with q | ⟨k, q⟩
    · exact Or.inr q
    · exact Or.inl (key _ _ _ _ q ha).2
/-- behind an S: what stands for the next one -/
theorem BgF.nx (hX : TkI z) (hp : ∀ i, i < snM z → paS z i < (i : Int)) {a : Int} (h : BgF τ C z T M lo l σ) (hat : AtF τ C z T M l' Y) (hd : HdR l') (n : l.length ≤ l'.length) (h1 : lo < hi) (hz : hi ≤ snM z) (ha : a < (lo : Int)) (hj : JsK z (l.length : Int) (l'.length : Int) (jnS σ) Y J) (ht : JtS z a lo J) (hl : LgF z lo hi σ Y G) : BgF τ C z T M hi l' Y ∧ JsH z (l.length : Int) (l'.length : Int) (jnS σ) Y J := by
  obtain ⟨t1, t2⟩ := jto_tg hp ht.1 (by omega)
  obtain ⟨K, e, g⟩ := hj
  refine ⟨⟨hat, hd, h.2.2.1.lg hX hl (by omega), ?_⟩, K, e, g, t1⟩
  rw [e]
  refine OjR.ap (h.2.2.2.mo (c' := (l'.length : Int)) (Nat.le_of_lt h1) (by omega)) g (fun y hy y0 => ⟨(t1 y hy y0).1, ?_⟩)
  rcases t2 y hy with q | q
  · omega
  · omega
/-- a whole exp -/
theorem ex_go {lv : Int} {r : XrZ} {ms : MfT} {N : Int → Int} {mm : Int64} (H : GxF N C z T ms) (h : AtF τ C z T M l σ) (hh : HdR l) (hX : ExX lv l m r) (hl0 : 0 ≤ lv) (hm : m <:+ z.2.1) (hB : Bw σ A mm mm) (k : Nat) : (BdF τ ∧ exD z T ((xcZ m : Int) - 1) mm = none) ∨ ∃ Y e, exD z T ((xcZ m : Int) - 1) mm = some e ∧ AtF τ C z T M m Y ∧ Bw Y A e.1 e.2 ∧ NxT k σ Y ∧ ∀ i, RowT i σ Y := by
  rcases fx_ex H.1.1 H.2.1 h.2.1.1 hX hl0 hh hm hB.xv h.1.2 h.1.1 with q | ⟨Y, e, e1, r1, b1, x1, v1⟩
  · exact Or.inl q
  · obtain ⟨B, F, Q, R⟩ := x1.bw (k := k) hB v1
    exact Or.inr ⟨Y, e, e1, h.mv ⟨r1, b1⟩ F.1 Q.1 hX.sf.length_le, B, ⟨F, Q.jn, Q.1⟩, R⟩
end
