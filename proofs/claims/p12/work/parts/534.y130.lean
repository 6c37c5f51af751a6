/-! the first state: a program's constructor -/
/-- objects below c stay, but x -/
def NoxC (x c : Nat) (σ τ : CsC) : Prop := cnC σ ≤ cnC τ ∧ ∀ a, a < c → a ≠ x → (∀ j, j < 900 → j ≠ 185 → fIC τ a j = fIC σ a j ∧ fRC τ a j = fRC σ a j) ∧ (fIC τ a 185 = fIC σ a 185 ∧ fLC τ a 181 = fLC σ a 181) ∧ eIC τ a = eIC σ a
def AlC (c : Nat) (σ τ : CsC) : Prop := cnC σ ≤ cnC τ ∧ ∀ a, a < c → (∀ j, j < 900 → j ≠ 185 → fIC τ a j = fIC σ a j ∧ fRC τ a j = fRC σ a j) ∧ (fIC τ a 185 = fIC σ a 185 ∧ fLC τ a 181 = fLC σ a 181) ∧ eIC τ a = eIC σ a
section
variable {σ τ υ s s1 s2 : CsC} {x c n0 p0 k : Nat}
theorem NoxC.rf : NoxC x c σ σ := ⟨Nat.le_refl _, fun _ _ _ => ⟨fun _ _ _ => ⟨rfl, rfl⟩, ⟨rfl, rfl⟩, rfl⟩⟩
theorem NoxC.tr (h : NoxC x c σ τ) (g : NoxC x c τ υ) : NoxC x c σ υ := ⟨Nat.le_trans h.1 g.1, fun a ha hn => by
  have p := h.2 a ha hn
  have q := g.2 a ha hn
  exact ⟨fun j h1 h2 => ⟨(q.1 j h1 h2).1.trans (p.1 j h1 h2).1, (q.1 j h1 h2).2.trans (p.1 j h1 h2).2⟩, ⟨q.2.1.1.trans p.2.1.1, q.2.1.2.trans p.2.1.2⟩, q.2.2.trans p.2.2⟩⟩
theorem AlC.no (h : AlC c σ τ) : NoxC x c σ τ := ⟨h.1, fun a ha _ => h.2 a ha⟩
theorem AlC.le {d : Nat} (h : AlC c σ τ) (hd : d ≤ c) : AlC d σ τ := ⟨h.1, fun a ha => h.2 a (by omega)⟩
theorem AlC.tr (h : AlC c σ τ) (g : AlC c τ υ) : AlC c σ υ := ⟨Nat.le_trans h.1 g.1, fun a ha => by
  have p := h.2 a ha
  have q := g.2 a ha
  exact ⟨fun j h1 h2 => ⟨(q.1 j h1 h2).1.trans (p.1 j h1 h2).1, (q.1 j h1 h2).2.trans (p.1 j h1 h2).2⟩, ⟨q.2.1.1.trans p.2.1.1, q.2.1.2.trans p.2.1.2⟩, q.2.2.trans p.2.2⟩⟩
theorem NoxC.al (h : NoxC x c σ τ) (hx : c ≤ x) : AlC c σ τ := ⟨h.1, fun a ha => h.2 a ha (by omega)⟩
theorem AlC.nO {t N g : Nat} : AlC (cnC σ) σ (nOC σ t N g) := ⟨Nat.le_succ _, fun a ha => ⟨fun j _ _ => ⟨(nO_a (by omega)).1, (nO_a (by omega)).2.2⟩, ⟨(nO_a (by omega)).1, (nO_a (by omega)).2.1⟩, rfl⟩⟩
theorem AlC.nA {t N g : Nat} : AlC (cnC σ) σ (nAC σ t N g) := ⟨Nat.le_succ _, fun a ha => ⟨fun j _ _ => ⟨rfl, rfl⟩, ⟨rfl, rfl⟩, u1C_ne (by omega)⟩⟩
theorem NoxC.pR {v : Option Nat} : NoxC x c σ (pRC σ x k v) := ⟨Nat.le_refl _, fun a _ hn => ⟨fun j _ _ => ⟨rfl, fR_pR (Or.inr hn)⟩, ⟨rfl, rfl⟩, rfl⟩⟩
theorem NoxC.pI {v : Int32} : NoxC x c σ (pIC σ x k v) := ⟨Nat.le_refl _, fun a _ hn => ⟨fun j _ _ => ⟨fI_pI (Or.inr hn), rfl⟩, ⟨fI_pI (Or.inr hn), rfl⟩, rfl⟩⟩
/-- a constructor's call: a frame, and all but the new object stays -/
theorem NoxC.xt {M M' : List Nat} (f : FrE M' σ τ) (e : ExT x M σ τ) (hM : M.all (fun j => Nat.ble 900 j) = true) (hM' : [999, 181, 900].all (fun k => !M'.elem k) = true) : NoxC x (cnC σ) σ τ := ⟨e.1, fun a ha hn => by
  have q := (e.2.2 a ha hn).2.2.2
  have el : ∀ j, j < 900 → M.elem j = false := fun j hj => ne_1 (fun i hi z => by
    have := Nat.le_of_ble_eq_true (List.all_eq_true.mp hM i hi)
    omega)
  exact ⟨fun j h1 _ => q j (el j h1), ⟨(q 185 (el 185 (by decide))).1, ((f.2 (nel hM' rfl) a ha).1 181 (nel hM' rfl)).2.1⟩, (f.2 (nel hM' rfl) a ha).2.1 (nel hM' rfl)⟩⟩
/-- new and its constructor -/
theorem AlC.ne {t N g : Nat} (h : NoxC (cnC s) (cnC (nOC s t N g)) (nOC s t N g) τ) : AlC (cnC s) s τ := ⟨Nat.le_trans (Nat.le_succ _) h.1, fun a ha => by
  have p := (AlC.nO (σ := s) (t := t) (N := N) (g := g)).2 a ha
  have q := h.2 a (Nat.lt_succ_of_lt ha) (by omega)
  exact ⟨fun j h1 h2 => ⟨(q.1 j h1 h2).1.trans (p.1 j h1 h2).1, (q.1 j h1 h2).2.trans (p.1 j h1 h2).2⟩, ⟨q.2.1.1.trans p.2.1.1, q.2.1.2.trans p.2.1.2⟩, q.2.2.trans p.2.2⟩⟩
/-- what stands while a program is made: n0 at its begin, σ the state then; its fields, its lists, its methods -/
def B6 (n0 p0 : Nat) (σ s : CsC) (fl : List (Nat × Nat)) (lz : List Nat) (me : List (Nat × Int64 × Int32)) : Prop := (n0 ≤ cnC s ∧ p0 < n0) ∧ NoxC p0 n0 σ s ∧ fIC s p0 217 = fIC σ p0 217 ∧ (∀ q ∈ fl, q.1 < 900 ∧ q.1 ≠ 185 ∧ fRC s p0 q.1 = some q.2) ∧ (∀ a ∈ lz, n0 ≤ a ∧ a < cnC s ∧ fIC s a 2 = 0) ∧ ∀ m ∈ me, n0 ≤ m.1 ∧ m.1 < cnC s ∧ fLC s m.1 181 = m.2.1 ∧ fIC s m.1 182 = m.2.2 ∧ fIC s m.1 185 = 0 ∧ ∃ r, fRC s m.1 183 = some r ∧ n0 ≤ r ∧ r < cnC s
theorem B6.rf (hp : p0 < cnC σ) : B6 (cnC σ) p0 σ σ [] [] [] := ⟨⟨Nat.le_refl _, hp⟩, NoxC.rf, rfl, fun _ h => absurd h List.not_mem_nil, fun _ h => absurd h List.not_mem_nil, fun _ h => absurd h List.not_mem_nil⟩
theorem B6.al {fl : List (Nat × Nat)} {lz : List Nat} {me : List (Nat × Int64 × Int32)} (h : B6 n0 p0 σ s fl lz me) (a : AlC (cnC s) s s2) : B6 n0 p0 σ s2 fl lz me := by
  obtain ⟨⟨h1, h1'⟩, h2, h3, h4, h5, h6⟩ := h
  have pa := a.2 p0 (by omega)
  refine ⟨⟨Nat.le_trans h1 a.1, h1'⟩, h2.tr ((a.le h1).no), (pa.1 217 (by decide) (by decide)).1.trans h3, fun q hq => ?_, fun b hb => ?_, fun m hm => ?_⟩
  · obtain ⟨q1, q2, q3⟩ := h4 q hq
    exact ⟨q1, q2, (pa.1 q.1 q1 q2).2.trans q3⟩
  · obtain ⟨q1, q2, q3⟩ := h5 b hb
    exact ⟨q1, Nat.lt_of_lt_of_le q2 a.1, ((a.2 b q2).1 2 (by decide) (by decide)).1.trans q3⟩
  · obtain ⟨q1, q2, q3, q4, q5, r, q6, q7, q8⟩ := h6 m hm
    have e := a.2 m.1 q2
    exact ⟨q1, Nat.lt_of_lt_of_le q2 a.1, e.2.1.2.trans q3, (e.1 182 (by decide) (by decide)).1.trans q4, e.2.1.1.trans q5, r, (e.1 183 (by decide) (by decide)).2.trans q6, q7, Nat.lt_of_lt_of_le q8 a.1⟩
theorem B6.pr {fl : List (Nat × Nat)} {lz : List Nat} {me : List (Nat × Int64 × Int32)} {v : Nat} (h : B6 n0 p0 σ s fl lz me) (hk : k < 900 ∧ k ≠ 185) (hf : fl.all (fun q => !Nat.beq q.1 k) = true) : B6 n0 p0 σ (pRC s p0 k (some v)) ((k, v) :: fl) lz me := by
  obtain ⟨h1, h2, h3, h4, h5, h6⟩ := h
  refine ⟨h1, h2.tr NoxC.pR, h3, fun q hq => ?_, h5, fun m hm => ?_⟩
  · rcases List.mem_cons.mp hq with rfl | hq
    · exact ⟨hk.1, hk.2, fR_pRs⟩
    · obtain ⟨q1, q2, q3⟩ := h4 q hq
      refine ⟨q1, q2, (fR_pR (Or.inl ?_)).trans q3⟩
      intro e
      have := List.all_eq_true.mp hf q hq
      rw [e, Nat.beq_refl] at this
      cases this
  · obtain ⟨q1, q2, q3, q4, q5, r, q6, q7⟩ := h6 m hm
    exact ⟨q1, q2, q3, q4, q5, r, (fR_pR (Or.inr (by omega))).trans q6, q7⟩
theorem B6.lz {fl : List (Nat × Nat)} {lz : List Nat} {me : List (Nat × Int64 × Int32)} {a : Nat} (h : B6 n0 p0 σ s fl lz me) (ha : n0 ≤ a ∧ a < cnC s ∧ fIC s a 2 = 0) : B6 n0 p0 σ s fl (a :: lz) me := ⟨h.1, h.2.1, h.2.2.1, h.2.2.2.1, fun b hb => (List.mem_cons.mp hb).elim (fun e => by rw [e]; exact ha) (h.2.2.2.2.1 b), h.2.2.2.2.2⟩
theorem B6.me {fl : List (Nat × Nat)} {lz : List Nat} {me : List (Nat × Int64 × Int32)} {m : Nat × Int64 × Int32} (h : B6 n0 p0 σ s fl lz me) (ha : n0 ≤ m.1 ∧ m.1 < cnC s ∧ fLC s m.1 181 = m.2.1 ∧ fIC s m.1 182 = m.2.2 ∧ fIC s m.1 185 = 0 ∧ ∃ r, fRC s m.1 183 = some r ∧ n0 ≤ r ∧ r < cnC s) : B6 n0 p0 σ s fl lz (m :: me) := ⟨h.1, h.2.1, h.2.2.1, h.2.2.2.1, h.2.2.2.2.1, fun b hb => (List.mem_cons.mp hb).elim (fun e => by rw [e]; exact ha) (h.2.2.2.2.2 b)⟩
/-- out, in of a program, without their kinds -/
def OiQ (σ : CsC) (P : Nat) : Prop := ∃ o i, (fRC σ P 215 = some o ∧ fRC σ P 216 = some i) ∧ (MkC σ (koY, 5, [4]) o ∧ MkC σ (kiY, 3, []) i) ∧ o < cnC σ ∧ i < cnC σ
theorem OiQ.p {P : Nat} (h : OiQ σ P) (H : HI0 σ) (t : TyC σ P 7) : OiP σ P := by
  obtain ⟨o, i, ⟨h1, h2⟩, ⟨h3, h4⟩, _⟩ := h
  obtain ⟨b, -, e, tb⟩ := cg215 H t
  obtain ⟨d, -, f, td⟩ := cg216 H t
  obtain rfl : o = b := Option.some.inj (h1.symm.trans e)
  obtain rfl : i = d := Option.some.inj (h2.symm.trans f)
  exact ⟨o, i, ⟨h1, h2⟩, ⟨h3, h4⟩, tb, td⟩
theorem OiQ.al {P : Nat} (h : OiQ σ P) (a : AlC (cnC σ) σ τ) (hP : P < cnC σ) : OiQ τ P := by
  obtain ⟨o, i, ⟨h1, h2⟩, ⟨⟨a1, a2, a3, r, ⟨a4, a5, a6⟩, a7⟩, ⟨b1, b2, b3, q, ⟨b4, b5, b6⟩, b7⟩⟩, ho, hi⟩ := h
  have p := (a.2 P hP).1
  have eo := a.2 o ho
  have ei := a.2 i hi
  refine ⟨o, i, ⟨(p 215 (by decide) (by decide)).2.trans h1, (p 216 (by decide) (by decide)).2.trans h2⟩, ⟨⟨by rw [eo.2.1.2]; exact a1, by rw [(eo.1 182 (by decide) (by decide)).1]; exact a2, by rw [eo.2.1.1]; exact a3, r, ⟨(eo.1 183 (by decide) (by decide)).2.trans a4, Nat.lt_of_lt_of_le a5 a.1, a6⟩, fun j hj => by rw [(a.2 r a5).2.2]; exact a7 j hj⟩, ⟨by rw [ei.2.1.2]; exact b1, by rw [(ei.1 182 (by decide) (by decide)).1]; exact b2, by rw [ei.2.1.1]; exact b3, q, ⟨(ei.1 183 (by decide) (by decide)).2.trans b4, Nat.lt_of_lt_of_le b5 a.1, b6⟩, fun j hj => by rw [(a.2 q b5).2.2]; exact b7 j hj⟩⟩, Nat.lt_of_lt_of_le ho a.1, Nat.lt_of_lt_of_le hi a.1⟩
/-- out gets its param -/
theorem OiQ.mk {fl : List (Nat × Nat)} {lz : List Nat} {o i : Nat} {ko ki : Int64} {w : Option AvC} (h : B6 n0 p0 σ s fl lz [(i, ki, 3), (o, ko, 5)]) (h1 : fRC s p0 215 = some o) (h2 : fRC s p0 216 = some i) (k1 : ko.toInt = koY) (k2 : ki.toInt = kiY) (hoi : o ≠ i) (q : Q_X5_addParam [.inr (.inr (some o)), .inl 4] s w τ) (f : FrE [185, 900] s τ) (hc : cnC τ = cnC s) : OiQ τ p0 := by
  obtain ⟨-, -, ex, a1, -, a3, a4, -, -⟩ := q
  obtain ⟨o1, o2, o3, o4, o5, r, o6, o7, o8⟩ := h.2.2.2.2.2 (o, ko, 5) (List.mem_cons_of_mem _ List.mem_cons_self)
  obtain ⟨i1, i2, i3, i4, i5, q, i6, i7, i8⟩ := h.2.2.2.2.2 (i, ki, 3) List.mem_cons_self
  dsimp only at o1 o2 o3 o4 o5 o6 i1 i2 i3 i4 i5 i6
  have hp : p0 < cnC s := Nat.lt_of_lt_of_le h.1.2 h.1.1
  have F : ∀ a, a < cnC s → ∀ k, k ≠ 185 → k ≠ 900 → fIC τ a k = fIC s a k ∧ fLC τ a k = fLC s a k ∧ fRC τ a k = fRC s a k := fun a ha k z1 z2 => (f.2 rfl a ha).1 k (ne_1 (fun j hj => by simp only [List.mem_cons, List.not_mem_nil, or_false] at hj; omega))
  have z0 : (fIC s o 185).toInt = 0 := by rw [o5]; rfl
  refine ⟨o, i, ⟨(F p0 hp 215 (by decide) (by decide)).2.2.trans h1, (F p0 hp 216 (by decide) (by decide)).2.2.trans h2⟩, ⟨⟨?_, ?_, ?_, r, ⟨(F o o2 183 (by decide) (by decide)).2.2.trans o6, by omega, by decide⟩, fun j hj => ?_⟩, ⟨?_, ?_, ?_, q, ⟨(F i i2 183 (by decide) (by decide)).2.2.trans i6, by omega, by decide⟩, fun j hj => absurd hj (Nat.not_lt_zero _)⟩⟩, by omega, by omega⟩
  · rw [(F o o2 181 (by decide) (by decide)).2.1, o3]; exact k1
  · rw [(F o o2 182 (by decide) (by decide)).1, o4]; rfl
  · rw [a1 (by omega), z0]; rfl
  · have hj : j < 1 := hj
    obtain rfl : j = 0 := by omega
    rw [a4 (by omega) r o6, o5]
    rfl
  · rw [(F i i2 181 (by decide) (by decide)).2.1, i3]; exact k2
  · rw [(F i i2 182 (by decide) (by decide)).1, i4]; rfl
  · rw [a3 i (fun e => hoi e.symm), i5]; rfl
end
/-- what stands behind a program's constructor -/
def Ip6 (p0 : Nat) (σ τ : CsC) : Prop := NoxC p0 (cnC σ) σ τ ∧ fIC τ p0 217 = fIC σ p0 217 ∧ OiQ τ p0 ∧ ∀ k, 211 ≤ k → k ≤ 214 → ∃ a, fRC τ p0 k = some a ∧ (cnC σ ≤ a ∧ a < cnC τ) ∧ fIC τ a 2 = 0
section
variable {σ τ υ s : CsC} {p0 : Nat}
theorem Ip6.we (h : Ip6 p0 σ τ) (w : WeC τ υ) : Ip6 p0 σ υ := by
  obtain ⟨h1, h2, ⟨o, i, h3, h4, h5⟩, h6⟩ := h
  refine ⟨?_, by rw [we_i w]; exact h2, ⟨o, i, by rw [we_r w]; exact h3, ?_, by rw [we_c w]; exact h5⟩, by rw [we_r w, we_c w, we_i w]; exact h6⟩
  · unfold NoxC
    rw [we_c w, we_i w, we_r w, we_l w, we_ei w]
    exact h1
  · unfold MkC
    rw [we_c w, we_i w, we_r w, we_l w, we_ei w]
    exact h4
theorem Ip6.mk {fl : List (Nat × Nat)} {lz : List Nat} {o i : Nat} {ko ki : Int64} {w : Option AvC} (h : B6 (cnC σ) p0 σ s fl lz [(i, ki, 3), (o, ko, 5)]) (hl : ∀ k, 211 ≤ k → k ≤ 214 → ∃ a, (k, a) ∈ fl ∧ a ∈ lz) (hO : OiQ τ p0) (q : Q_X5_addParam [.inr (.inr (some o)), .inl 4] s w τ) (f : FrE [185, 900] s τ) : Ip6 p0 σ τ := by
  obtain ⟨-, -, ex, -, -, a3, -, a5, -⟩ := q
  obtain ⟨o1, o2, o3, o4, o5, r, o6, o7, o8⟩ := h.2.2.2.2.2 (o, ko, 5) (List.mem_cons_of_mem _ List.mem_cons_self)
  dsimp only at o1 o2 o3 o4 o5 o6
  have hp : p0 < cnC s := Nat.lt_of_lt_of_le h.1.2 h.1.1
  have F : ∀ a, a < cnC s → ∀ k, k ≠ 185 → k ≠ 900 → fIC τ a k = fIC s a k ∧ fLC τ a k = fLC s a k ∧ fRC τ a k = fRC s a k := fun a ha k z1 z2 => (f.2 rfl a ha).1 k (ne_1 (fun j hj => by simp only [List.mem_cons, List.not_mem_nil, or_false] at hj; omega))
  refine ⟨h.2.1.tr ⟨f.1, fun a ha hn => ?_⟩, ((F p0 hp 217 (by decide) (by decide)).1).trans h.2.2.1, hO, fun k k1 k2 => ?_⟩
  · have la : a < cnC s := Nat.lt_of_lt_of_le ha h.1.1
    exact ⟨fun j j1 j2 => ⟨(F a la j j2 (by omega)).1, (F a la j j2 (by omega)).2.2⟩, ⟨a3 a (by omega), (F a la 181 (by decide) (by decide)).2.1⟩, a5 r o6 a (by omega)⟩
  · obtain ⟨a, e1, e2⟩ := hl k k1 k2
    obtain ⟨-, -, e3⟩ := h.2.2.2.1 _ e1
    obtain ⟨e4, e5, e6⟩ := h.2.2.2.2.1 a e2
    exact ⟨a, (F p0 hp k (by omega) (by omega)).2.2.trans e3, ⟨e4, Nat.lt_of_lt_of_le e5 f.1⟩, ((F a e5 2 (by decide) (by decide)).1).trans e6⟩
end
