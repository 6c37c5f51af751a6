/-! what each code asks is what its S asks: rows, switches, all S's -/
theorem itN_m {x : ItZ} : ∀ {l : List ItZ}, (∃ o, itN l o = some x) ↔ x ∈ l := by
  intro l
  induction l with
  | nil => exact ⟨fun ⟨o, h⟩ => (nomatch h), fun h => absurd h List.not_mem_nil⟩
  | cons y l ih =>
    constructor
    · intro ⟨o, h⟩
      rw [itN] at h
      split at h
      · cases h; exact List.mem_cons_self
      · exact List.mem_cons_of_mem _ (ih.mp ⟨o, h⟩)
    · intro h
      rcases List.mem_cons.mp h with rfl | h
      · exact ⟨l.length, by rw [itN, if_pos rfl]⟩
      · obtain ⟨o, q⟩ := ih.mpr h
        exact ⟨o, by rw [itN_c (itN_lt q)]; exact q⟩
theorem sw_ap {k : Int} {l : List ItZ} : ∀ {t : List ItZ}, (∀ y, Sum.inr y ∈ t → y.1 = 37 → ¬ y.2.1 = k) → swZ k (t ++ l) = swZ k l := by
  intro t
  induction t with
  | nil => intro _; rfl
  | cons x t ih =>
    intro h
    have r := ih (fun y hy => h y (List.mem_cons_of_mem _ hy))
    cases x with
    | inl x => exact r
    | inr y =>
      show (if y.1 = 37 ∧ y.2.1 = k then y.2.2.2.2 else swZ k (t ++ l)) = _
      rw [if_neg (fun z => h y List.mem_cons_self z.1 z.2)]
      exact r
theorem df_ap {k : Int} {l : List ItZ} : ∀ {t : List ItZ}, (∀ y, Sum.inr y ∈ t → y.1 = 39 → ¬ y.2.1 = k) → dfZ k (t ++ l) = dfZ k l := by
  intro t
  induction t with
  | nil => intro _; rfl
  | cons x t ih =>
    intro h
    have r := ih (fun y hy => h y (List.mem_cons_of_mem _ hy))
    cases x with
    | inl x => exact r
    | inr y =>
      show (if y.1 = 39 ∧ y.2.1 = k then ((t ++ l).length : Int) else dfZ k (t ++ l)) = _
      rw [if_neg (fun z => h y List.mem_cons_self z.1 z.2)]
      exact r
/-- cases and defaults of switch k that stand ahead; its exp x -/
def CsX (Z : ZS) (k : Nat) (x : Int) (ahd : List Nat) (l : List ItZ) : Prop := swZ k l = x ∧ (∀ y, Sum.inr y ∈ l → y.1 = 38 → y.2.1 = (k : Int) → ∃ u ∈ ahd, kjS Z u = 62 ∧ xjS Z u = y.2.2.2.2) ∧ (∀ u ∈ ahd, kjS Z u = 62 → 0 ≤ xjS Z u ∧ ∃ y, Sum.inr y ∈ l ∧ y.1 = 38 ∧ y.2.1 = (k : Int) ∧ y.2.2.2.2 = xjS Z u) ∧ (dfZ k l < 0 ↔ ∀ u ∈ ahd, ¬ kjS Z u = 63)
theorem CsX.ap {Z : ZS} {k : Nat} {x : Int} {ahd : List Nat} {l t : List ItZ} (h : CsX Z k x ahd l) (g : ∀ y, Sum.inr y ∈ t → thO y.1 = true → ¬ y.2.1 = (k : Int)) : CsX Z k x ahd (t ++ l) := by
  obtain ⟨h1, h2, h3, h4⟩ := h
  have n7 : ∀ y, Sum.inr y ∈ t → y.1 = 37 → ¬ y.2.1 = (k : Int) := fun y hy e => g y hy (by rw [e]; decide)
  have n9 : ∀ y, Sum.inr y ∈ t → y.1 = 39 → ¬ y.2.1 = (k : Int) := fun y hy e => g y hy (by rw [e]; decide)
  refine ⟨by rw [sw_ap n7]; exact h1, fun y hy e ek => ?_, fun u hu e => ?_, by rw [df_ap n9]; exact h4⟩
  · rcases List.mem_append.mp hy with q | q
    · exact absurd ek (g y q (by rw [e]; decide))
    · exact h2 y q e ek
  · obtain ⟨a, y, b, d⟩ := h3 u hu e
    exact ⟨a, y, List.mem_append_right _ b, d⟩
theorem CsX.xs {Z : ZS} {k : Nat} {x : Int} {ahd : List Nat} {l l' : List ItZ} (h : CsX Z k x ahd l) (g : XsR l l') : CsX Z k x ahd l' := by
  obtain ⟨t, rfl⟩ := g
  refine h.ap (fun y hy => ?_)
  obtain ⟨x, _, e⟩ := List.mem_map.mp hy
  cases e
theorem CsX.pg {Z : ZS} {k : Nat} {x : Int} {ahd : List Nat} {p q : Ps} (h : CsX Z k x ahd p.2.2) (g : PgD (-1) p q) (hk : k < p.2.1) : CsX Z k x ahd q.2.2 := by
  obtain ⟨_, _, t, e, g3⟩ := g
  rw [e]
  refine h.ap (fun y hy ho => ?_)
  rcases (g3 y hy).2 ho with z | z
  · omega
  · omega
/-- an S that is no case, no default -/
theorem CsX.no {Z : ZS} {k : Nat} {x : Int} {ahd : List Nat} {l : List ItZ} {j : Nat} (h : CsX Z k x ahd l) (h1 : ¬ kjS Z j = 62) (h2 : ¬ kjS Z j = 63) : CsX Z k x (ahd ++ [j]) l := by
  obtain ⟨a1, a2, a3, a4⟩ := h
  refine ⟨a1, fun y hy e ek => ?_, fun u hu e => ?_, ?_⟩
  · obtain ⟨u, b1, b2⟩ := a2 y hy e ek
    exact ⟨u, List.mem_append_left _ b1, b2⟩
  · rcases List.mem_append.mp hu with q | q
    · exact a3 u q e
    · rw [List.mem_singleton.mp q] at e
      exact absurd e h1
  · rw [a4]
    constructor
    · intro z u hu
      rcases List.mem_append.mp hu with q | q
      · exact z u q
      · rw [List.mem_singleton.mp q]; exact h2
    · exact fun z u hu => z u (List.mem_append_left _ hu)
theorem CsX.cs {Z : ZS} {k : Nat} {x : Int} {ahd : List Nat} {l : List ItZ} {j : Nat} {b t e : Int} (h : CsX Z k x ahd l) (h1 : kjS Z j = 62) (h2 : xjS Z j = e) (h3 : 0 ≤ e) : CsX Z k x (ahd ++ [j]) (.inr (38, (k : Int), b, t, e) :: l) := by
  obtain ⟨a1, a2, a3, a4⟩ := h
  refine ⟨?_, fun y hy e' ek => ?_, fun u hu e' => ?_, ?_⟩
  · rw [swZ, if_neg (fun z => absurd z.1 (by decide : ¬ (38 : Int) = 37))]
    exact a1
  · rcases List.mem_cons.mp hy with q | q
    · cases q
      exact ⟨j, List.mem_append_right _ List.mem_cons_self, h1, h2⟩
    · obtain ⟨u, b1, b2⟩ := a2 y q e' ek
      exact ⟨u, List.mem_append_left _ b1, b2⟩
  · rcases List.mem_append.mp hu with q | q
    · obtain ⟨c1, y, c2, c3⟩ := a3 u q e'
      exact ⟨c1, y, List.mem_cons_of_mem _ c2, c3⟩
    · rw [List.mem_singleton.mp q, h2]
      exact ⟨h3, _, List.mem_cons_self, rfl, rfl, rfl⟩
  · rw [dfZ, if_neg (fun z => absurd z.1 (by decide : ¬ (38 : Int) = 39)), a4]
    constructor
    · intro z u hu
      rcases List.mem_append.mp hu with q | q
      · exact z u q
      · rw [List.mem_singleton.mp q, h1]; decide
    · exact fun z u hu => z u (List.mem_append_left _ hu)
theorem CsX.df {Z : ZS} {k : Nat} {x : Int} {ahd : List Nat} {l : List ItZ} {j : Nat} {b t e : Int} (h : CsX Z k x ahd l) (h1 : kjS Z j = 63) : CsX Z k x (ahd ++ [j]) (.inr (39, (k : Int), b, t, e) :: l) := by
  obtain ⟨a1, a2, a3, a4⟩ := h
  refine ⟨?_, fun y hy e' ek => ?_, fun u hu e' => ?_, ?_⟩
  · rw [swZ, if_neg (fun z => absurd z.1 (by decide : ¬ (39 : Int) = 37))]
    exact a1
  · rcases List.mem_cons.mp hy with q | q
    · cases q
      exact absurd e' (by decide : ¬ (39 : Int) = 38)
    · obtain ⟨u, b1, b2⟩ := a2 y q e' ek
      exact ⟨u, List.mem_append_left _ b1, b2⟩
  · rcases List.mem_append.mp hu with q | q
    · obtain ⟨c1, y, c2, c3⟩ := a3 u q e'
      exact ⟨c1, y, List.mem_cons_of_mem _ c2, c3⟩
    · rw [List.mem_singleton.mp q, h1] at e'
      exact absurd e' (by decide)
  · rw [dfZ, if_pos ⟨rfl, rfl⟩]
    exact ⟨fun z => by omega, fun z => absurd h1 (z j (List.mem_append_right _ List.mem_cons_self))⟩
section
variable {N : Int → Int} {Z : ZS} {T : TbT} {ms : MfT} {C : CxT} {M a lv : Int} {k : Nat} {x ty : Int} {St : SsT}
def CnX (Z : ZS) (T : TbT) (ahd : List Nat) : Prop := ∀ u ∈ ahd, kjS Z u = 62 → ¬ (T.1 (xjS Z u).toNat).2.1 = 0
theorem cs_i {ahd : List Nat} {m : List ItZ} {j : Nat} {b t e : Int} (hx : CsX Z k x ahd m) (hc : CnX Z T ahd) (ht : (opT T x).1 = ty) (h2 : xjS Z j = e) (h3 : 0 ≤ e) : okS C N T m (38, (k : Int), b, t, e) ↔ csT' Z T ty ahd j := by
  rw [ok_38, hx.1, ht]
  unfold csT'
  rw [h2]
  constructor
  · intro ⟨z1, z2⟩ _
    refine ⟨z1, fun u hu hv => ?_⟩
    obtain ⟨v1, v2, v3, v4⟩ := hv
    obtain ⟨_, y, y1, y2, y3, y4⟩ := hx.2.2.1 u hu v1
    obtain ⟨o, ho⟩ := itN_m.mpr y1
    refine z2 o y ho y2 y3 ?_
    rw [y4]
    exact v4
  · intro z
    obtain ⟨z1, z2⟩ := z h3
    refine ⟨z1, fun o y ho y1 y2 y3 => ?_⟩
    obtain ⟨u, u1, u2, u3⟩ := hx.2.1 y (itN_m.mp ⟨o, ho⟩) y1 y2
    refine z2 u u1 ⟨u2, (hx.2.2.1 u u1 u2).1, hc u u1 u2, ?_⟩
    rw [u3]
    exact y3
theorem rw_sf (hS : StOk C N Z T ms M St) {sw : Int} : ∀ {L : List Nat} {p q : Ps}, RwD St Z lv sw k a L p q → p.2.2 <:+ q.2.2 ∧ p.1 ≤ q.1 ∧ p.2.1 ≤ q.2.1 := by
  intro L
  induction L with
  | nil => intro p q h; rw [show q = p from h]; exact ⟨List.suffix_rfl, Nat.le_refl _, Nat.le_refl _⟩
  | cons j L ih =>
    intro p q ⟨_, _, p1, h1, h2⟩
    obtain ⟨i1, i2, i3⟩ := ih h2
    have s : p.2.2 <:+ p1.2.2 ∧ p.1 ≤ p1.1 ∧ p.2.1 ≤ p1.2.1 := by
      rcases h1 with ⟨_, ⟨t, m, r, _, hx, rfl⟩ | ⟨t, _, rfl⟩⟩ | h1
      · exact ⟨hx.sf.trans (List.suffix_cons _ _), Nat.le_succ _, Nat.le_refl _⟩
      · exact ⟨List.suffix_cons _ _, Nat.le_succ _, Nat.le_refl _⟩
      · have s := (hS _ _ _ h1).1
        exact ⟨s.1.sf, Nat.le_of_lt s.2, s.1.2.1⟩
    exact ⟨s.1.trans i1, by omega, by omega⟩
/-- one part behind another -/
theorem KxD.nx {p p1 q : Ps} (K : KxD N Z M a p q) (nb : Nb p.2.2 p1.2.2) (h1 : p.1 ≤ p1.1) (th : ThB p1.2.2 p1.2.1) : KxD N Z M a p1 q := ⟨K.1, K.2.1, by have := K.2.2.1; omega, by rw [nb.2.2]; exact K.2.2.2.1, fun t => by rw [nb.2.1]; exact K.2.2.2.2.1 t, th⟩
theorem KxD.hd {p p1 q : Ps} (K : KxD N Z M a p q) (h : p1.2.2 <:+ q.2.2) (h1 : p1.1 ≤ q.1) : KxD N Z M a p p1 := ⟨h.trans K.1, Nat.le_trans h1 K.2.1, K.2.2⟩
theorem rw_nb (hS : StOk C N Z T ms M St) {sw : Int} : ∀ {L : List Nat} {p q : Ps}, RwD St Z lv sw k a L p q → KxD N Z M a p q → (sw = 1 → k < p.2.1) → Nb p.2.2 q.2.2 ∧ ThB q.2.2 q.2.1 := by
  intro L
  induction L with
  | nil => intro p q h K _; rw [show q = p from h]; exact ⟨Nb.rf, K.2.2.2.2.2⟩
  | cons j L ih =>
    intro p q ⟨_, _, p1, h1, h2⟩ K kl
    obtain ⟨i1, i2, i3⟩ := rw_sf hS h2
    rcases h1 with ⟨e1, ⟨t, m, r, R, hx, rfl⟩ | ⟨t, R, rfl⟩⟩ | h1
    · have nb1 : Nb p.2.2 (cEy 38 k ((m.length : Int) - 1) t m :: m) := hx.nb.tr (nb_ce (by decide))
      have kl := kl e1
      have K1 : KxD N Z M a (p.1 + 1, p.2.1, cEy 38 k ((m.length : Int) - 1) t m :: m) q := K.nx nb1 (Nat.le_succ _) ((K.2.2.2.2.2.ex hx).ce (fun _ => by show (k : Int) < ((p.2.1 : Nat) : Int); omega))
      have r := ih h2 K1 (fun _ => kl)
      exact ⟨nb1.tr r.1, r.2⟩
    · have nb1 : Nb p.2.2 (cIy 39 k 0 t :: p.2.2) := nb_ci (by decide)
      have kl := kl e1
      have K1 : KxD N Z M a (p.1 + 1, p.2.1, cIy 39 k 0 t :: p.2.2) q := K.nx nb1 (Nat.le_succ _) (K.2.2.2.2.2.ci (fun _ => by show (k : Int) < ((p.2.1 : Nat) : Int); omega))
      have r := ih h2 K1 (fun _ => kl)
      exact ⟨nb1.tr r.1, r.2⟩
    · obtain ⟨⟨s1, s2⟩, s3⟩ := hS _ _ _ h1
      obtain ⟨r1, r2, r3⟩ := s3 (K.hd i1 i2)
      have sn := s1.2.1
      have r := ih h2 (K.nx r2 (Nat.le_of_lt s2) (K.2.2.2.2.2.pg s1 (by omega))) (fun e => by have := kl e; omega)
      exact ⟨r2.tr r.1, r.2⟩
theorem rw1_i (hS : StOk C N Z T ms M St) (hk : ∀ a p q, St a p q → ¬ kjS Z p.1 = 62 ∧ ¬ kjS Z p.1 = 63) (ht : (opT T x).1 = ty) : ∀ {L : List Nat} {p q : Ps} {ahd : List Nat}, RwD St Z lv 1 k a L p q → KxD N Z M a p q → k < p.2.1 → CsX Z k x ahd p.2.2 → CnX Z T ahd → (AlB (okS C N T) p.2.2 q.2.2 ↔ swT' Z T ty ahd L ∧ SkB N Z T ms p.1 q.1) := by
  intro L
  induction L with
  | nil => intro p q ahd h _ _ _ _; rw [show q = p from h]; exact iff_of_true alb_rf ⟨trivial, skb_0⟩
  | cons j L ih =>
    intro p q ahd ⟨e1, _, p1, h1, h2⟩ K kl hX hC
    obtain ⟨i1, i2, i3⟩ := rw_sf hS h2
    subst e1
    rcases h1 with ⟨_, ⟨t, m, r, R, hx, rfl⟩ | ⟨t, R, rfl⟩⟩ | h1
    · have nb1 : Nb p.2.2 (cEy 38 k ((m.length : Int) - 1) t m :: m) := hx.nb.tr (nb_ce (by decide))
      have i1 : (cEy 38 k ((m.length : Int) - 1) t m :: m) <:+ q.2.2 := i1
      have i2 : p.1 + 1 ≤ q.1 := i2
      have K1 : KxD N Z M a (p.1 + 1, p.2.1, cEy 38 k ((m.length : Int) - 1) t m :: m) q := K.nx nb1 (Nat.le_succ _) ((K.2.2.2.2.2.ex hx).ce (fun _ => by show (k : Int) < ((p.2.1 : Nat) : Int); omega))
      have hXm := hX.xs hx.xs
      have ek := R.kj
      have oi := cs_i (C := C) (N := N) (b := (m.length : Int) - 1) (t := t) (j := p.1) hXm hC ht R.xj hx.nn.2.1
      have al : AlB (okS C N T) p.2.2 q.2.2 ↔ okS C N T m (38, (k : Int), (m.length : Int) - 1, t, (xcZ m : Int) - 1) ∧ AlB (okS C N T) (cEy 38 k ((m.length : Int) - 1) t m :: m) q.2.2 := (alb_m hx ((List.suffix_cons _ _).trans i1)).trans (alb_c i1)
      have hX1 := hXm.cs (b := (m.length : Int) - 1) (t := t) R.kj R.xj hx.nn.2.1
      rw [al, oi, skb_c (i := p.1) (j := q.1) (by omega)]
      show _ ↔ ((kjS Z p.1 = 62 → csT' Z T ty ahd p.1) ∧ (kjS Z p.1 = 63 → ∀ u ∈ ahd, ¬ kjS Z u = 63) ∧ swT' Z T ty (ahd ++ [p.1]) L) ∧ _
      by_cases hc : csT' Z T ty ahd p.1
      · have hC1 : CnX Z T (ahd ++ [p.1]) := fun u hu e => by
          rcases List.mem_append.mp hu with q | q
          · exact hC u q e
          · rw [List.mem_singleton.mp q]
            exact (hc (by rw [R.xj]; exact hx.nn.2.1)).1.1
        have r := ih h2 K1 kl hX1 hC1
        have r : AlB (okS C N T) (cEy 38 k ((m.length : Int) - 1) t m :: m) q.2.2 ↔ swT' Z T ty (ahd ++ [p.1]) L ∧ SkB N Z T ms (p.1 + 1) q.1 := r
        rw [r]
        exact ⟨fun z => ⟨⟨fun _ => hc, fun e => by omega, z.2.1⟩, skk_tr (by omega), z.2.2⟩, fun z => ⟨hc, z.1.2.2, z.2.2⟩⟩
      · exact ⟨fun z => absurd z.1 hc, fun z => absurd (z.1.1 ek) hc⟩
    · have nb1 : Nb p.2.2 (cIy 39 k 0 t :: p.2.2) := nb_ci (by decide)
      have i1 : (cIy 39 k 0 t :: p.2.2) <:+ q.2.2 := i1
      have i2 : p.1 + 1 ≤ q.1 := i2
      have K1 : KxD N Z M a (p.1 + 1, p.2.1, cIy 39 k 0 t :: p.2.2) q := K.nx nb1 (Nat.le_succ _) (K.2.2.2.2.2.ci (fun _ => by show (k : Int) < ((p.2.1 : Nat) : Int); omega))
      have ek := R.kj
      have al : AlB (okS C N T) p.2.2 q.2.2 ↔ okS C N T p.2.2 (39, (k : Int), 0, t, -1) ∧ AlB (okS C N T) (cIy 39 k 0 t :: p.2.2) q.2.2 := alb_c i1
      have hX1 := hX.df (b := 0) (t := t) (e := -1) R.kj
      have hC1 : CnX Z T (ahd ++ [p.1]) := fun u hu e => by
        rcases List.mem_append.mp hu with q | q
        · exact hC u q e
        · rw [List.mem_singleton.mp q, ek] at e
          exact absurd e (by decide)
      have r := ih h2 K1 kl hX1 hC1
      have r : AlB (okS C N T) (cIy 39 k 0 t :: p.2.2) q.2.2 ↔ swT' Z T ty (ahd ++ [p.1]) L ∧ SkB N Z T ms (p.1 + 1) q.1 := r
      rw [al, r, ok_39, hX.2.2.2, skb_c (i := p.1) (j := q.1) (by omega)]
      show _ ↔ ((kjS Z p.1 = 62 → csT' Z T ty ahd p.1) ∧ (kjS Z p.1 = 63 → ∀ u ∈ ahd, ¬ kjS Z u = 63) ∧ swT' Z T ty (ahd ++ [p.1]) L) ∧ _
      exact ⟨fun z => ⟨⟨fun e => by omega, fun _ => z.1, z.2.1⟩, skk_tr (by omega), z.2.2⟩, fun z => ⟨z.1.2.1 ek, z.1.2.2, z.2.2⟩⟩
    · obtain ⟨⟨s1, s2⟩, s3⟩ := hS _ _ _ h1
      obtain ⟨r1, r2, r3⟩ := s3 (K.hd i1 i2)
      have sn := s1.2.1
      obtain ⟨k1, k2⟩ := hk _ _ _ h1
      have hC1 : CnX Z T (ahd ++ [p.1]) := fun u hu e => by
        rcases List.mem_append.mp hu with q | q
        · exact hC u q e
        · rw [List.mem_singleton.mp q] at e
          exact absurd e k1
      have r := ih h2 (K.nx r2 r3 (K.2.2.2.2.2.pg s1 (by omega))) (by omega) ((hX.pg s1 kl).no k1 k2) hC1
      rw [alb_tr s1.sf i1, r1, r, skb_tr r3 i2]
      show _ ↔ ((kjS Z p.1 = 62 → csT' Z T ty ahd p.1) ∧ (kjS Z p.1 = 63 → ∀ u ∈ ahd, ¬ kjS Z u = 63) ∧ swT' Z T ty (ahd ++ [p.1]) L) ∧ _
      exact ⟨fun z => ⟨⟨fun e => absurd e k1, fun e => absurd e k2, z.2.1⟩, z.1, z.2.2⟩, fun z => ⟨z.2.1, z.1.2.2, z.2.2⟩⟩
theorem rw_rz (hS : StOk C N Z T ms M St) {sw : Int} : ∀ {L : List Nat} {p q : Ps}, RwD St Z lv sw k a L p q → q.1 ≤ snM Z → RwZ Z (hdI L) L := by
  intro L
  induction L with
  | nil => intro p q _ _; show (-1 : Int) < 0; decide
  | cons j L ih =>
    intro p q ⟨e1, e2, p1, h1, h2⟩ hq
    obtain ⟨i1, i2, i3⟩ := rw_sf hS h2
    refine ⟨rfl, ?_, by rw [e2]; exact ih h2 hq⟩
    rcases h1 with ⟨_, ⟨t, m, r, R, hx, rfl⟩ | ⟨t, R, rfl⟩⟩ | h1
    · have i2 : p.1 + 1 ≤ q.1 := i2
      omega
    · have i2 : p.1 + 1 ≤ q.1 := i2
      omega
    · have := (hS _ _ _ h1).1.2
      omega
theorem ri_sw (hS : StOk C N Z T ms M St) (hk : ∀ a p q, St a p q → ¬ kjS Z p.1 = 62 ∧ ¬ kjS Z p.1 = 63) (H : HxD C Z ms M) {lv' t c : Int} {j : Nat} {l : List ItZ} {q : Ps} (h : SwD (RwD St Z lv') Z lv a j k t (cIy 20 0 0 t :: l) q) (K : KxD N Z M a (j, k, l) (q.1, q.2.1, cIy 45 c 0 t :: q.2.2)) : RsI C N Z T ms j (cIy 20 0 0 t :: l) q := by
  obtain ⟨m, r, L, q1, hx, hr, _, R, rfl⟩ := h
  obtain ⟨i1, i2, i3⟩ := rw_sf hS hr
  have i1 : (cEy 37 k 0 t m :: m) <:+ q1.2.2 := i1
  have i2 : j + 1 ≤ q1.1 := i2
  have e := R.kj
  have th1 : ThB (cEy 37 k 0 t m :: m) (k + 1) := (((K.2.2.2.2.2.mo (Nat.le_succ _)).c0 rfl).ex hx).ce (fun _ => by show (k : Int) < ((k + 1 : Nat) : Int); omega)
  have nb0 : Nb (cIy 20 0 0 t :: l) (cEy 37 k 0 t m :: m) := hx.nb.tr (nb_ce (by decide))
  have K1 := K.in_ (j := j) (p1 := (j + 1, k + 1, cEy 37 k 0 t m :: m)) (q1 := q1) H rfl (by omega) R.pa ((List.suffix_cons _ _).trans (List.suffix_cons _ _)) (Nat.le_refl _) (Nat.lt_succ_self _) ((nb_ci (by decide)).tr nb0) (by show j < q1.1; omega) th1
  have nbq := (rw_nb hS hr K1 (fun _ => Nat.lt_succ_self _)).1
  have nn := hx.nn
  have thm : ThB m k := (K.2.2.2.2.2.c0 rfl).ex hx
  have hX : CsX Z k ((xcZ m : Int) - 1) [] (cEy 37 k 0 t m :: m) := by
    refine ⟨?_, fun y hy e1 e2 => ?_, fun u hu => absurd hu List.not_mem_nil, ?_⟩
    · show (if (37 : Int) = 37 ∧ (k : Int) = k then _ else _) = _
      exact if_pos ⟨rfl, rfl⟩
    · rcases List.mem_cons.mp hy with q | q
      · cases q
        exact absurd e1 (by decide : ¬ (37 : Int) = 38)
      · have := thm y q (by rw [e1]; decide)
        omega
    · have e1 : dfZ k (cEy 37 k 0 t m :: m) = dfZ k m := if_neg (fun z => absurd z.1 (by decide : ¬ (37 : Int) = 39))
      have e2 : dfZ k m = -2 := by
        have q := df_ap (k := k) (l := []) (t := m) (fun y hy e1 e2 => by have := thm y hy (by rw [e1]; decide); omega)
        rw [List.append_nil] at q
        rw [q]
        rfl
      rw [e1, e2]
      exact ⟨fun _ u hu => absurd hu List.not_mem_nil, fun _ => by decide⟩
  have r1 := rw1_i (ty := (opT T ((xcZ m : Int) - 1)).1) hS hk rfl hr K1 (Nat.lt_succ_self _) hX (fun u hu => absurd hu List.not_mem_nil)
  have r1 : AlB (okS C N T) (cEy 37 k 0 t m :: m) q1.2.2 ↔ swT' Z T (opT T ((xcZ m : Int) - 1)).1 [] L ∧ SkB N Z T ms (j + 1) q1.1 := r1
  refine ⟨?_, nb0.tr (nbq.tr (nb_ci (by decide))), by show j < q1.1; omega⟩
  show AlB (okS C N T) (cIy 20 0 0 t :: l) (cIy 40 k 0 t :: q1.2.2) ↔ SkB N Z T ms j q1.1
  have g1 : m <:+ q1.2.2 := (List.suffix_cons _ _).trans i1
  have al : AlB (okS C N T) m q1.2.2 ↔ okS C N T m (37, (k : Int), 0, t, (xcZ m : Int) - 1) ∧ AlB (okS C N T) (cEy 37 k 0 t m :: m) q1.2.2 := alb_c i1
  have rz := rw_rz hS hr K1.2.1
  rw [ok_ei (hx.sf.trans g1) (by omega), alb_m hx g1, al, ok_37, r1, skb_c (i := j) (j := q1.1) (by omega), skk_61 R.kj]
  unfold swP
  rw [R.xj, R.bj]
  constructor
  · intro ⟨z1, z2, z3⟩
    refine ⟨fun _ => ⟨z1, fun l' hl => ?_⟩, z3⟩
    rw [RwZ.u hl rz]
    exact z2
  · intro ⟨z1, z3⟩
    have w := z1 nn.2.1
    exact ⟨w.1, w.2 L rz, z3⟩
end
