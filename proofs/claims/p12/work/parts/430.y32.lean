/-! what stands open: nothing, between S's -/
section
variable {l m : List ItZ} {o a b t lv : Int} {r : XrZ}
theorem mkp_c (h : MkP 100 l []) : MkP 100 (cIy o a b t :: l) [] := ⟨rfl, h⟩
theorem mkp_r {y : Int × Int × Int × Int × Int} (h : MkP 100 l []) : MkP 100 (.inr y :: l) [] := ⟨rfl, h⟩
theorem mkp_e (h : MkP 100 l []) : MkP 100 (cEy o a b t m :: l) [] := ⟨rfl, h⟩
theorem mkp_x (h : MkP 100 l []) (hx : ExX lv l m r) (hl : 0 ≤ lv) : MkP 100 m [] := by
  obtain ⟨_, _, _, _, k, _⟩ := hx
  exact k 100 [] h (by show 0 + 4 * (21 - lv).toNat ≤ 100; omega)
theorem mkp_15 {x : XrZ} (h : MkP 100 l []) (hk : x.1.1 = 15) : MkP 100 (.inl x :: l) [] := ⟨Nat.zero_le _, [], h, (mks_o (by omega)).mpr rfl⟩
end
section
variable {N : Int → Int} {M : Int} {z : ZS}
theorem mkp_va {j : Nat} {h : Int × Int × Int × Int} {th : Int} {l m : List ItZ} (v : VaD z j h th l m) (hl : 0 ≤ h.2.2.1) (k : MkP 100 l []) : MkP 100 m [] := by
  obtain ⟨v, t, _, hv⟩ := v
  rcases hv with ⟨R, rfl⟩ | ⟨m0, r, x, hx, R, ⟨k15, _⟩, rfl⟩
  · exact mkp_c k
  · exact mkp_15 (mkp_x (mkp_c k) hx hl) k15
theorem mkp_fx {lv a : Int} (hl : 0 ≤ lv) : ∀ {L : List Nat} {p q : Ps}, FxD z lv a L p q → MkP 100 p.2.2 [] → MkP 100 q.2.2 [] := by
  intro L
  induction L with
  | nil => intro p q h k; rw [show q = p from h]; exact k
  | cons j L ih =>
    intro p q ⟨_, _, t, m, r, _, hx, h⟩ k
    exact ih h (mkp_e (mkp_x k hx hl))
theorem mkp_fi {lv : Int} (hl : 0 ≤ lv) {j : Nat} {o : Int} {p q : Ps} (h : FiD z lv j o p q) (k : MkP 100 p.2.2 []) : MkP 100 q.2.2 [] := by
  rcases h with ⟨_, rfl⟩ | ⟨_, t, m, hv, _, rfl⟩ | ⟨L, _, _, h⟩
  · exact k
  · exact mkp_va hv hl k
  · exact mkp_fx hl h k
theorem mkp_row {St : SsT} {lv : Int} (hl : 0 ≤ lv) {sw : Int} {k : Nat} {a : Int} (hS : ∀ a p q, St a p q → MkP 100 p.2.2 [] → MkP 100 q.2.2 []) : ∀ {L : List Nat} {p q : Ps}, RwD St z lv sw k a L p q → MkP 100 p.2.2 [] → MkP 100 q.2.2 [] := by
  intro L
  induction L with
  | nil => intro p q h c; rw [show q = p from h]; exact c
  | cons j L ih =>
    intro p q ⟨_, _, p1, h1, h2⟩ c
    refine ih h2 ?_
    rcases h1 with ⟨_, ⟨t, m, r, _, hx, rfl⟩ | ⟨t, _, rfl⟩⟩ | h1
    · exact mkp_e (mkp_x c hx hl)
    · exact mkp_c c
    · exact hS _ _ _ h1 c
theorem mkp_st : ∀ n, n ≤ 21 → ∀ a p q, StD N M z n a p q → MkP 100 p.2.2 [] → MkP 100 q.2.2 [] := by
  intro n
  induction n with
  | zero => exact fun _ _ _ _ h => absurd h id
  | succ n ih =>
    intro hn a p q h k
    have ih := ih (by omega)
    have l0 : 0 ≤ lvN n := by unfold lvN; omega
    have lv : 0 ≤ lvN (n + 1) := by unfold lvN; omega
    obtain ⟨t, q1, _, _, h, rfl⟩ := h
    have k0 : MkP 100 (cIy 20 0 0 t :: p.2.2) [] := mkp_c k
    have rw0 : ∀ {sw : Int} {k : Nat} {a : Int} {L : List Nat} {p q : Ps}, RwD (StD N M z n) z (lvN n) sw k a L p q → MkP 100 p.2.2 [] → MkP 100 q.2.2 [] := fun h => mkp_row l0 ih h
    have bk : ∀ {a : Int} {p q : Ps}, BkD (RwD (StD N M z n) z (lvN n)) z (lvN (n + 1)) a p q → MkP 100 p.2.2 [] → MkP 100 q.2.2 [] := fun ⟨L, t, h, _⟩ c => rw0 h c
    refine mkp_c (?_ : MkP 100 q1.2.2 [])
    rcases h with ⟨m, r, hx, R, rfl⟩ | ⟨m, hv, rfl⟩ | ⟨R, rfl⟩ | ⟨L, hr, R⟩ | ⟨q2, hs, R, rfl⟩ | ⟨m, r, q2, hx, hs, ⟨R, rfl⟩ | ⟨t2, q3, hs2, R, rfl⟩⟩ | ⟨m, r, q2, hx, hs, R, rfl⟩ | ⟨m, r, q2, hs, hx, R, rfl⟩ | ⟨q2, q3, q4, m2, o, g, x, f1, f2, ⟨L, _, f3⟩, hs, R, rfl⟩ | ⟨m, r, L, q2, hx, hr, _, R, rfl⟩ | ⟨q2, q3, q4, o, g, v, B1, B2, B3, _, R, rfl⟩ | ⟨kd, lk, t2, hk, _, R, rfl⟩ | (⟨R, rfl⟩ | ⟨m, r, hx, ⟨R, rfl⟩ | ⟨R, rfl⟩⟩)
    · exact mkp_e (mkp_x k0 hx lv)
    · exact mkp_va hv lv k0
    · exact k0
    · exact rw0 hr k0
    · exact mkp_c (ih _ _ _ hs (mkp_c k0))
    · exact mkp_c (ih _ _ _ hs (mkp_e (mkp_x k0 hx lv)))
    · exact mkp_c (ih _ _ _ hs2 (mkp_c (ih _ _ _ hs (mkp_e (mkp_x k0 hx lv)))))
    · exact mkp_c (ih _ _ _ hs (mkp_e (mkp_x (mkp_c k0) hx lv)))
    · exact mkp_e (mkp_x (mkp_c (ih _ _ _ hs (mkp_c k0))) hx lv)
    · have k1 := mkp_fi lv f1 k0
      have k2 : MkP 100 m2 [] := by
        rcases f2 with ⟨_, rfl⟩ | ⟨m0, r, hx, _, rfl⟩
        · exact mkp_c (mkp_c k1)
        · exact mkp_e (mkp_x (mkp_c k1) hx lv)
      exact mkp_c (ih _ _ _ hs (mkp_c (mkp_fx lv f3 (mkp_c k2))))
    · exact mkp_c (rw0 hr (mkp_e (mkp_x k0 hx lv)))
    · have k1 := bk B1 (mkp_c k0)
      have k2 : MkP 100 q3.2.2 [] := by
        rcases B2 with ⟨_, _, rfl⟩ | ⟨_, _, t2, B⟩
        · exact k1
        · exact bk B (mkp_r k1)
      have k3 : MkP 100 q4.2.2 [] := by
        rcases B3 with ⟨_, rfl⟩ | ⟨_, t2, B⟩
        · exact k2
        · exact bk B (mkp_c k2)
      exact mkp_c k3
    · exact mkp_c k0
    · exact mkp_c k0
    · exact mkp_e (mkp_x k0 hx lv)
    · exact mkp_e (mkp_x k0 hx lv)
end
theorem mkp_pr {N : Int → Int} {z : ZS} : ∀ (L : List Nat) (M : Nat) (p q : Ps), PrD N z L M p q → MkP 100 p.2.2 [] → MkP 100 q.2.2 [] := by
  intro L
  induction L with
  | nil => intro M p q h k; rw [show q = p from h]; exact k
  | cons j L ih =>
    intro M p q ⟨_, p1, ⟨q1, t, ⟨L1, t1, hr, _⟩, e1⟩, h2⟩ k
    refine ih (M + 1) p1 q h2 ?_
    rw [e1]
    exact mkp_c (mkp_row (by unfold lvN; decide) (mkp_st 20 (by decide)) hr k)
/-! whole exps -/
theorem mkp_un {B : Nat} : ∀ {l : List ItZ} {F G : MkF}, MkP B l F → MkP B l G → F = G := by
  intro l
  induction l with
  | nil => intro F G h g; rw [show F = [] from h, show G = [] from g]
  | cons x l ih =>
    intro F G h g
    cases x with
    | inr y => rw [h.1, g.1]
    | inl x =>
      obtain ⟨_, H, h1, h2⟩ := h
      obtain ⟨_, K, g1, g2⟩ := g
      have e := ih h1 g1
      subst e
      unfold MkS at h2 g2
      split at h2
      · rename_i c; rw [if_pos c] at g2; rw [h2.2, g2.2]
      · rename_i c
        rw [if_neg c] at g2
        split at h2
        · rename_i c; rw [if_pos c] at g2; rw [h2.2, g2.2]
        · rename_i c
          rw [if_neg c] at g2
          split at h2
          · rename_i c
            rw [if_pos c] at g2
            obtain ⟨_, q, I, e1, e2⟩ := h2
            obtain ⟨_, q', I', e3, e4⟩ := g2
            rw [e1] at e3
            cases e3
            rw [e2, e4]
          · rename_i c
            rw [if_neg c] at g2
            split at h2
            · rename_i c
              rw [if_pos c] at g2
              have := h2.2.1.symm.trans g2.2.1
              exact (List.cons.inj this).2
            · rename_i c
              rw [if_neg c] at g2
              split at h2
              · rename_i c
                rw [if_pos c] at g2
                have := h2.2.1.symm.trans g2.2.1
                exact (List.cons.inj this).2
              · rename_i c
                rw [if_neg c] at g2
                split at h2
                · rename_i c; rw [if_pos c] at g2; rw [h2.2, g2.2]
                · rename_i c; rw [if_neg c] at g2; rw [h2, g2]
theorem mkp_sf {B : Nat} {l : List ItZ} : ∀ {L : List ItZ} {F : MkF}, MkP B L F → l <:+ L → ∃ G, MkP B l G := by
  intro L F h hs
  obtain ⟨t, rfl⟩ := hs
  induction t generalizing F with
  | nil => exact ⟨F, h⟩
  | cons x t ih =>
    cases x with
    | inl x => obtain ⟨_, G, g, _⟩ := h; exact ih g
    | inr y => exact ih h.2
theorem mkp_le {B : Nat} {l : List ItZ} {F : MkF} (h : MkP B l F) : F.length ≤ B := by
  cases l with
  | nil => rw [show F = [] from h]; exact Nat.zero_le _
  | cons x l =>
    cases x with
    | inl x => exact h.1
    | inr y => rw [h.1]; exact Nat.zero_le _
theorem sk_kd : ∀ {l : List ItZ} {S : List Int}, SkP l S → ∀ q ∈ S, (xgZ l q.toNat).1.1 ≤ 10 := by
  intro l
  induction l with
  | nil => intro S h q hq; rw [h] at hq; cases hq
  | cons x l ih =>
    intro S h q hq
    have rg := sk_rg h q hq
    obtain ⟨A, a1, a2⟩ := h
    have r := ih a2
    have rl := sk_rg a2
    rw [a1] at hq
    cases x with
    | inl x =>
      rcases List.mem_append.mp hq with hq | hq
      · have hq : q ∈ (if x.1.1 ≤ 10 then [(xcZ l : Int)] else []) := hq
        split at hq
        · rename_i c
          have e : q = (xcZ l : Int) := by simpa using hq
          rw [e, Int.toNat_natCast, xgZ, if_pos rfl]
          exact c
        · cases hq
      · have m := List.mem_append_right (iopZ (.inl x)) hq
        have := rl q m
        rw [xgZ, if_neg (by omega)]
        exact r q m
    | inr y =>
      have hq : q ∈ A := by
        rcases List.mem_append.mp hq with hq | hq
        · cases hq
        · exact hq
      exact r q (List.mem_append_right (iopZ (.inr y)) hq)
theorem bxl_sn {z : ZS} {T : TbT} : ∀ (n k : Nat) (w : WzS), bxL z T (n + 1) k w = paW (xth z (k + n)) (T.1 (k + n)) (bxL z T n k w) := by
  intro n
  induction n with
  | zero => intro k w; rfl
  | succ n ih =>
    intro k w
    show bxL z T (n + 1) (k + 1) (paW (xth z k) (T.1 k) w) = _
    rw [ih (k + 1), show k + 1 + n = k + (n + 1) by omega]
    rfl
/-- what is fixed of all that is read and judged -/
def ZjD (C : CxT) (z : ZS) (T : TbT) : Prop := JdL C z T ∧ SkP z.2.1 [] ∧ (∀ i, i < xnM z → 0 ≤ (xth z i).1.1 ∧ (xth z i).1.1 ≤ 15) ∧ MkP 100 z.2.1 []
theorem xc_mp {t : List XrZ} {l : List ItZ} : xcZ (t.map Sum.inl ++ l) = xcZ l + t.length := by
  induction t with
  | nil => rfl
  | cons x t ih =>
    show xcZ (t.map Sum.inl ++ l) + 1 = _
    rw [ih, List.length_cons]
    omega
theorem ex_run {C : CxT} {z : ZS} {T : TbT} (H : ZjD C z T) {l : List ItZ} {mm : Int64} {er : Bool} (hn : ¬ LsO l) (hl : MkP 100 l []) : ∀ (t : List XrZ), (t.map Sum.inl ++ l) <:+ z.2.1 → ∃ F, MkP 100 (t.map Sum.inl ++ l) F ∧ AwR T (mm = allB) F (bxL z T t.length (xcZ l) (mm, mm, [], er)).2.2.1 (bxL z T t.length (xcZ l) (mm, mm, [], er)).1 (bxL z T t.length (xcZ l) (mm, mm, [], er)).2.1 ∧ (LsO (t.map Sum.inl ++ l) → CnD T ((xcZ (t.map Sum.inl ++ l) : Int) - 1) (bxL z T t.length (xcZ l) (mm, mm, [], er)).1 (bxL z T t.length (xcZ l) (mm, mm, [], er)).2.1) := by
  intro t
  induction t with
  | nil => exact fun _ => ⟨[], hl, ⟨rfl, fun a => ⟨a, a⟩⟩, fun q => absurd q hn⟩
  | cons x t ih =>
    intro hs
    have hs : (.inl x :: (t.map Sum.inl ++ l)) <:+ z.2.1 := hs
    have hs' : (t.map Sum.inl ++ l) <:+ z.2.1 := (List.suffix_cons _ _).trans hs
    obtain ⟨G, g1, g2, g3⟩ := ih hs'
    obtain ⟨hJ, hK, hk, hM⟩ := H
    obtain ⟨F, f1⟩ := mkp_sf hM hs
    obtain ⟨f2, G', f3, f4⟩ := id f1
    have e := mkp_un f3 g1
    subst e
    have xe := xg_at hs
    have hi : xcZ (t.map Sum.inl ++ l) < xnM z := by
      have := xc_sf hs
      exact this
    obtain ⟨S, hS⟩ := sk_sf hK hs'
    obtain ⟨U, u1, u2⟩ := sk_stp hK hs hS
    have ops : ∀ q ∈ opsZ x, (0 ≤ q ∧ q < (xcZ (t.map Sum.inl ++ l) : Int)) ∧ VaT (T.1 q.toNat) := fun q hq => by
      have m : q ∈ S := by rw [u1]; exact List.mem_append_left _ hq
      have rg := sk_rg hS q m
      have kd := sk_kd hS q m
      refine ⟨rg, hJ.2 q.toNat (by omega) ?_⟩
      show (xgZ z.2.1 q.toNat).1.1 ≤ 10
      rw [xg_sf hs' q.toNat (by omega)]
      exact kd
    have xk := hk _ hi
    have xe' : xth z (xcZ (t.map Sum.inl ++ l)) = x := xe
    rw [xe'] at xk
    obtain ⟨a1, a2⟩ := aw_st (A := mm = allB) hJ hi xe' xk f4 (mkp_le f3) (mkp_le f1) g3 ops g2
    have eb : bxL z T (t.length + 1) (xcZ l) (mm, mm, [], er) = paW x (T.1 (xcZ (t.map Sum.inl ++ l))) (bxL z T t.length (xcZ l) (mm, mm, [], er)) := by
      rw [bxl_sn, ← xc_mp, xe']
    refine ⟨F, f1, ?_, fun ls => ?_⟩
    · rw [List.length_cons, eb]
      exact a1
    · rw [List.length_cons, eb]
      obtain ⟨r, m, e5, e6, e7⟩ := ls
      have e5 : Sum.inl x :: (t.map Sum.inl ++ l) = Sum.inl r :: m := e5
      cases e5
      have w := a2 e7
      show CnD T (((xcZ (t.map Sum.inl ++ l) + 1 : Nat) : Int) - 1) _ _
      rw [show ((xcZ (t.map Sum.inl ++ l) + 1 : Nat) : Int) - 1 = ((xcZ (t.map Sum.inl ++ l) : Nat) : Int) by omega]
      exact w
/-- a code of an S stands last, or nothing -/
def HdR (l : List ItZ) : Prop := l = [] ∨ ∃ y l', l = .inr y :: l'
theorem HdR.n {l : List ItZ} (h : HdR l) : ¬ LsO l := fun ⟨r, m, e, _⟩ => by
  rcases h with h | ⟨y, l', h⟩
  · rw [h] at e; cases e
  · rw [h] at e; cases e
theorem hdr_c {l : List ItZ} {o a b t : Int} : HdR (cIy o a b t :: l) := Or.inr ⟨_, _, rfl⟩
theorem hdr_e {l m : List ItZ} {o a b t : Int} : HdR (cEy o a b t m :: l) := Or.inr ⟨_, _, rfl⟩
/-- a whole exp is worked out from its first one on -/
theorem bxw_run {z : ZS} {T : TbT} {lv : Int} {l m : List ItZ} {r : XrZ} {mm : Int64} {w : WzS} (hx : ExX lv l m r) (hm : m <:+ z.2.1) {t : List XrZ} (ht : m = t.map Sum.inl ++ l) : bxW z T ((xcZ m : Int) - 1) mm w = bxL z T t.length (xcZ l) (mm, mm, [], w.2.2.2) := by
  have nn := hx.nn
  have at_ := hx.at hm
  obtain ⟨m1, e1, e2, ⟨e3, e4⟩, hk, _⟩ := id hx
  have xm : xcZ m = xcZ l + t.length := by rw [ht, xc_mp]
  have es : (xth z ((xcZ m : Int) - 1).toNat).2.2.1.1 = (xcZ l : Int) := by
    rw [nn.1]
    show (xgZ z.2.1 (xcZ m - 1)).2.2.1.1 = _
    rw [at_]
    exact e3
  unfold bxW
  rw [if_neg (by omega), es, Int.toNat_natCast, show ((xcZ m : Int) - 1 + 1 - (xcZ l : Int)).toNat = t.length by omega]
/-- an exp's bits -/
theorem ex_cn {C : CxT} {z : ZS} {T : TbT} (H : ZjD C z T) {lv : Int} {l m : List ItZ} {r : XrZ} {mm : Int64} {w : WzS} (hx : ExX lv l m r) (hl0 : 0 ≤ lv) (hh : HdR l) (hm : m <:+ z.2.1) : (bxW z T ((xcZ m : Int) - 1) mm w).2.2.1 = [] ∧ (mm = allB → (bxW z T ((xcZ m : Int) - 1) mm w).1 = allB ∧ (bxW z T ((xcZ m : Int) - 1) mm w).2.1 = allB) ∧ CnD T ((xcZ m : Int) - 1) (bxW z T ((xcZ m : Int) - 1) mm w).1 (bxW z T ((xcZ m : Int) - 1) mm w).2.1 := by
  obtain ⟨t, ht⟩ := hx.xs
  obtain ⟨m1, e1, e2, ⟨e3, e4⟩, hk, _⟩ := id hx
  have hl : l <:+ z.2.1 := hx.sf.trans hm
  obtain ⟨G, hG⟩ := mkp_sf H.2.2.2 hl
  have G0 : G = [] := by
    rcases hh with h | ⟨y, l', h⟩
    · rw [h] at hG; exact hG
    · rw [h] at hG; exact hG.1
  subst G0
  obtain ⟨F, f1, f2, f3⟩ := ex_run H (mm := mm) (er := w.2.2.2) hh.n hG t (by rw [← ht]; exact hm)
  rw [← ht] at f1 f3
  have F0 := mkp_un f1 (hk 100 [] hG (by show 0 + 4 * (21 - lv).toNat ≤ 100; omega))
  subst F0
  rw [bxw_run hx hm ht]
  exact ⟨f2.1, f2.2, f3 ⟨r, m1, e1, e4⟩⟩
