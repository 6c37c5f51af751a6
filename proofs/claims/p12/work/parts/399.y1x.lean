/-! an exp that is laid -/

/-- what stands open is the same behind it -/
def MkXd (lv : Int) (l m : List ItZ) : Prop := ∀ (B : Nat) (F : MkF), MkP B l F → F.length + 4 * (21 - lv).toNat ≤ B → MkP B m F
/-- no kind 15 in it; the pile -/
def XdE (l l' : List ItZ) : Prop := (∀ t : List XrZ, l' = t.map Sum.inl ++ l → ∀ x ∈ t, x.1.1 ≤ 14) ∧ (∀ S : List Int, SkP l S → SkP l' (((xcZ l' : Int) - 1) :: S)) ∧ XnR l l'
def ExX (lv : Int) (l l' : List ItZ) (r : XrZ) : Prop := ∃ m : List ItZ, l' = .inl r :: m ∧ XsR l m ∧ (r.2.2.1.1 = (xcZ l : Int) ∧ 0 ≤ r.1.1 ∧ r.1.1 ≤ 10) ∧ MkXd lv l l' ∧ XdE l l'
theorem ex_lay {N : Int → Int} {n : Nat} {z : ZS} (h : zFt (eM N n z).1 = 0) : ∃ r, ExX (21 - (n : Int)) z.2.1 (eM N n z).2.1 r := by
  obtain ⟨r, l, e, h1, h2, h3⟩ := (tp_lv (N := N) n).1 z h
  obtain ⟨t, ht⟩ := (ix_lv (N := N) n).1 z
  have xd : XdE z.2.1 (eM N n z).2.1 := by
    refine ⟨fun u hu x hx => ?_, fun S hS => sk_e z S hS h, (nk_lv (N := N) n).1 z⟩
    obtain ⟨v, hv, hk⟩ := (ik_lv (N := N) n).1 z
    have e := List.append_cancel_right (hu.symm.trans hv)
    have : Sum.inl x ∈ (v.map Sum.inl : List ItZ) := by rw [← e]; exact List.mem_map_of_mem hx
    obtain ⟨y, hy, ey⟩ := List.mem_map.mp this
    cases ey
    exact hk _ hy
  refine ⟨r, l, e, ?_, ⟨h1, h2⟩, fun B F k hb => (mk_lv (N := N) (B := B) n).1 z F k (by rw [show (21 - (21 - (n : Int))).toNat = n by omega] at hb; exact hb) h, xd⟩
  rw [e] at ht
  cases t with
  | nil =>
    have ht : Sum.inl r :: l = z.2.1 := ht
    have h3 : xcZ z.2.1 ≤ xcZ l := h3
    rw [← ht] at h3
    have h3 : xcZ l + 1 ≤ xcZ l := h3
    omega
  | cons x t =>
    have ht : Sum.inl r :: l = Sum.inl x :: (t.map Sum.inl ++ z.2.1) := ht
    exact ⟨t, (List.cons.inj ht).2⟩
