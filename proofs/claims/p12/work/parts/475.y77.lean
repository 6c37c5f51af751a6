/-! CONSTANTS of variables: at an exp that takes one, and in the end -/
theorem xk_sf : ∀ {L : List ItZ} {k : Nat}, k < xcZ L → ∃ x l, (.inl x :: l) <:+ L ∧ xcZ l = k := by
  intro L
  induction L with
  | nil => exact fun h => absurd h (Nat.not_lt_zero _)
  | cons w L ih =>
    intro k h
    cases w with
    | inl x =>
      have h : k < xcZ L + 1 := h
      by_cases e : k = xcZ L
      · exact ⟨x, L, List.suffix_refl _, e.symm⟩
      · obtain ⟨y, l, a, b⟩ := ih (by omega : k < xcZ L)
        exact ⟨y, l, a.trans (List.suffix_cons _ _), b⟩
    | inr y =>
      obtain ⟨x, l, a, b⟩ := ih (show k < xcZ L from h)
      exact ⟨x, l, a.trans (List.suffix_cons _ _), b⟩
theorem sfx_lt {L la lb : List ItZ} {a b : XrZ} (ha : (.inl a :: la) <:+ L) (hb : (.inl b :: lb) <:+ L) (h : xcZ la < xcZ lb) : (.inl a :: la) <:+ lb := by
  have hb' : lb <:+ L := (List.suffix_cons _ _).trans hb
  rcases List.suffix_or_suffix_of_suffix ha hb' with q | q
  · exact q
  · rcases List.suffix_cons_iff.mp q with e | e
    · rw [e]
      exact List.suffix_refl _
    · have := xc_sf e
      omega
theorem sf_tu {x : XrZ} {l m : List ItZ} : ∀ {t : List XrZ}, (.inl x :: l) <:+ (t.map Sum.inl ++ m) → (∃ u, (x :: u) <:+ t ∧ l = u.map Sum.inl ++ m) ∨ (.inl x :: l) <:+ m := by
  intro t
  induction t with
  | nil => exact fun h => Or.inr h
  | cons w t ih =>
    intro h
    rcases List.suffix_cons_iff.mp (show (Sum.inl x :: l) <:+ (Sum.inl w :: (t.map Sum.inl ++ m)) from h) with e | e
    · obtain ⟨e1, e2⟩ := List.cons.inj e
      cases e1
      exact Or.inl ⟨t, List.suffix_refl _, e2⟩
    · rcases ih e with ⟨u, u1, u2⟩ | q
      · exact Or.inl ⟨u, u1.trans (List.suffix_cons _ _), u2⟩
      · exact Or.inr q
section
variable {C : CxT} {xs : Nat → XrZ} {v : Nat}
theorem tv_up {i : Nat} {T : TbT} (h : tbT C xs i = some T) : ∀ (j : Nat) (U : TbT), i ≤ j → tbT C xs j = some U → (∀ k, i ≤ k → k < j → ¬ ((xs k).1.1 = 15 ∧ (v : Int) = (xs k).2.1.2.1)) → U.2 v = T.2 v := by
  intro j
  induction j with
  | zero =>
    intro U hij g _
    have e : i = 0 := by omega
    rw [e] at h
    rw [h] at g
    rw [Option.some.inj g]
  | succ j ih =>
    intro U hij g hn
    by_cases e : i = j + 1
    · rw [e] at h
      rw [h] at g
      rw [Option.some.inj g]
    · obtain ⟨V, w, v1, v2, v3⟩ := tb_p g
      have r := ih V (by omega) v1 (fun k a b => hn k a (by omega))
      rw [v3, ← r]
      show vrT C V (xs j) v = _
      unfold vrT
      split
      · rename_i c
        exact if_neg (fun q => hn j (by omega) (by omega) ⟨c, q⟩)
      · rfl
theorem tv_0 {i : Nat} {T : TbT} (h : tbT C xs i = some T) (hn : ∀ k, k < i → ¬ ((xs k).1.1 = 15 ∧ (v : Int) = (xs k).2.1.2.1)) : T.2 v = (0, 0) := (tv_up (T := t0T C.1 xs) rfl i T (Nat.zero_le _) h (fun k _ b => hn k b)).trans rfl
theorem tb_at : ∀ {j : Nat} {U : TbT} {i : Nat}, i ≤ j → tbT C xs j = some U → ∃ T, tbT C xs i = some T := by
  intro j U i hij g
  cases e : tbT C xs i with
  | none => rw [tb_n e j hij] at g; cases g
  | some T => exact ⟨T, rfl⟩
end
section
variable {N : Int → Int} {C : CxT} {z : ZS} {T : TbT}
/-- STORES that lie ahead of one are of earlier variables -/
theorem sto_lt (I : IvI z) {x w : XrZ} {l : List ItZ} (hx : (.inl x :: l) <:+ z.2.1) (kx : x.1.1 = 15) (hw : .inl w ∈ l) (kw : w.1.1 = 15) : w.2.1.2.1 < x.2.1.2.1 := by
  obtain ⟨t, y, l0, e, xd, _, _, h⟩ := I.2.2.2 x l hx kx
  rw [e] at hw
  rcases in_tx.mp hw with q | q
  · have := xd.1 t e w q
    omega
  · rcases List.mem_cons.mp q with q | q
    · cases q
    · exact h w q kw
theorem sto_un (I : IvI z) {x w : XrZ} {l m : List ItZ} (hx : (.inl x :: l) <:+ z.2.1) (kx : x.1.1 = 15) (hw : (.inl w :: m) <:+ z.2.1) (kw : w.1.1 = 15) (e : x.2.1.2.1 = w.2.1.2.1) : xcZ l = xcZ m := by
  rcases Nat.lt_trichotomy (xcZ l) (xcZ m) with q | q | q
  · have := sto_lt I hw kw ((sfx_lt hx hw q).subset List.mem_cons_self) kx
    omega
  · exact q
  · have := sto_lt I hx kx ((sfx_lt hw hx q).subset List.mem_cons_self) kw
    omega
theorem pu_2 (H : ZjD C z T) (I : IvI z) (K : KvP N z) {x : XrZ} {l : List ItZ} (hx : (.inl x :: l) <:+ z.2.1) (k : x.1.1 = 2) : ¬ (T.1 (xcZ l)).2.1 = 0 ↔ ¬ (T.2 x.2.1.2.1.toNat).1 = 0 := by
  have hT : tbT C (fun i => xth z i) (xnM z) = some T := H.1.1
  have hi : xcZ l < xnM z := xc_sf hx
  obtain ⟨Ti, ti⟩ := tb_at (i := xcZ l) (by omega) hT
  obtain ⟨U, e, u1, u2, u3⟩ := tb_p (tb_at (i := xcZ l + 1) (by omega) hT).choose_spec
  rw [ti] at u1
  obtain rfl := Option.some.inj u1
  have xe : xth z (xcZ l) = x := xg_at hx
  have eT : T.1 (xcZ l) = e := by
    have r := tb_o (tb_at (i := xcZ l + 1) (by omega) hT).choose_spec (xnM z) T (by omega) hT (xcZ l) (by omega)
    rw [r, u3]
    exact if_pos rfl
  have u2 : exT C Ti (xcZ l) (xth z (xcZ l)) = some e := u2
  rw [xe, ex_2 k] at u2
  unfold x2T at u2
  have kn : knT C x.2.1.2.1 := by
    by_cases c : knT C x.2.1.2.1
    · exact c
    · rw [if_neg c] at u2
      cases u2
  rw [if_pos kn] at u2
  have v0 : 0 ≤ x.2.1.2.1 := kn.1
  have t0 : (Ti.1 (xcZ l)).2.1 = 0 := by
    have r := tb_i _ _ ti (xcZ l) (Nat.le_refl _)
    rw [r]
    show coX (xth z (xcZ l)) = 0
    rw [xe]
    unfold coX
    rw [if_neg (by omega)]
  have cT : ¬ (T.1 (xcZ l)).2.1 = 0 ↔ ¬ (Ti.2 x.2.1.2.1.toNat).1 = 0 := by
    rw [eT, ← Option.some.inj u2]
    by_cases c : (Ti.2 x.2.1.2.1.toNat).1 = 0
    · rw [if_pos c]
      exact ⟨fun q => absurd t0 q, fun q => absurd c q⟩
    · rw [if_neg c]
      exact ⟨fun _ => c, fun _ => by show ¬ (1 : Int) = 0; decide⟩
  rw [cT]
  have vn : ((x.2.1.2.1.toNat : Nat) : Int) = x.2.1.2.1 := Int.toNat_of_nonneg v0
  by_cases hs : ∃ s ls, (.inl s :: ls) <:+ z.2.1 ∧ s.1.1 = 15 ∧ s.2.1.2.1 = x.2.1.2.1
  · obtain ⟨s, ls, s1, s2, s3⟩ := hs
    have uni : ∀ k, k < xnM z → (xth z k).1.1 = 15 ∧ ((x.2.1.2.1.toNat : Nat) : Int) = (xth z k).2.1.2.1 → k = xcZ ls := fun k hk ⟨a, b⟩ => by
      obtain ⟨w, m, w1, w2⟩ := xk_sf hk
      have we : xth z k = w := by rw [← w2]; exact xg_at w1
      rw [we] at a b
      rw [← w2]
      exact sto_un I w1 a s1 s2 (by omega)
    have si : xcZ ls < xnM z := xc_sf s1
    have se : xth z (xcZ ls) = s := xg_at s1
    rcases Nat.lt_trichotomy (xcZ ls) (xcZ l) with q | q | q
    · have r := tv_up (v := x.2.1.2.1.toNat) ti (xnM z) T (by omega) hT (fun k a b c => by
        have := uni k b c
        omega)
      rw [r]
    · rw [q, xe] at se
      rw [← se] at s2
      omega
    · have z0 : Ti.2 x.2.1.2.1.toNat = (0, 0) := tv_0 ti (fun k a c => by
        have := uni k (by omega) c
        omega)
      rw [z0]
      refine ⟨fun h => absurd rfl h, fun h => ?_⟩
      exfalso
      obtain ⟨t, y, l0, a1, a2, a3, a4, a5⟩ := I.2.2.2 s ls s1 s2
      have hxl := sfx_lt hx s1 q
      rw [a1] at hxl
      rcases sf_tu hxl with ⟨u, u4, u5⟩ | g
      · obtain ⟨Ts, ts⟩ := tb_at (i := xcZ ls) (by omega) hT
        obtain ⟨V, e', v1, v2, v3⟩ := tb_p (tb_at (i := xcZ ls + 1) (by omega) hT).choose_spec
        rw [ts] at v1
        obtain rfl := Option.some.inj v1
        have r := tv_up (v := x.2.1.2.1.toNat) (tb_at (i := xcZ ls + 1) (by omega) hT).choose_spec (xnM z) T (by omega) hT (fun k a b c => by
          have := uni k b c
          omega)
        rw [r, v3] at h
        have h : ¬ (vrT C Ts (xth z (xcZ ls)) x.2.1.2.1.toNat).1 = 0 := h
        rw [se] at h
        unfold vrT at h
        rw [if_pos s2, if_pos (by omega)] at h
        have cs : ¬ (opT Ts s.2.2.1.2.1).2.1 = 0 := by
          intro q
          rw [if_neg (fun c => c.2 q)] at h
          exact h rfl
        have lt : xcZ l < xcZ ls := q
        have op : opT T s.2.2.1.2.1 = opT Ts s.2.2.1.2.1 := by
          unfold opT
          exact tb_o ts (xnM z) T (by omega) hT _ (by rw [a3]; omega)
        rw [← op, a3] at cs
        have lsL : ls <:+ z.2.1 := (List.suffix_cons _ _).trans s1
        obtain ⟨W, hW⟩ := sk_sf H.2.1 (l' := .inr y :: l0) ((by rw [a1]; exact ⟨_, rfl⟩ : (Sum.inr y :: l0) <:+ ls).trans lsL)
        have hW2 := a2.2.1 W hW
        have kd := a2.1 t a1
        have rr := cn_all H hW t [(xcZ ls : Int) - 1] kd (by rw [← a1]; exact lsL) (by rw [← a1]; exact hW2) (fun q hq => by
          have := List.mem_singleton.mp hq
          rw [this]
          exact cs) x u u4 (by omega)
        rw [← u5] at rr
        have := cT.mp rr.1
        rw [z0] at this
        exact this rfl
      · have g : (.inl x :: l) <:+ l0 := by
          rcases List.suffix_cons_iff.mp g with e | e
          · cases (List.cons.inj e).1
          · exact e
        have lt := a4 x (g.subset List.mem_cons_self) (by unfold NvI; omega)
        obtain ⟨_, _, lk2, _⟩ := K.2.2.2.1.1 x l hx (by unfold NvI; omega)
        have := (lk2 v0).2.2.1
        rw [s3] at lt
        omega
  · have no : ∀ k, k < xnM z → ¬ ((xth z k).1.1 = 15 ∧ ((x.2.1.2.1.toNat : Nat) : Int) = (xth z k).2.1.2.1) := fun k hk ⟨a, b⟩ => by
      obtain ⟨w, m, w1, w2⟩ := xk_sf hk
      have we : xth z k = w := by rw [← w2]; exact xg_at w1
      rw [we] at a b
      exact hs ⟨w, m, w1, a, by omega⟩
    rw [tv_0 ti (fun k a => no k (by omega)), tv_0 hT no]
end
