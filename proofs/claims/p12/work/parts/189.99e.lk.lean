/-! links: where && || ? : go on -/
/-- an operator of an exp stands open: the code is one of an exp -/
theorem eSt_open {o : Nat} {a b : Int32} {E E' l r : List Nat} {k : Nat} (h : eSt o a b E = some E') (he : E = l ++ k :: r) (hk : k = 1 ∨ k = 2 ∨ k = 3) : o ≤ 18 := by
  rcases Nat.lt_or_ge 18 o with q | q
  · exfalso
    rcases (eSt_s (by omega) h).2.1 with ⟨e, -⟩ | ⟨e, -⟩
    · rw [e] at he
      cases l with
      | nil => obtain ⟨z, -⟩ := List.cons.inj he; omega
      | cons x l => obtain ⟨-, z⟩ := List.cons.inj he; cases l <;> cases z
    · rw [e] at he
      cases l <;> cases he
  · exact q
theorem eSt_suf {o : Nat} {a b : Int32} {E E' l r : List Nat} {k : Nat} (h : eSt o a b E = some E') (ho : ¬ (8 ≤ o ∧ o ≤ 14)) (he : E' = l ++ k :: r) (hk : k = 1 ∨ k = 2 ∨ k = 3) : ∃ l', E = l' ++ k :: r := by
  by_cases h19 : 19 ≤ o
  · have := (eSt_s h19 h).1
    rw [this] at he
    cases l <;> cases he
  · have hz : ∀ e : List Nat, (∃ l0, ∀ x : List Nat, e = x → E = l0 ++ x) → E' = 0 :: e → ∃ l', E = l' ++ k :: r := by
      intro e ⟨l0, hl0⟩ e2
      rw [e2] at he
      cases l with
      | nil => obtain ⟨z, -⟩ := List.cons.inj he; omega
      | cons x l =>
        obtain ⟨-, z⟩ := List.cons.inj he
        exact ⟨l0 ++ l, by rw [List.append_assoc]; exact hl0 _ z⟩
    have h18 : o = 0 ∨ o = 1 ∨ o = 2 ∨ o = 3 ∨ o = 4 ∨ o = 5 ∨ o = 6 ∨ o = 7 ∨ o = 15 ∨ o = 16 ∨ o = 17 ∨ o = 18 := by omega
    rcases h18 with rfl | rfl | rfl | rfl | rfl | rfl | rfl | rfl | rfl | rfl | rfl | rfl <;> simp only [eSt] at h
    · split at h
      · obtain rfl := Option.some.inj h; cases l <;> cases he
      · cases h
    · exact hz E ⟨[], fun x q => q⟩ (Option.some.inj h).symm
    · exact hz E ⟨[], fun x q => q⟩ (Option.some.inj h).symm
    · exact hz E ⟨[], fun x q => q⟩ (Option.some.inj h).symm
    · exact hz E ⟨[], fun x q => q⟩ (Option.some.inj h).symm
    · split at h
      · exact hz _ ⟨[0], fun x q => by rw [q]; rfl⟩ (Option.some.inj h).symm
      · cases h
    · split at h
      · exact hz _ ⟨[0], fun x q => by rw [q]; rfl⟩ (Option.some.inj h).symm
      · cases h
    · split at h
      · exact hz _ ⟨[0, 0], fun x q => by rw [q]; rfl⟩ (Option.some.inj h).symm
      · cases h
    · split at h
      · exact hz _ ⟨[0], fun x q => by rw [q]; rfl⟩ (Option.some.inj h).symm
      · cases h
    · obtain rfl := Option.some.inj h
      cases l with
      | nil => obtain ⟨z, -⟩ := List.cons.inj he; omega
      | cons x l => obtain ⟨-, z⟩ := List.cons.inj he; exact ⟨l, z⟩
    · split at h <;> split at h
      · exact hz _ ⟨[0], fun x q => by rw [q]; rfl⟩ (Option.some.inj h).symm
      · cases h
      · exact hz _ ⟨[0, 4], fun x q => by rw [q]; rfl⟩ (Option.some.inj h).symm
      · cases h
    · split at h
      · rename_i ht
        refine hz (E.drop (nT a)) ⟨E.take (nT a), fun x q => ?_⟩ (Option.some.inj h).symm
        rw [← q]
        exact (List.take_append_drop _ _).symm
      · cases h
def okk (k o : Nat) : Prop := (k = 1 ∧ (o = 8 ∨ o = 10)) ∨ (k = 2 ∧ o = 12) ∨ (k = 3 ∧ o = 13)
/-- the open operators stand in linked -/
def OL (σ X : RS) (E : List Nat) (c : Nat) : Prop := ∀ l k r, E = l ++ k :: r → (k = 1 ∨ k = 2 ∨ k = 3) → ∃ p, p < c ∧ (0 ≤ aI X 126 (no r) ∧ nT (aI X 126 (no r)) = p) ∧ Es (aI σ 19) (aI σ 20) (aI σ 21) (p + 1) = some (k :: r) ∧ okk k (nT (aI σ 19 p)) ∧ ∀ i, p ≤ i → i < c → nT (aI σ 19 i) ≤ 18
/-- a link -/
def LD (σ X : RS) (p c : Nat) : Prop := 0 ≤ aI X 125 p ∧ p < nT (aI X 125 p) ∧ nT (aI X 125 p) < c ∧ (∀ i, p ≤ i → i ≤ nT (aI X 125 p) → nT (aI σ 19 i) ≤ 18) ∧ ∃ r, ((nT (aI σ 19 p) = 8 ∨ nT (aI σ 19 p) = 10) ∧ Es (aI σ 19) (aI σ 20) (aI σ 21) (p + 1) = some (1 :: r) ∧ Es (aI σ 19) (aI σ 20) (aI σ 21) (nT (aI X 125 p) + 1) = some (0 :: r) ∧ (nT (aI σ 19 (nT (aI X 125 p))) = 9 ∨ nT (aI σ 19 (nT (aI X 125 p))) = 11 ∨ nT (aI σ 19 (nT (aI X 125 p))) = 14)) ∨ (nT (aI σ 19 p) = 12 ∧ Es (aI σ 19) (aI σ 20) (aI σ 21) (p + 1) = some (2 :: r) ∧ nT (aI σ 19 (nT (aI X 125 p))) = 13 ∧ Es (aI σ 19) (aI σ 20) (aI σ 21) (nT (aI X 125 p) + 1) = some (3 :: r)) ∨ (nT (aI σ 19 p) = 13 ∧ Es (aI σ 19) (aI σ 20) (aI σ 21) (p + 1) = some (3 :: r) ∧ Es (aI σ 19) (aI σ 20) (aI σ 21) (nT (aI X 125 p) + 1) = some (0 :: r) ∧ (nT (aI σ 19 (nT (aI X 125 p))) = 9 ∨ nT (aI σ 19 (nT (aI X 125 p))) = 11 ∨ nT (aI σ 19 (nT (aI X 125 p))) = 14))
def LO (σ X : RS) (E : List Nat) (p : Nat) : Prop := ∃ l k r, E = l ++ k :: r ∧ okk k (nT (aI σ 19 p)) ∧ nT (aI X 126 (no r)) = p ∧ Es (aI σ 19) (aI σ 20) (aI σ 21) (p + 1) = some (k :: r)
def isl (n : Nat) : Prop := n = 8 ∨ n = 10 ∨ n = 12 ∨ n = 13
/-- links' loop -/
def LV2 (σ X : RS) (c : Nat) (n : Int32) : Prop := (∀ k, gI X k = gI σ k) ∧ (∀ k, k ≠ 125 → k ≠ 126 → aI X k = aI σ k) ∧ c ≤ nT (gI σ 18) ∧ ∃ E, Es (aI σ 19) (aI σ 20) (aI σ 21) c = some E ∧ (0 ≤ n ∧ nT n = no E) ∧ OL σ X E c ∧ ∀ p, p < c → isl (nT (aI σ 19 p)) → LO σ X E p ∨ LD σ X p c
theorem LD.up {σ X : RS} {p c c' : Nat} (h : LD σ X p c) (hc : c ≤ c') : LD σ X p c' := by
  obtain ⟨h1, h2, h3, h4⟩ := h
  exact ⟨h1, h2, by omega, h4⟩
theorem eSt_keep {o : Nat} {a b : Int32} {E E' l r : List Nat} {k : Nat} (h : eSt o a b E = some E') (ho : ¬ (8 ≤ o ∧ o ≤ 14)) (he : E = l ++ k :: r) (hk : k = 1 ∨ k = 2 ∨ k = 3) : ∃ l', E' = l' ++ k :: r := by
  have h18 := eSt_open h he hk
  have c1 : ∀ x y : List Nat, 0 :: x = y → y = l ++ k :: r → ∃ l', x = l' ++ k :: r := by
    intro x y e1 e2
    rw [← e1] at e2
    cases l with
    | nil => obtain ⟨z, -⟩ := List.cons.inj e2; omega
    | cons q l => obtain ⟨-, z⟩ := List.cons.inj e2; exact ⟨l, z⟩
  have c0 : ∀ x : List Nat, (∃ l', x = l' ++ k :: r) → ∃ l', 0 :: x = l' ++ k :: r := fun x ⟨l', e⟩ => ⟨0 :: l', by rw [e]; rfl⟩
  have h19 : o = 0 ∨ o = 1 ∨ o = 2 ∨ o = 3 ∨ o = 4 ∨ o = 5 ∨ o = 6 ∨ o = 7 ∨ o = 15 ∨ o = 16 ∨ o = 17 ∨ o = 18 := by omega
  rcases h19 with rfl | rfl | rfl | rfl | rfl | rfl | rfl | rfl | rfl | rfl | rfl | rfl <;> simp only [eSt] at h
  · split at h
    · rename_i q; rw [q] at he; cases l <;> cases he
    · cases h
  · obtain rfl := Option.some.inj h; exact c0 _ ⟨l, he⟩
  · obtain rfl := Option.some.inj h; exact c0 _ ⟨l, he⟩
  · obtain rfl := Option.some.inj h; exact c0 _ ⟨l, he⟩
  · obtain rfl := Option.some.inj h; exact c0 _ ⟨l, he⟩
  · split at h
    · obtain rfl := Option.some.inj h; exact ⟨l, he⟩
    · cases h
  · split at h
    · obtain rfl := Option.some.inj h; exact ⟨l, he⟩
    · cases h
  · split at h
    · obtain rfl := Option.some.inj h; exact c1 _ _ rfl he
    · cases h
  · split at h
    · obtain rfl := Option.some.inj h; exact ⟨l, he⟩
    · cases h
  · obtain rfl := Option.some.inj h; exact ⟨4 :: l, by rw [he]; rfl⟩
  · split at h <;> split at h
    · obtain rfl := Option.some.inj h; exact ⟨l, he⟩
    · cases h
    · obtain rfl := Option.some.inj h
      obtain ⟨l', e⟩ := c1 _ _ rfl he
      cases l' with
      | nil => obtain ⟨z, -⟩ := List.cons.inj e; omega
      | cons q l' => obtain ⟨-, z⟩ := List.cons.inj e; exact c0 _ ⟨l', z⟩
    · cases h
  · split at h
    · rename_i ht
      obtain rfl := Option.some.inj h
      refine c0 _ ?_
      have hlen : nT a ≤ l.length := by
        rcases Nat.lt_or_ge l.length (nT a) with q | q
        · exfalso
          have e1 : E[l.length]? = some k := by rw [he]; simp
          have e2 : (E.take (nT a))[l.length]? = E[l.length]? := by rw [List.getElem?_take, if_pos q]
          rw [ht, e1, List.getElem?_replicate, if_pos q] at e2
          have := Option.some.inj e2
          omega
        · exact q
      refine ⟨l.drop (nT a), ?_⟩
      rw [he, List.drop_append_of_le_length hlen]
    · cases h
theorem no_cons (k : Nat) (r : List Nat) : no (k :: r) = (if k = 1 ∨ k = 2 ∨ k = 3 then 1 else 0) + no r := rfl
theorem no_lt {r l r' : List Nat} {k : Nat} (h : r = l ++ k :: r') (hk : k = 1 ∨ k = 2 ∨ k = 3) : no r' < no r := by
  rw [h, no_app, no_cons, if_pos hk]
  omega
theorem okk_k {k o : Nat} (h : okk k o) : k = 1 ∨ k = 2 ∨ k = 3 := by
  rcases h with ⟨h, -⟩ | ⟨h, -⟩ | ⟨h, -⟩ <;> omega
theorem aI_126 {X : RS} {f : Nat → Int32} : aI (sA X 126 f) 126 = f := rfl
/-- an operator is opened -/
theorem LV2.opn {σ X : RS} {c n : Int32} {E E' : List Nat} {s s' : SS} (h : LV2 σ X (nT c) n) (h0 : 0 ≤ c) (hc : nT c < nT (gI σ 18)) (p : PC σ (nT c) E E' s s') (ho : nT (aI σ 19 (nT c)) = 8 ∨ nT (aI σ 19 (nT c)) = 10 ∨ nT (aI σ 19 (nT c)) = 12) : LV2 σ (sA X 126 (upd (aI X 126) (nT n) c)) (nT c + 1) (n + 1) := by
  obtain ⟨h1, h2, h3, E0, e1, ⟨n0, n1⟩, hO, hL⟩ := h
  obtain rfl : E = E0 := Option.some.inj (p.he.symm.trans e1)
  have hle := no_le E
  have hl := p.le
  have hE : ∃ r k, E = 0 :: r ∧ E' = k :: r ∧ okk k (nT (aI σ 19 (nT c))) := by
    have hes := p.es
    rcases ho with q | q | q <;> rw [q] at hes ⊢ <;> simp only [eSt] at hes <;> split at hes <;> first
      | (cases hes; done)
      | exact ⟨_, 1, rfl, (Option.some.inj hes).symm, Or.inl ⟨rfl, Or.inl rfl⟩⟩
      | exact ⟨_, 1, rfl, (Option.some.inj hes).symm, Or.inl ⟨rfl, Or.inr rfl⟩⟩
      | exact ⟨_, 2, rfl, (Option.some.inj hes).symm, Or.inr (Or.inl ⟨rfl, rfl⟩)⟩
  obtain ⟨r, k, e2, e3, hok⟩ := hE
  have hkk := okk_k hok
  have hnr : no E = no r := by rw [e2, no_cons, if_neg (by decide)]; omega
  have hx : n ≤ 251 := i32 (n := 251) n0 (by omega) 251 (by decide) (by decide)
  have hn1 : nT (n + 1) = nT n + 1 := nT_add n0 (by lia)
  have row : ∀ l' k' r', r = l' ++ k' :: r' → (k' = 1 ∨ k' = 2 ∨ k' = 3) → aI (sA X 126 (upd (aI X 126) (nT n) c)) 126 (no r') = aI X 126 (no r') := by
    intro l' k' r' e hk'
    have := no_lt e hk'
    rw [aI_126, upd_ne (by omega)]
  have rown : aI (sA X 126 (upd (aI X 126) (nT n) c)) 126 (no r) = c := by
    rw [aI_126, ← hnr, ← n1, upd_eq]
  have r125 : aI (sA X 126 (upd (aI X 126) (nT n) c)) 125 = aI X 125 := rfl
  have hEs : Es (aI σ 19) (aI σ 20) (aI σ 21) (nT c + 1) = some (k :: r) := by rw [p.he', e3]
  refine ⟨h1, fun q q1 q2 => (aI_ne q2).trans (h2 q q1 q2), hc, E', p.he', ⟨by lia, by rw [hn1, n1, e3, no_cons, if_pos hkk, hnr]; omega⟩, fun l k' r' e hk' => ?_, fun q hq hi => ?_⟩
  · rw [e3] at e
    cases l with
    | nil =>
      obtain ⟨z1, z2⟩ := List.cons.inj e
      subst z1; subst z2
      exact ⟨nT c, by omega, by rw [rown]; exact ⟨h0, rfl⟩, hEs, hok, fun i a1 a2 => by rw [show i = nT c by omega]; omega⟩
    | cons x l =>
      obtain ⟨-, z2⟩ := List.cons.inj e
      obtain ⟨q, q1, q2, q3, q4, q5⟩ := hO (0 :: l) k' r' (by rw [e2, z2]; rfl) hk'
      refine ⟨q, by omega, by rw [row l k' r' z2 hk']; exact q2, q3, q4, fun i a1 a2 => ?_⟩
      by_cases w : i = nT c
      · subst w; omega
      · exact q5 i a1 (by omega)
  · by_cases w : q = nT c
    · subst w
      exact Or.inl ⟨[], k, r, e3, hok, by rw [rown], hEs⟩
    · rcases hL q (by omega) hi with ⟨l, k', r', y1, y2, y3, y4⟩ | y
      · rw [e2] at y1
        cases l with
        | nil => obtain ⟨z1, -⟩ := List.cons.inj y1; have := okk_k y2; omega
        | cons x l =>
          obtain ⟨-, z2⟩ := List.cons.inj y1
          exact Or.inl ⟨k :: l, k', r', by rw [e3, z2]; rfl, y2, by rw [row l k' r' z2 (okk_k y2)]; exact y3, y4⟩
      · obtain ⟨g1, g2, g3, g4⟩ := y
        exact Or.inr ⟨g1, g2, by rw [r125]; omega, g4⟩
/-- an operator is closed -/
theorem LV2.cls {σ X : RS} {c n : Int32} {E E' : List Nat} {s s' : SS} (h : LV2 σ X (nT c) n) (h0 : 0 ≤ c) (hc : nT c < nT (gI σ 18)) (p : PC σ (nT c) E E' s s') (ho : nT (aI σ 19 (nT c)) = 9 ∨ nT (aI σ 19 (nT c)) = 11 ∨ nT (aI σ 19 (nT c)) = 14) : (1 ≤ n ∧ n ≤ 251) ∧ (0 ≤ aI X 126 (nT (n - 1)) ∧ aI X 126 (nT (n - 1)) < 4000) ∧ LV2 σ (sA X 125 (upd (aI X 125) (nT (aI X 126 (nT (n - 1)))) c)) (nT c + 1) (n - 1) := by
  obtain ⟨h1, h2, h3, E0, e1, ⟨n0, n1⟩, hO, hL⟩ := h
  obtain rfl : E = E0 := Option.some.inj (p.he.symm.trans e1)
  have hle := no_le E
  have hl := p.le
  have h4 := p.c4
  have hE : ∃ r k, E = 0 :: k :: r ∧ E' = 0 :: r ∧ (k = 1 ∨ k = 3) := by
    have hes := p.es
    rcases ho with q | q | q <;> rw [q] at hes <;> simp only [eSt] at hes <;> split at hes <;> first
      | (cases hes; done)
      | exact ⟨_, _, rfl, (Option.some.inj hes).symm, Or.inl rfl⟩
      | exact ⟨_, _, rfl, (Option.some.inj hes).symm, Or.inr rfl⟩
  obtain ⟨r, k, e2, e3, hk⟩ := hE
  have hk3 : k = 1 ∨ k = 2 ∨ k = 3 := by omega
  have hnr : no E = 1 + no r := by rw [e2, no_cons, no_cons, if_neg (by decide), if_pos hk3]; omega
  have hx : n ≤ 251 := i32 (n := 251) n0 (by omega) 251 (by decide) (by decide)
  have hn : 1 ≤ n := t_le (by have := t_nT n0; show (1 : Int) ≤ _; omega)
  have hs := nT_sub (x := n) (by lia)
  have hnn : nT (n - 1) = no r := by omega
  obtain ⟨q, q1, q2, q3, q4, q5⟩ := hO [0] k r (by rw [e2]; rfl) hk3
  have hq4 : aI X 126 (no r) < 4000 := t_lt (by have := t_nT q2.1; show _ < (4000 : Int); omega)
  rw [hnn]
  refine ⟨⟨hn, hx⟩, ⟨q2.1, hq4⟩, h1, fun y y1 y2 => (aI_ne y1).trans (h2 y y1 y2), hc, E', p.he', ⟨by lia, by rw [hnn, e3, no_cons, if_neg (by decide)]; omega⟩, fun l k' r' e hk' => ?_, fun y hy hi => ?_⟩
  · rw [e3] at e
    cases l with
    | nil => obtain ⟨z1, -⟩ := List.cons.inj e; omega
    | cons x l =>
      obtain ⟨-, z2⟩ := List.cons.inj e
      obtain ⟨y, y1, y2, y3, y4, y5⟩ := hO (0 :: k :: l) k' r' (by rw [e2, z2]; rfl) hk'
      refine ⟨y, by omega, y2, y3, y4, fun i a1 a2 => ?_⟩
      by_cases w : i = nT c
      · subst w; omega
      · exact y5 i a1 (by omega)
  · have hyc : y ≠ nT c := by
      intro z
      rw [z] at hi
      rcases hi with z | z | z | z <;> omega
    rw [q2.2]
    by_cases w : y = q
    · subst w
      have e125 : aI (sA X 125 (upd (aI X 125) y c)) 125 y = c := upd_eq
      refine Or.inr ?_
      unfold LD
      rw [e125]
      refine ⟨h0, q1, by omega, fun i a1 a2 => ?_, r, ?_⟩
      · by_cases u : i = nT c
        · subst u; omega
        · exact q5 i a1 (by omega)
      · have hEs : Es (aI σ 19) (aI σ 20) (aI σ 21) (nT c + 1) = some (0 :: r) := by rw [p.he', e3]
        rcases q4 with ⟨u1, u2⟩ | ⟨u1, u2⟩ | ⟨u1, u2⟩
        · rw [u1] at q3; exact Or.inl ⟨u2, q3, hEs, ho⟩
        · omega
        · rw [u1] at q3; exact Or.inr (Or.inr ⟨u2, q3, hEs, ho⟩)
    · rcases hL y (by omega) hi with ⟨l, k', r', y1, y2, y3, y4⟩ | g
      · rw [e2] at y1
        cases l with
        | nil => obtain ⟨z1, -⟩ := List.cons.inj y1; have := okk_k y2; omega
        | cons x l =>
          obtain ⟨-, z2⟩ := List.cons.inj y1
          cases l with
          | nil =>
            obtain ⟨z3, z4⟩ := List.cons.inj z2
            exfalso
            rw [← z4] at y3
            exact w (y3.symm.trans q2.2)
          | cons x2 l =>
            obtain ⟨-, z4⟩ := List.cons.inj z2
            exact Or.inl ⟨0 :: l, k', r', by rw [e3, z4]; rfl, y2, y3, y4⟩
      · have e125 : aI (sA X 125 (upd (aI X 125) q c)) 125 y = aI X 125 y := upd_ne w
        refine Or.inr ?_
        have g := g.up (c' := nT c + 1) (by omega)
        unfold LD at g ⊢
        rw [e125]
        exact g
/-- the : of a ? -/
theorem LV2.qe {σ X : RS} {c n : Int32} {E E' : List Nat} {s s' : SS} (h : LV2 σ X (nT c) n) (h0 : 0 ≤ c) (hc : nT c < nT (gI σ 18)) (p : PC σ (nT c) E E' s s') (ho : nT (aI σ 19 (nT c)) = 13) : (1 ≤ n ∧ n ≤ 251) ∧ (0 ≤ aI X 126 (nT (n - 1)) ∧ aI X 126 (nT (n - 1)) < 4000) ∧ LV2 σ (sA (sA X 125 (upd (aI X 125) (nT (aI X 126 (nT (n - 1)))) c)) 126 (upd (aI X 126) (nT (n - 1)) c)) (nT c + 1) n := by
  obtain ⟨h1, h2, h3, E0, e1, ⟨n0, n1⟩, hO, hL⟩ := h
  obtain rfl : E = E0 := Option.some.inj (p.he.symm.trans e1)
  have hle := no_le E
  have hl := p.le
  have h4 := p.c4
  have hE : ∃ r, E = 0 :: 2 :: r ∧ E' = 3 :: r := by
    have hes := p.es
    rw [ho] at hes
    simp only [eSt] at hes
    split at hes
    · exact ⟨_, rfl, (Option.some.inj hes).symm⟩
    · cases hes
  obtain ⟨r, e2, e3⟩ := hE
  have hnr : no E = 1 + no r := by rw [e2, no_cons, no_cons, if_neg (by decide), if_pos (by decide)]; omega
  have hx : n ≤ 251 := i32 (n := 251) n0 (by omega) 251 (by decide) (by decide)
  have hn : 1 ≤ n := t_le (by have := t_nT n0; show (1 : Int) ≤ _; omega)
  have hs := nT_sub (x := n) (by lia)
  have hnn : nT (n - 1) = no r := by omega
  obtain ⟨q, q1, q2, q3, q4, q5⟩ := hO [0] 2 r (by rw [e2]; rfl) (by decide)
  have hq4 : aI X 126 (no r) < 4000 := t_lt (by have := t_nT q2.1; show _ < (4000 : Int); omega)
  have hEs : Es (aI σ 19) (aI σ 20) (aI σ 21) (nT c + 1) = some (3 :: r) := by rw [p.he', e3]
  have hokc : okk 3 (nT (aI σ 19 (nT c))) := Or.inr (Or.inr ⟨rfl, ho⟩)
  rw [hnn, q2.2]
  have row : ∀ l' k' r', r = l' ++ k' :: r' → (k' = 1 ∨ k' = 2 ∨ k' = 3) → aI (sA (sA X 125 (upd (aI X 125) q c)) 126 (upd (aI X 126) (no r) c)) 126 (no r') = aI X 126 (no r') := by
    intro l' k' r' e hk'
    have := no_lt e hk'
    rw [aI_126, upd_ne (by omega)]
  have rown : aI (sA (sA X 125 (upd (aI X 125) q c)) 126 (upd (aI X 126) (no r) c)) 126 (no r) = c := by rw [aI_126, upd_eq]
  have r125 : aI (sA (sA X 125 (upd (aI X 125) q c)) 126 (upd (aI X 126) (no r) c)) 125 = upd (aI X 125) q c := rfl
  refine ⟨⟨hn, hx⟩, ⟨q2.1, hq4⟩, h1, fun y y1 y2 => (aI_ne y2).trans ((aI_ne y1).trans (h2 y y1 y2)), hc, E', p.he', ⟨n0, by rw [n1, hnr, e3, no_cons, if_pos (by decide)]⟩, fun l k' r' e hk' => ?_, fun y hy hi => ?_⟩
  · rw [e3] at e
    cases l with
    | nil =>
      obtain ⟨z1, z2⟩ := List.cons.inj e
      subst z1; subst z2
      exact ⟨nT c, by omega, by rw [rown]; exact ⟨h0, rfl⟩, hEs, hokc, fun i a1 a2 => by rw [show i = nT c by omega]; omega⟩
    | cons x l =>
      obtain ⟨-, z2⟩ := List.cons.inj e
      obtain ⟨y, y1, y2, y3, y4, y5⟩ := hO (0 :: 2 :: l) k' r' (by rw [e2, z2]; rfl) hk'
      refine ⟨y, by omega, by rw [row l k' r' z2 hk']; exact y2, y3, y4, fun i a1 a2 => ?_⟩
      by_cases w : i = nT c
      · subst w; omega
      · exact y5 i a1 (by omega)
  · by_cases hyc : y = nT c
    · subst hyc
      exact Or.inl ⟨[], 3, r, e3, hokc, by rw [rown], hEs⟩
    · by_cases w : y = q
      · subst w
        refine Or.inr ?_
        unfold LD
        rw [r125, upd_eq]
        refine ⟨h0, q1, by omega, fun i a1 a2 => ?_, r, Or.inr (Or.inl ?_)⟩
        · by_cases u : i = nT c
          · subst u; omega
          · exact q5 i a1 (by omega)
        · rcases q4 with ⟨u1, -⟩ | ⟨-, u2⟩ | ⟨u1, -⟩
          · omega
          · exact ⟨u2, q3, ho, hEs⟩
          · omega
      · rcases hL y (by omega) hi with ⟨l, k', r', y1, y2, y3, y4⟩ | g
        · rw [e2] at y1
          cases l with
          | nil => obtain ⟨z1, -⟩ := List.cons.inj y1; have := okk_k y2; omega
          | cons x l =>
            obtain ⟨-, z2⟩ := List.cons.inj y1
            cases l with
            | nil =>
              obtain ⟨z3, z4⟩ := List.cons.inj z2
              exfalso
              rw [← z4] at y3
              exact w (y3.symm.trans q2.2)
            | cons x2 l =>
              obtain ⟨-, z4⟩ := List.cons.inj z2
              exact Or.inl ⟨3 :: l, k', r', by rw [e3, z4]; rfl, y2, by rw [row l k' r' z4 (okk_k y2)]; exact y3, y4⟩
        · refine Or.inr ?_
          have g := g.up (c' := nT c + 1) (by omega)
          unfold LD at g ⊢
          rw [r125, upd_ne w]
          exact g
/-- all others -/
theorem LV2.nx {σ X : RS} {c n : Int32} {E E' : List Nat} {s s' : SS} (h : LV2 σ X (nT c) n) (h0 : 0 ≤ c) (hc : nT c < nT (gI σ 18)) (p : PC σ (nT c) E E' s s') (ho : ¬ (8 ≤ nT (aI σ 19 (nT c)) ∧ nT (aI σ 19 (nT c)) ≤ 14)) : LV2 σ X (nT c + 1) n := by
  obtain ⟨h1, h2, h3, E0, e1, ⟨n0, n1⟩, hO, hL⟩ := h
  obtain rfl : E = E0 := Option.some.inj (p.he.symm.trans e1)
  have ho1 : 1 ≤ nT (aI σ 19 (nT c)) := nT_le (x := 1) (by decide) p.hce.1.1
  have hno : no E' = no E := by
    rcases Nat.lt_or_ge 18 (nT (aI σ 19 (nT c))) with q | q
    · obtain ⟨z1, z2, -⟩ := eSt_s (by omega) p.es
      rw [z1]
      rcases z2 with ⟨z, -⟩ | ⟨z, -⟩ <;> rw [z] <;> rfl
    · exact (eSt_no ⟨ho1, q⟩ p.es).2.2.1 (by omega) (by omega)
  refine ⟨h1, h2, hc, E', p.he', ⟨n0, by rw [hno]; exact n1⟩, fun l k r e hk => ?_, fun y hy hi => ?_⟩
  · obtain ⟨l', e'⟩ := eSt_suf p.es ho e hk
    have h18 := eSt_open p.es e' hk
    obtain ⟨q, q1, q2, q3, q4, q5⟩ := hO l' k r e' hk
    refine ⟨q, by omega, q2, q3, q4, fun i a1 a2 => ?_⟩
    by_cases w : i = nT c
    · subst w; exact h18
    · exact q5 i a1 (by omega)
  · have hyc : y ≠ nT c := by
      intro z
      rw [z] at hi
      rcases hi with z | z | z | z <;> omega
    rcases hL y (by omega) hi with ⟨l, k, r, y1, y2, y3, y4⟩ | g
    · obtain ⟨l', e'⟩ := eSt_keep p.es ho y1 (okk_k y2)
      exact Or.inl ⟨l', k, r, e', y2, y3, y4⟩
    · exact Or.inr (g.up (by omega))
