/-! the pile of values with what is void: a kind k is k % 10 of Es's kinds; k + 10: a void value stands in it -/
def er (z : List Nat) : List Nat := z.map (fun k => k % 10)
def eT (n : Nat) (a b t : Int32) (z : List Nat) : Option (List Nat) := match n with
  | 1 => some (0 :: z)
  | 2 => some (0 :: z)
  | 3 => some (0 :: z)
  | 4 => some (0 :: z)
  | 5 => match z with
    | 0 :: r => some (0 :: r)
    | _ => none
  | 6 => match z with
    | 0 :: r => some (0 :: r)
    | _ => none
  | 7 => match z with
    | 0 :: 0 :: r => some (0 :: r)
    | _ => none
  | 8 => match z with
    | x :: r => if x % 10 = 0 then some ((x + 1) :: r) else none
    | _ => none
  | 9 => match z with
    | 0 :: 1 :: r => some (0 :: r)
    | _ => none
  | 10 => match z with
    | x :: r => if x % 10 = 0 then some ((x + 1) :: r) else none
    | _ => none
  | 11 => match z with
    | 0 :: 1 :: r => some (0 :: r)
    | _ => none
  | 12 => match z with
    | x :: r => if x % 10 = 0 then some ((x + 2) :: r) else none
    | _ => none
  | 13 => match z with
    | x :: y :: r => if x % 10 = 0 ∧ y % 10 = 2 then some ((if x < 10 ∧ y < 10 then 3 else 13) :: r) else none
    | _ => none
  | 14 => match z with
    | 0 :: 3 :: r => some (0 :: r)
    | _ => none
  | 15 => match z with
    | x :: r => if x % 10 = 0 then some (x :: r) else none
    | _ => none
  | 16 => some (4 :: z)
  | 17 => if a = 61 then (match z with
    | 0 :: r => some (0 :: r)
    | _ => none) else (match z with
    | 0 :: 4 :: r => some (0 :: r)
    | _ => none)
  | 18 => if z.take (nT a) = List.replicate (nT a) 0 then some ((if t = 5 then 10 else 0) :: z.drop (nT a)) else none
  | 21 => match z with
    | [x] => if x % 10 = 0 then some [] else none
    | _ => none
  | _ => eSt n a b z
def Et (o a b t : Nat → Int32) : Nat → Option (List Nat)
  | 0 => some []
  | c + 1 => match Et o a b t c with
    | some z => eT (nT (o c)) (a c) (b c) (t c) z
    | none => none
theorem Et_congr {o a b t o' a' b' t' : Nat → Int32} {n : Nat} (h : ∀ i, i < n → o' i = o i ∧ a' i = a i ∧ b' i = b i ∧ t' i = t i) : Et o' a' b' t' n = Et o a b t n := by
  induction n with
  | zero => rfl
  | succ n ih =>
    obtain ⟨h1, h2, h3, h4⟩ := h n (Nat.lt_succ_self n)
    unfold Et
    rw [ih (fun i hi => h i (Nat.lt_succ_of_lt hi)), h1, h2, h3, h4]
/-- the judge's types of such a pile -/
def TV (f : Nat → Int32) : List Nat → Nat → Prop
  | [], n => n = 0
  | k :: r, n => if k % 10 = 4 then k = 4 ∧ TV f r n
    else if k % 10 = 3 then ∃ m, n = m + 2 ∧ (k < 10 → ¬ f m = 5 ∧ ¬ f (m + 1) = 5) ∧ (10 ≤ k → f m = 5 ∨ f (m + 1) = 5) ∧ TV f r m
    else ∃ m, n = m + 1 ∧ (k < 10 → ¬ f m = 5) ∧ (10 ≤ k → f m = 5) ∧ TV f r m
theorem TV.n {f : Nat → Int32} : ∀ {z : List Nat} {n : Nat}, TV f z n → n = wl (er z) := by
  intro z
  induction z with
  | nil => intro n h; exact h
  | cons k r ih =>
    intro n h
    have e : wl (er (k :: r)) = wk (k % 10) + wl (er r) := rfl
    rw [e]
    unfold TV at h
    split at h
    · rename_i q
      rw [q, ih h.2]
      show _ = 0 + _
      omega
    · split at h
      · rename_i q
        obtain ⟨m, h1, -, -, h2⟩ := h
        rw [q, h1, ih h2]
        show _ = 2 + _
        omega
      · rename_i q1 q2
        obtain ⟨m, h1, -, -, h2⟩ := h
        have e1 : wk (k % 10) = 1 := by unfold wk; rw [if_neg q2, if_neg q1]
        rw [e1, h1, ih h2]
        omega
theorem TV.congr {f g : Nat → Int32} : ∀ {z : List Nat} {n : Nat}, TV f z n → (∀ i, i < n → g i = f i) → TV g z n := by
  intro z
  induction z with
  | nil => intro n h _; exact h
  | cons k r ih =>
    intro n h hg
    unfold TV at h ⊢
    split
    · rename_i q
      rw [if_pos q] at h
      exact ⟨h.1, ih h.2 hg⟩
    · rename_i q
      rw [if_neg q] at h
      split
      · rename_i q2
        rw [if_pos q2] at h
        obtain ⟨m, h1, h2, h3, h4⟩ := h
        refine ⟨m, h1, ?_, ?_, ih h4 (fun i hi => hg i (by omega))⟩
        · rw [hg m (by omega), hg (m + 1) (by omega)]; exact h2
        · rw [hg m (by omega), hg (m + 1) (by omega)]; exact h3
      · rename_i q2
        rw [if_neg q2] at h
        obtain ⟨m, h1, h2, h3, h4⟩ := h
        refine ⟨m, h1, ?_, ?_, ih h4 (fun i hi => hg i (by omega))⟩
        · rw [hg m (by omega)]; exact h2
        · rw [hg m (by omega)]; exact h3
/-- a value (or an open && || ?) on top -/
theorem TV.top {f : Nat → Int32} {z : List Nat} {n k : Nat} {E : List Nat} (h : TV f z n) (he : er z = k :: E) (hk : k = 0 ∨ k = 1 ∨ k = 2) : ∃ x r m, z = x :: r ∧ er r = E ∧ x % 10 = k ∧ n = m + 1 ∧ TV f r m ∧ (x < 10 → ¬ f m = 5) ∧ (10 ≤ x → f m = 5) := by
  cases z with
  | nil => cases he
  | cons x r =>
    have e1 : x % 10 = k := (List.cons.inj he).1
    have e2 : er r = E := (List.cons.inj he).2
    unfold TV at h
    rw [if_neg (by omega), if_neg (by omega)] at h
    obtain ⟨m, h1, h2, h3, h4⟩ := h
    exact ⟨x, r, m, rfl, e2, e1, h1, h4, h2, h3⟩
theorem TV.top3 {f : Nat → Int32} {z : List Nat} {n : Nat} {E : List Nat} (h : TV f z n) (he : er z = 3 :: E) : ∃ x r m, z = x :: r ∧ er r = E ∧ x % 10 = 3 ∧ n = m + 2 ∧ TV f r m ∧ (x < 10 → ¬ f m = 5 ∧ ¬ f (m + 1) = 5) ∧ (10 ≤ x → f m = 5 ∨ f (m + 1) = 5) := by
  cases z with
  | nil => cases he
  | cons x r =>
    have e1 : x % 10 = 3 := (List.cons.inj he).1
    have e2 : er r = E := (List.cons.inj he).2
    unfold TV at h
    rw [if_neg (by omega), if_pos e1] at h
    obtain ⟨m, h1, h2, h3, h4⟩ := h
    exact ⟨x, r, m, rfl, e2, e1, h1, h4, h2, h3⟩
theorem TV.top4 {f : Nat → Int32} {z : List Nat} {n : Nat} {E : List Nat} (h : TV f z n) (he : er z = 4 :: E) : ∃ r, z = 4 :: r ∧ er r = E ∧ TV f r n := by
  cases z with
  | nil => cases he
  | cons x r =>
    have e1 : x % 10 = 4 := (List.cons.inj he).1
    have e2 : er r = E := (List.cons.inj he).2
    unfold TV at h
    rw [if_pos e1] at h
    obtain ⟨h1, h2⟩ := h
    subst h1
    exact ⟨r, rfl, e2, h2⟩
theorem TV.cons {f : Nat → Int32} {r : List Nat} {k m : Nat} (h : TV f r m) (hk : k % 10 < 3) (h1 : k < 10 → ¬ f m = 5) (h2 : 10 ≤ k → f m = 5) : TV f (k :: r) (m + 1) := by
  unfold TV
  rw [if_neg (by omega), if_neg (by omega)]
  exact ⟨m, rfl, h1, h2, h⟩
/-- the arguments of a call -/
theorem TV.args {f : Nat → Int32} : ∀ (a : Nat) {z : List Nat} {n : Nat}, TV f z n → (er z).take a = List.replicate a 0 → (∀ i, n - a ≤ i → i < n → ¬ f i = 5) → z.take a = List.replicate a 0 ∧ a ≤ n ∧ TV f (z.drop a) (n - a) ∧ er (z.drop a) = (er z).drop a := by
  intro a
  induction a with
  | zero => intro z n h _ _; exact ⟨rfl, by omega, h, rfl⟩
  | succ a ih =>
    intro z n h ht hv
    cases z with
    | nil => cases ht
    | cons x r =>
      have e : (er (x :: r)).take (a + 1) = x % 10 :: (er r).take a := rfl
      rw [e, List.replicate_succ] at ht
      obtain ⟨e1, e2⟩ := List.cons.inj ht
      obtain ⟨x', r', m, h1, h2, h3, h4, h5, h6, h7⟩ := h.top (k := x % 10) (E := er r) rfl (by omega)
      obtain ⟨rfl, rfl⟩ := List.cons.inj h1
      have hx : x = 0 := by
        have q := hv m (by omega) (by omega)
        by_cases w : x < 10
        · omega
        · exact absurd (h7 (by omega)) q
      obtain ⟨g1, g2, g3, g4⟩ := ih h5 e2 (fun i a1 a2 => hv i (by omega) (by omega))
      refine ⟨?_, by omega, ?_, ?_⟩
      · show x :: r.take a = _
        rw [hx, g1, List.replicate_succ]
      · show TV f (r.drop a) (n - (a + 1))
        have : n - (a + 1) = m - a := by omega
        rw [this]
        exact g3
      · exact g4
theorem er_drop {z : List Nat} {a : Nat} : er (z.drop a) = (er z).drop a := by
  unfold er
  rw [List.map_drop]
/-- how many values an exp's code takes off the judge's pile -/
def pops (o a : Int32) : Nat := match nT o with
  | 5 => 1
  | 6 => 1
  | 7 => 2
  | 9 => 2
  | 11 => 2
  | 14 => 3
  | 15 => 1
  | 17 => 1
  | 18 => nT a
  | _ => 0
/-- a code of an exp, where no void value is taken (but by a group) -/
theorem TV.exp {f g : Nat → Int32} {z E E' : List Nat} {n n' o : Nat} {a b t : Int32} (h : TV f z n) (he : er z = E) (hs : eSt o a b E = some E')
    (hc : (o = 1 ∨ o = 2 ∨ o = 3 ∨ o = 4) ∧ n' = n + 1 ∧ (∀ i, i < n → g i = f i) ∧ ¬ g n = 5 ∨
      (o = 5 ∨ o = 6) ∧ n' = n ∧ (∀ i, i < n - 1 → g i = f i) ∧ (∀ i, n - 1 ≤ i → i < n → ¬ f i = 5) ∧ ¬ g (n - 1) = 5 ∨
      (o = 7 ∨ o = 9 ∨ o = 11) ∧ n' = n - 1 ∧ (∀ i, i < n - 2 → g i = f i) ∧ (∀ i, n - 2 ≤ i → i < n → ¬ f i = 5) ∧ ¬ g (n - 2) = 5 ∨
      (o = 14) ∧ n' = n - 2 ∧ (∀ i, i < n - 3 → g i = f i) ∧ (∀ i, n - 3 ≤ i → i < n → ¬ f i = 5) ∧ ¬ g (n - 3) = 5 ∨
      (o = 15) ∧ n' = n ∧ (∀ i, i < n → g i = f i) ∨
      (o = 17) ∧ n' = n ∧ (∀ i, i < n - 1 → g i = f i) ∧ (∀ i, n - 1 ≤ i → i < n → ¬ f i = 5) ∧ ¬ g (n - 1) = 5 ∨
      (o = 18) ∧ n' = n - nT a + 1 ∧ (∀ i, i < n - nT a → g i = f i) ∧ (∀ i, n - nT a ≤ i → i < n → ¬ f i = 5) ∧ g (n - nT a) = t ∨
      (o = 8 ∨ o = 10 ∨ o = 12 ∨ o = 13 ∨ o = 16) ∧ n' = n ∧ (∀ i, i < n → g i = f i)) : ∃ z', eT o a b t z = some z' ∧ er z' = E' ∧ TV g z' n' := by
  rcases hc with ⟨ho, hn, hg, h5⟩ | ⟨ho, hn, hg, hv, h5⟩ | ⟨ho, hn, hg, hv, h5⟩ | ⟨rfl, hn, hg, hv, h5⟩ | ⟨rfl, hn, hg⟩ | ⟨rfl, hn, hg, hv, h5⟩ | ⟨rfl, hn, hg, hv, h5⟩ | ⟨ho, hn, hg⟩
  · have hE : E' = 0 :: E := by rcases ho with rfl | rfl | rfl | rfl <;> exact (Option.some.inj hs).symm
    refine ⟨0 :: z, by rcases ho with rfl | rfl | rfl | rfl <;> rfl, by rw [hE, ← he]; rfl, ?_⟩
    rw [hn]
    exact (h.congr hg).cons (by decide) (fun _ => h5) (fun q => absurd q (by decide))
  · have hE : ∃ r, E = 0 :: r ∧ E' = 0 :: r := by
      rcases ho with rfl | rfl <;> (simp only [eSt] at hs; split at hs <;> first | (cases hs; done) | exact ⟨_, rfl, (Option.some.inj hs).symm⟩)
    obtain ⟨r, e1, e2⟩ := hE
    rw [e1] at he
    obtain ⟨x, r', m, h1, h2, h3, h4, h6, h7, h8⟩ := h.top he (Or.inl rfl)
    have hx : x = 0 := by
      by_cases w : x < 10
      · omega
      · exact absurd (h8 (by omega)) (hv m (by omega) (by omega))
    refine ⟨0 :: r', by rw [h1, hx]; rcases ho with rfl | rfl <;> rfl, by rw [e2, ← h2]; rfl, ?_⟩
    rw [hn, h4]
    refine (h6.congr (fun i hi => hg i (by omega))).cons (by decide) (fun _ => ?_) (fun q => absurd q (by decide))
    have e : n - 1 = m := by omega
    rw [e] at h5
    exact h5
  · have hE : ∃ r, (o = 7 ∧ E = 0 :: 0 :: r ∨ (o = 9 ∨ o = 11) ∧ E = 0 :: 1 :: r) ∧ E' = 0 :: r := by
      rcases ho with rfl | rfl | rfl <;> (simp only [eSt] at hs; split at hs <;> first | (cases hs; done) | exact ⟨_, Or.inl ⟨rfl, rfl⟩, (Option.some.inj hs).symm⟩ | exact ⟨_, Or.inr ⟨Or.inl rfl, rfl⟩, (Option.some.inj hs).symm⟩ | exact ⟨_, Or.inr ⟨Or.inr rfl, rfl⟩, (Option.some.inj hs).symm⟩)
    obtain ⟨r, e1, e2⟩ := hE
    obtain ⟨k, hk, e3, hko⟩ : ∃ k, (k = 0 ∨ k = 1 ∨ k = 2) ∧ E = 0 :: k :: r ∧ ∀ r', eT o a b t (0 :: k :: r') = some (0 :: r') := by
      rcases e1 with ⟨rfl, e⟩ | ⟨q, e⟩
      · exact ⟨0, Or.inl rfl, e, fun _ => rfl⟩
      · exact ⟨1, Or.inr (Or.inl rfl), e, fun _ => by rcases q with rfl | rfl <;> rfl⟩
    rw [e3] at he
    obtain ⟨x, r1, m, h1, h2, h3, h4, h6, h7, h8⟩ := h.top he (Or.inl rfl)
    obtain ⟨y, r2, m2, g1, g2, g3, g4, g6, g7, g8⟩ := h6.top h2 hk
    have hx : x = 0 := by
      by_cases w : x < 10
      · omega
      · exact absurd (h8 (by omega)) (hv m (by omega) (by omega))
    have hy : y = k := by
      by_cases w : y < 10
      · omega
      · exact absurd (g8 (by omega)) (hv m2 (by omega) (by omega))
    refine ⟨0 :: r2, by rw [h1, g1, hx, hy]; exact hko r2, by rw [e2, ← g2]; rfl, ?_⟩
    have e4 : n' = m2 + 1 := by omega
    rw [e4]
    refine (g6.congr (fun i hi => hg i (by omega))).cons (by decide) (fun _ => ?_) (fun q => absurd q (by decide))
    have e : n - 2 = m2 := by omega
    rw [e] at h5
    exact h5
  · have hE : ∃ r, E = 0 :: 3 :: r ∧ E' = 0 :: r := by
      simp only [eSt] at hs; split at hs <;> first | (cases hs; done) | exact ⟨_, rfl, (Option.some.inj hs).symm⟩
    obtain ⟨r, e1, e2⟩ := hE
    rw [e1] at he
    obtain ⟨x, r1, m, h1, h2, h3, h4, h6, h7, h8⟩ := h.top he (Or.inl rfl)
    obtain ⟨y, r2, m2, g1, g2, g3, g4, g6, g7, g8⟩ := h6.top3 h2
    have hx : x = 0 := by
      by_cases w : x < 10
      · omega
      · exact absurd (h8 (by omega)) (hv m (by omega) (by omega))
    have hy : y = 3 := by
      by_cases w : y < 10
      · omega
      · rcases g8 (by omega) with q | q
        · exact absurd q (hv m2 (by omega) (by omega))
        · exact absurd q (hv (m2 + 1) (by omega) (by omega))
    refine ⟨0 :: r2, by rw [h1, g1, hx, hy]; rfl, by rw [e2, ← g2]; rfl, ?_⟩
    have e4 : n' = m2 + 1 := by omega
    rw [e4]
    refine (g6.congr (fun i hi => hg i (by omega))).cons (by decide) (fun _ => ?_) (fun q => absurd q (by decide))
    have e : n - 3 = m2 := by omega
    rw [e] at h5
    exact h5
  · have hE : ∃ r, E = 0 :: r ∧ E' = 0 :: r := by
      simp only [eSt] at hs; split at hs <;> first | (cases hs; done) | exact ⟨_, rfl, (Option.some.inj hs).symm⟩
    obtain ⟨r, e1, e2⟩ := hE
    have he2 := he
    rw [e1] at he2
    obtain ⟨x, r1, m, h1, h2, h3, h4, h6, h7, h8⟩ := h.top he2 (Or.inl rfl)
    refine ⟨z, ?_, by rw [he, e1, e2], by rw [hn]; exact h.congr hg⟩
    rw [h1]
    show (if x % 10 = 0 then some (x :: r1) else none) = _
    rw [if_pos h3]
  · by_cases q : a = 61
    · have hE : ∃ r, E = 0 :: r ∧ E' = 0 :: r := by
        simp only [eSt] at hs; rw [if_pos q] at hs; split at hs <;> first | (cases hs; done) | exact ⟨_, rfl, (Option.some.inj hs).symm⟩
      obtain ⟨r, e1, e2⟩ := hE
      rw [e1] at he
      obtain ⟨x, r', m, h1, h2, h3, h4, h6, h7, h8⟩ := h.top he (Or.inl rfl)
      have hx : x = 0 := by
        by_cases w : x < 10
        · omega
        · exact absurd (h8 (by omega)) (hv m (by omega) (by omega))
      refine ⟨0 :: r', ?_, by rw [e2, ← h2]; rfl, ?_⟩
      · rw [h1, hx]
        show (if a = 61 then _ else _) = _
        rw [if_pos q]
      · rw [hn, h4]
        refine (h6.congr (fun i hi => hg i (by omega))).cons (by decide) (fun _ => ?_) (fun q => absurd q (by decide))
        have e : n - 1 = m := by omega
        rw [e] at h5
        exact h5
    · have hE : ∃ r, E = 0 :: 4 :: r ∧ E' = 0 :: r := by
        simp only [eSt] at hs; rw [if_neg q] at hs; split at hs <;> first | (cases hs; done) | exact ⟨_, rfl, (Option.some.inj hs).symm⟩
      obtain ⟨r, e1, e2⟩ := hE
      rw [e1] at he
      obtain ⟨x, r', m, h1, h2, h3, h4, h6, h7, h8⟩ := h.top he (Or.inl rfl)
      obtain ⟨r2, g1, g2, g3⟩ := h6.top4 h2
      have hx : x = 0 := by
        by_cases w : x < 10
        · omega
        · exact absurd (h8 (by omega)) (hv m (by omega) (by omega))
      refine ⟨0 :: r2, ?_, by rw [e2, ← g2]; rfl, ?_⟩
      · rw [h1, g1, hx]
        show (if a = 61 then _ else _) = _
        rw [if_neg q]
      · rw [hn, h4]
        refine (g3.congr (fun i hi => hg i (by omega))).cons (by decide) (fun _ => ?_) (fun q => absurd q (by decide))
        have e : n - 1 = m := by omega
        rw [e] at h5
        exact h5
  · have hE : E.take (nT a) = List.replicate (nT a) 0 ∧ E' = 0 :: E.drop (nT a) := by
      simp only [eSt] at hs; split at hs <;> first | (cases hs; done) | exact ⟨by assumption, (Option.some.inj hs).symm⟩
    obtain ⟨e1, e2⟩ := hE
    rw [← he] at e1 e2
    obtain ⟨g1, g2, g3, g4⟩ := TV.args (nT a) h e1 hv
    refine ⟨(if t = 5 then 10 else 0) :: z.drop (nT a), ?_, ?_, ?_⟩
    · show (if _ then _ else none) = _
      rw [if_pos g1]
    · rw [e2, ← g4]
      show (if t = 5 then 10 else 0) % 10 :: _ = _
      split <;> rfl
    · rw [hn]
      refine (g3.congr hg).cons (by split <;> decide) (fun q => ?_) (fun q => ?_)
      · rw [h5]
        intro z5
        rw [if_pos z5] at q
        exact absurd q (by decide)
      · rw [h5]
        by_cases z5 : t = 5
        · exact z5
        · rw [if_neg z5] at q
          exact absurd q (by decide)
  · rcases ho with rfl | rfl | rfl | rfl | rfl
    · have hE : ∃ r, E = 0 :: r ∧ E' = 1 :: r := by
        simp only [eSt] at hs; split at hs <;> first | (cases hs; done) | exact ⟨_, rfl, (Option.some.inj hs).symm⟩
      obtain ⟨r, e1, e2⟩ := hE
      rw [e1] at he
      obtain ⟨x, r1, m, h1, h2, h3, h4, h6, h7, h8⟩ := h.top he (Or.inl rfl)
      refine ⟨(x + 1) :: r1, ?_, ?_, ?_⟩
      · rw [h1]
        show (if x % 10 = 0 then some ((x + 1) :: r1) else none) = _
        rw [if_pos h3]
      · rw [e2, ← h2]
        show (x + 1) % 10 :: er r1 = _
        have : (x + 1) % 10 = 1 := by omega
        rw [this]
      · rw [hn, h4]
        have hm := hg m (by omega)
        exact (h6.congr (fun i hi => hg i (by omega))).cons (by omega) (fun q => by rw [hm]; exact h7 (by omega)) (fun q => by rw [hm]; exact h8 (by omega))
    · have hE : ∃ r, E = 0 :: r ∧ E' = 1 :: r := by
        simp only [eSt] at hs; split at hs <;> first | (cases hs; done) | exact ⟨_, rfl, (Option.some.inj hs).symm⟩
      obtain ⟨r, e1, e2⟩ := hE
      rw [e1] at he
      obtain ⟨x, r1, m, h1, h2, h3, h4, h6, h7, h8⟩ := h.top he (Or.inl rfl)
      refine ⟨(x + 1) :: r1, ?_, ?_, ?_⟩
      · rw [h1]
        show (if x % 10 = 0 then some ((x + 1) :: r1) else none) = _
        rw [if_pos h3]
      · rw [e2, ← h2]
        show (x + 1) % 10 :: er r1 = _
        have : (x + 1) % 10 = 1 := by omega
        rw [this]
      · rw [hn, h4]
        have hm := hg m (by omega)
        exact (h6.congr (fun i hi => hg i (by omega))).cons (by omega) (fun q => by rw [hm]; exact h7 (by omega)) (fun q => by rw [hm]; exact h8 (by omega))
    · have hE : ∃ r, E = 0 :: r ∧ E' = 2 :: r := by
        simp only [eSt] at hs; split at hs <;> first | (cases hs; done) | exact ⟨_, rfl, (Option.some.inj hs).symm⟩
      obtain ⟨r, e1, e2⟩ := hE
      rw [e1] at he
      obtain ⟨x, r1, m, h1, h2, h3, h4, h6, h7, h8⟩ := h.top he (Or.inl rfl)
      refine ⟨(x + 2) :: r1, ?_, ?_, ?_⟩
      · rw [h1]
        show (if x % 10 = 0 then some ((x + 2) :: r1) else none) = _
        rw [if_pos h3]
      · rw [e2, ← h2]
        show (x + 2) % 10 :: er r1 = _
        have : (x + 2) % 10 = 2 := by omega
        rw [this]
      · rw [hn, h4]
        have hm := hg m (by omega)
        exact (h6.congr (fun i hi => hg i (by omega))).cons (by omega) (fun q => by rw [hm]; exact h7 (by omega)) (fun q => by rw [hm]; exact h8 (by omega))
    · have hE : ∃ r, E = 0 :: 2 :: r ∧ E' = 3 :: r := by
        simp only [eSt] at hs; split at hs <;> first | (cases hs; done) | exact ⟨_, rfl, (Option.some.inj hs).symm⟩
      obtain ⟨r, e1, e2⟩ := hE
      rw [e1] at he
      obtain ⟨x, r1, m, h1, h2, h3, h4, h6, h7, h8⟩ := h.top he (Or.inl rfl)
      obtain ⟨y, r2, m2, g1, g2, g3, g4, g6, g7, g8⟩ := h6.top h2 (Or.inr (Or.inr rfl))
      refine ⟨(if x < 10 ∧ y < 10 then 3 else 13) :: r2, ?_, ?_, ?_⟩
      · rw [h1, g1]
        show (if x % 10 = 0 ∧ y % 10 = 2 then _ else none) = _
        rw [if_pos ⟨h3, g3⟩]
      · rw [e2, ← g2]
        show (if x < 10 ∧ y < 10 then 3 else 13) % 10 :: er r2 = _
        split <;> rfl
      · have hm := hg m (by omega)
        have hm2 := hg m2 (by omega)
        have e5 : m = m2 + 1 := g4
        rw [hn]
        unfold TV
        rw [if_neg (by split <;> decide), if_pos (by split <;> rfl)]
        refine ⟨m2, by omega, fun q => ?_, fun q => ?_, g6.congr (fun i hi => hg i (by omega))⟩
        · rw [← e5, hm, hm2]
          by_cases w : x < 10 ∧ y < 10
          · exact ⟨g7 w.2, h7 w.1⟩
          · rw [if_neg w] at q
            exact absurd q (by decide)
        · rw [← e5, hm, hm2]
          by_cases w : x < 10 ∧ y < 10
          · rw [if_pos w] at q
            exact absurd q (by decide)
          · by_cases w2 : x < 10
            · exact Or.inl (g8 (by omega))
            · exact Or.inr (h8 (by omega))
    · have hE : E' = 4 :: E := (Option.some.inj hs).symm
      refine ⟨4 :: z, rfl, by rw [hE, ← he]; rfl, ?_⟩
      rw [hn]
      unfold TV
      rw [if_pos rfl]
      exact ⟨rfl, h.congr hg⟩
