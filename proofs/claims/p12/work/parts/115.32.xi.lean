/-! the reading of an exp: what holds of the codes, of the open operators, of the whole operands -/
/-- an exp's last token may be any: no one looks there by it -/
def lk (_ : Int32) : Prop := True
def cx (o t f l : Int32) : Prop := 1 ≤ o ∧ o ≤ 18 ∧ 0 ≤ t ∧ t ≤ 500 ∧ 0 ≤ f ∧ f ≤ 500 ∧ lk l ∧ lk l
/-- what stands right behind the token of an assignment, of a call; how many arguments -/
def cy (W : Nat → Int32) (o a t : Int32) : Prop := ((o = 16 ∨ o = 17) → W (nT t + 1) = 61 ∨ 400 < W (nT t + 1)) ∧ (o = 18 → W (nT t + 1) = 40 ∧ 0 ≤ a ∧ a ≤ 500) ∧ ((o = 1 ∨ o = 6) → 0 ≤ a ∧ a ≤ 4)
theorem cy_no {W : Nat → Int32} {o a t : Int32} (h : o ≤ 15 ∧ ¬ o = 1 ∧ ¬ o = 6) : cy W o a t := ⟨fun q => by lia, fun q => by lia, fun q => by lia⟩
def CI (σ0 σ : RS) (s : List Nat) : Prop := 0 ≤ gI σ0 18 ∧ gI σ0 18 ≤ gI σ 18 ∧ gI σ 18 ≤ 3990 ∧
  (∀ i, i < nT (gI σ0 18) → aI σ 19 i = aI σ0 19 i ∧ aI σ 20 i = aI σ0 20 i ∧ aI σ 21 i = aI σ0 21 i ∧ aI σ 22 i = aI σ0 22 i ∧ aI σ 23 i = aI σ0 23 i ∧ aI σ 24 i = aI σ0 24 i) ∧
  (∀ i, nT (gI σ0 18) ≤ i → i < nT (gI σ 18) → cx (aI σ 19 i) (aI σ 22 i) (aI σ 23 i) (aI σ 24 i)) ∧
  Es (aI σ 19) (aI σ 20) (aI σ 21) (nT (gI σ 18)) = some s ∧
  (∀ i, nT (gI σ0 18) ≤ i → i < nT (gI σ 18) → cy (aI σ0 6) (aI σ 19 i) (aI σ 20 i) (aI σ 22 i)) ∧
  (∀ i, nT (gI σ0 18) < i → i ≤ nT (gI σ 18) → ∀ z, Es (aI σ 19) (aI σ 20) (aI σ 21) i = some z → z.length ≤ 251)
theorem CI.same {σ0 σ σ' : RS} {s : List Nat} (h : CI σ0 σ s) (e18 : gI σ' 18 = gI σ 18) (e19 : aI σ' 19 = aI σ 19) (e20 : aI σ' 20 = aI σ 20) (e21 : aI σ' 21 = aI σ 21) (e22 : aI σ' 22 = aI σ 22) (e23 : aI σ' 23 = aI σ 23) (e24 : aI σ' 24 = aI σ 24) : CI σ0 σ' s := by
  unfold CI
  rw [e18, e19, e20, e21, e22, e23, e24]
  exact h
theorem CI.app {σ0 σ σ' : RS} {s s' : List Nat} (h : CI σ0 σ s) (o a b t f l : Int32) (e18 : gI σ' 18 = gI σ 18 + 1) (e19 : aI σ' 19 = upd (aI σ 19) (nT (gI σ 18)) o) (e20 : aI σ' 20 = upd (aI σ 20) (nT (gI σ 18)) a) (e21 : aI σ' 21 = upd (aI σ 21) (nT (gI σ 18)) b) (e22 : aI σ' 22 = upd (aI σ 22) (nT (gI σ 18)) t) (e23 : aI σ' 23 = upd (aI σ 23) (nT (gI σ 18)) f) (e24 : aI σ' 24 = upd (aI σ 24) (nT (gI σ 18)) l)
    (hc : gI σ 18 < 3990) (hx : cx o t f l) (hy : cy (aI σ0 6) o a t) (hl : s'.length ≤ 251) (he : eSt (nT o) a b s = some s') : CI σ0 σ' s' := by
  obtain ⟨h1, h2, h3, h4, h5, h6, h7, h8⟩ := h
  have hn : nT (gI σ 18 + 1) = nT (gI σ 18) + 1 := nT_add (by lia) (by lia)
  have hle : nT (gI σ0 18) ≤ nT (gI σ 18) := nT_le h1 h2
  unfold CI
  rw [e18, e19, e20, e21, e22, e23, e24, hn]
  refine ⟨h1, by lia, by lia, fun i hi => ?_, fun i hi hj => ?_, Es_emit h6 he, fun i hi hj => ?_, fun i hi hj z hz => ?_⟩
  · have hne : i ≠ nT (gI σ 18) := by omega
    rw [upd_ne hne, upd_ne hne, upd_ne hne, upd_ne hne, upd_ne hne, upd_ne hne]
    exact h4 i hi
  · by_cases hq : i = nT (gI σ 18)
    · subst hq
      rw [upd_eq, upd_eq, upd_eq, upd_eq]
      exact hx
    · rw [upd_ne hq, upd_ne hq, upd_ne hq, upd_ne hq]
      exact h5 i hi (by omega)
  · by_cases hq : i = nT (gI σ 18)
    · subst hq
      rw [upd_eq, upd_eq, upd_eq]
      exact hy
    · rw [upd_ne hq, upd_ne hq, upd_ne hq]
      exact h7 i hi (by omega)
  · by_cases hq : i = nT (gI σ 18) + 1
    · subst hq
      rw [Es_emit h6 he] at hz
      obtain rfl := Option.some.inj hz
      exact hl
    · rw [Es_congr (o := aI σ 19) (a := aI σ 20) (b := aI σ 21) (fun q hq2 => ⟨upd_ne (by omega), upd_ne (by omega), upd_ne (by omega)⟩)] at hz
      exact h8 i hi (by omega) z hz
def ox (s t a : Int32) : Prop := 0 ≤ s ∧ s ≤ 7 ∧ 0 ≤ t ∧ t ≤ 500 ∧ 0 ≤ a ∧ a ≤ 500
/-- no token's number is less than 0 -/
def WZ (σ : RS) : Prop := ∀ t, 0 ≤ aI σ 6 t
def oy (W : Nat → Int32) (s g t : Int32) : Prop := (s = 4 → W (nT t + 1) = 40) ∧ (s = 5 → W (nT t + 1) = 61 ∨ 400 < W (nT t + 1)) ∧ (s = 1 → 0 ≤ g ∧ g ≤ 4)
theorem oy_no {W : Nat → Int32} {s g t : Int32} (h : ¬ s = 4) (h2 : ¬ s = 5) (h3 : ¬ s = 1) : oy W s g t := ⟨fun q => absurd q h, fun q => absurd q h2, fun q => absurd q h3⟩
def OI (W : Nat → Int32) (σ : RS) (L : List Nat) (d : Nat) : Prop := 0 ≤ gI σ 29 ∧ gI σ 29 ≤ 599 ∧ Ok (aI σ 25) (aI σ 26) (aI σ 28) (nT (gI σ 29)) = L ∧ Od (aI σ 25) (nT (gI σ 29)) = d ∧ ∀ i, i < nT (gI σ 29) → ox (aI σ 25 i) (aI σ 27 i) (aI σ 28 i) ∧ oy W (aI σ 25 i) (aI σ 26 i) (aI σ 27 i)
theorem OI.same {W : Nat → Int32} {σ σ' : RS} {L : List Nat} {d : Nat} (h : OI W σ L d) (e29 : gI σ' 29 = gI σ 29) (e25 : aI σ' 25 = aI σ 25) (e26 : aI σ' 26 = aI σ 26) (e27 : aI σ' 27 = aI σ 27) (e28 : aI σ' 28 = aI σ 28) : OI W σ' L d := by
  unfold OI
  rw [e29, e25, e26, e27, e28]
  exact h
theorem OI.push {W : Nat → Int32} {σ σ' : RS} {L : List Nat} {d : Nat} (h : OI W σ L d) (s g t : Int32) (e29 : gI σ' 29 = gI σ 29 + 1) (e25 : aI σ' 25 = upd (aI σ 25) (nT (gI σ 29)) s) (e26 : aI σ' 26 = upd (aI σ 26) (nT (gI σ 29)) g) (e27 : aI σ' 27 = upd (aI σ 27) (nT (gI σ 29)) t) (e28 : aI σ' 28 = upd (aI σ 28) (nT (gI σ 29)) 0)
    (hc : gI σ 29 < 599) (hx : ox s t 0) (hy : oy W s g t) : OI W σ' (oks s g 0 ++ L) ((if s = 2 then 0 else 1) + d) := by
  obtain ⟨h1, h2, h3, h4, h5⟩ := h
  have hn : nT (gI σ 29 + 1) = nT (gI σ 29) + 1 := nT_add (by lia) (by lia)
  unfold OI
  rw [e29, e25, e26, e27, e28, hn]
  refine ⟨by lia, by lia, by rw [Ok_push, h3], by rw [Od_push, h4], fun i hi => ?_⟩
  by_cases hq : i = nT (gI σ 29)
  · subst hq
    rw [upd_eq, upd_eq, upd_eq, upd_eq]
    exact ⟨hx, hy⟩
  · rw [upd_ne hq, upd_ne hq, upd_ne hq, upd_ne hq]
    exact h5 i (by omega)
theorem OI.pop {W : Nat → Int32} {σ σ' : RS} {L : List Nat} {d : Nat} (h : OI W σ L d) (hp : 0 < gI σ 29) (e29 : gI σ' 29 = gI σ 29 - 1) (e25 : aI σ' 25 = aI σ 25) (e26 : aI σ' 26 = aI σ 26) (e27 : aI σ' 27 = aI σ 27) (e28 : aI σ' 28 = aI σ 28) :
    ∃ (L' : List Nat) (d' : Nat), L = oks (aI σ 25 (nT (gI σ 29 - 1))) (aI σ 26 (nT (gI σ 29 - 1))) (aI σ 28 (nT (gI σ 29 - 1))) ++ L' ∧ d = (if aI σ 25 (nT (gI σ 29 - 1)) = 2 then 0 else 1) + d' ∧ OI W σ' L' d' ∧ ox (aI σ 25 (nT (gI σ 29 - 1))) (aI σ 27 (nT (gI σ 29 - 1))) (aI σ 28 (nT (gI σ 29 - 1))) ∧ oy W (aI σ 25 (nT (gI σ 29 - 1))) (aI σ 26 (nT (gI σ 29 - 1))) (aI σ 27 (nT (gI σ 29 - 1))) := by
  obtain ⟨h1, h2, h3, h4, h5⟩ := h
  have hn := nT_sub hp
  rw [hn] at h3 h4 h5
  refine ⟨_, _, h3.symm, h4.symm, ?_, h5 _ (Nat.lt_succ_self _)⟩
  unfold OI
  rw [e29, e25, e26, e27, e28]
  exact ⟨by lia, by lia, rfl, rfl, fun i hi => h5 i (Nat.lt_succ_of_lt hi)⟩
/-- one argument more of the call that is open innermost -/
theorem OI.arg {W : Nat → Int32} {σ σ' : RS} {L' : List Nat} {d : Nat} (hp : 0 < gI σ 29) (h : OI W σ L' d) (hs : aI σ 25 (nT (gI σ 29 - 1)) = 4) (hb : aI σ 28 (nT (gI σ 29 - 1)) < 500) (e29 : gI σ' 29 = gI σ 29) (e25 : aI σ' 25 = aI σ 25) (e26 : aI σ' 26 = aI σ 26) (e27 : aI σ' 27 = aI σ 27) (e28 : aI σ' 28 = upd (aI σ 28) (nT (gI σ 29 - 1)) (aI σ 28 (nT (gI σ 29 - 1)) + 1)) : OI W σ' (0 :: L') d := by
  obtain ⟨h1, h2, h3, h4, h5⟩ := h
  have hn := nT_sub hp
  have h9 := h5 (nT (gI σ 29 - 1)) (by omega)
  unfold OI
  rw [e29, e25, e26, e27, e28]
  rw [hn] at h3 h4 h5 ⊢
  refine ⟨h1, h2, ?_, h4, fun i hi => ?_⟩
  · subst h3
    show oks (aI σ 25 (nT (gI σ 29 - 1))) (aI σ 26 (nT (gI σ 29 - 1))) (upd (aI σ 28) (nT (gI σ 29 - 1)) (aI σ 28 (nT (gI σ 29 - 1)) + 1) (nT (gI σ 29 - 1))) ++ Ok (aI σ 25) (aI σ 26) (upd (aI σ 28) (nT (gI σ 29 - 1)) (aI σ 28 (nT (gI σ 29 - 1)) + 1)) (nT (gI σ 29 - 1)) = 0 :: (oks (aI σ 25 (nT (gI σ 29 - 1))) (aI σ 26 (nT (gI σ 29 - 1))) (aI σ 28 (nT (gI σ 29 - 1))) ++ Ok (aI σ 25) (aI σ 26) (aI σ 28) (nT (gI σ 29 - 1)))
    rw [upd_eq, Ok_congr (s := aI σ 25) (g := aI σ 26) (a := aI σ 28) (fun i hi => ⟨rfl, rfl, upd_ne (by omega)⟩), hs]
    show List.replicate (nT _) 0 ++ _ = 0 :: (List.replicate (nT _) 0 ++ _)
    obtain ⟨⟨-, -, -, -, q1, q2⟩, -⟩ := h9
    rw [nT_add q1 (by lia), List.replicate_succ]
    rfl
  · by_cases hq : i = nT (gI σ 29 - 1)
    · subst hq
      rw [upd_eq]
      obtain ⟨⟨q1, q2, q3, q4, q5, q6⟩, q7⟩ := h9
      exact ⟨⟨q1, q2, q3, q4, by lia, by lia⟩, q7⟩
    · rw [upd_ne hq]
      exact h5 i hi
/-- each code 16 (the value taken for += and the like) has its code 17 (of the same token), or its operator is still open -/
def AX (c0 n m : Nat) (o t s k : Nat → Int32) : Prop := ∀ i, c0 ≤ i → i < n → o i = 16 → (∃ i', i' < n ∧ o i' = 17 ∧ t i' = t i) ∨ (∃ q, q < m ∧ s q = 5 ∧ k q = t i)
theorem AX.app {c0 n m : Nat} {o t s k : Nat → Int32} (h : AX c0 n m o t s k) (x y : Int32) (hx : x ≠ 16) : AX c0 (n + 1) m (upd o n x) (upd t n y) s k := by
  intro i a b c
  by_cases hq : i = n
  · subst hq
    rw [upd_eq] at c
    exact absurd c hx
  · rw [upd_ne hq] at c
    rw [upd_ne hq]
    rcases h i a (by omega) c with ⟨i', z1, z2, z3⟩ | z
    · exact Or.inl ⟨i', by omega, by rw [upd_ne (by omega)]; exact z2, by rw [upd_ne (by omega)]; exact z3⟩
    · exact Or.inr z
theorem AX.push {c0 n m : Nat} {o t s k : Nat → Int32} (h : AX c0 n m o t s k) (x y : Int32) : AX c0 n (m + 1) o t (upd s m x) (upd k m y) := by
  intro i a b c
  rcases h i a b c with z | ⟨q, z1, z2, z3⟩
  · exact Or.inl z
  · exact Or.inr ⟨q, by omega, by rw [upd_ne (by omega)]; exact z2, by rw [upd_ne (by omega)]; exact z3⟩
theorem AX.pop {c0 n m : Nat} {o t s k : Nat → Int32} (h : AX c0 n (m + 1) o t s k) (hs : s m ≠ 5) : AX c0 n m o t s k := by
  intro i a b c
  rcases h i a b c with z | ⟨q, z1, z2, z3⟩
  · exact Or.inl z
  · by_cases hq : q = m
    · subst hq; exact absurd z2 hs
    · exact Or.inr ⟨q, by omega, z2, z3⟩
theorem AX.asg {c0 n m : Nat} {o t s k : Nat → Int32} (h : AX c0 n (m + 1) o t s k) (y : Int32) (hy : y = k m) : AX c0 (n + 1) m (upd o n 17) (upd t n y) s k := by
  intro i a b c
  by_cases hq : i = n
  · subst hq
    rw [upd_eq] at c
    exact absurd c (by decide)
  · rw [upd_ne hq] at c
    rw [upd_ne hq]
    rcases h i a (by omega) c with ⟨i', z1, z2, z3⟩ | ⟨q, z1, z2, z3⟩
    · exact Or.inl ⟨i', by omega, by rw [upd_ne (by omega)]; exact z2, by rw [upd_ne (by omega)]; exact z3⟩
    · by_cases hz : q = m
      · subst hz
        exact Or.inl ⟨n, by omega, upd_eq, by rw [upd_eq, hy]; exact z3⟩
      · exact Or.inr ⟨q, by omega, z2, z3⟩
theorem AX.a16 {c0 n m : Nat} {o t s k : Nat → Int32} (h : AX c0 n m o t s k) (y : Int32) : AX c0 (n + 1) (m + 1) (upd o n 16) (upd t n y) (upd s m 5) (upd k m y) := by
  intro i a b c
  by_cases hq : i = n
  · subst hq
    exact Or.inr ⟨m, by omega, upd_eq, by rw [upd_eq, upd_eq]⟩
  · rw [upd_ne hq] at c
    rw [upd_ne hq]
    rcases h i a (by omega) c with ⟨i', z1, z2, z3⟩ | ⟨q, z1, z2, z3⟩
    · exact Or.inl ⟨i', by omega, by rw [upd_ne (by omega)]; exact z2, by rw [upd_ne (by omega)]; exact z3⟩
    · exact Or.inr ⟨q, by omega, by rw [upd_ne (by omega)]; exact z2, by rw [upd_ne (by omega)]; exact z3⟩
def AA (σ0 σ : RS) : Prop := AX (nT (gI σ0 18)) (nT (gI σ 18)) (nT (gI σ 29)) (aI σ 19) (aI σ 22) (aI σ 25) (aI σ 27) ∧ WZ σ0
def VI (σ : RS) (n : Nat) : Prop := 0 ≤ gI σ 31 ∧ nT (gI σ 31) = n ∧ ∀ i, i < n → 0 ≤ aI σ 30 i ∧ aI σ 30 i ≤ 500
theorem VI.same {σ σ' : RS} {n : Nat} (h : VI σ n) (e31 : gI σ' 31 = gI σ 31) (e30 : aI σ' 30 = aI σ 30) : VI σ' n := by
  unfold VI
  rw [e31, e30]
  exact h
theorem VI.push {σ σ' : RS} {n : Nat} (h : VI σ n) (t : Int32) (e31 : gI σ' 31 = gI σ 31 + 1) (e30 : aI σ' 30 = upd (aI σ 30) (nT (gI σ 31)) t) (hc : gI σ 31 < 5000) (ht : 0 ≤ t ∧ t ≤ 500) : VI σ' (n + 1) := by
  obtain ⟨h1, h2, h3⟩ := h
  unfold VI
  rw [e31, e30, nT_add h1 (by lia), h2]
  refine ⟨by lia, rfl, fun i hi => ?_⟩
  by_cases hq : i = n
  · subst hq
    rw [upd_eq]
    exact ht
  · rw [upd_ne hq]
    exact h3 i (by omega)
theorem VI.set {σ σ' : RS} {n : Nat} (h : VI σ n) (t : Int32) (k : Nat) (e31 : gI σ' 31 = gI σ 31) (e30 : aI σ' 30 = upd (aI σ 30) k t) (ht : 0 ≤ t ∧ t ≤ 500) : VI σ' n := by
  obtain ⟨h1, h2, h3⟩ := h
  unfold VI
  rw [e31, e30]
  refine ⟨h1, h2, fun i hi => ?_⟩
  by_cases hq : i = k
  · subst hq
    rw [upd_eq]
    exact ht
  · rw [upd_ne hq]
    exact h3 i hi
theorem nT_subn {x y : Int32} (h0 : 0 ≤ y) (h : y ≤ x) : nT (x - y) = nT x - nT y ∧ nT y ≤ nT x := by
  obtain ⟨n, h2, h3, h4⟩ := nT_of (x := x) (by lia)
  obtain ⟨m, k2, k3, k4⟩ := nT_of h0
  have hle := nT_le h0 h
  rw [h4, k4] at hle
  rw [h4, k4, h3, k3, pk_sub hle, nT_nI (by omega)]
  exact ⟨rfl, hle⟩
theorem VI.pop {σ σ' : RS} {n : Nat} (h : VI σ n) (y : Int32) (h0 : 0 ≤ y) (hy : y ≤ gI σ 31) (e31 : gI σ' 31 = gI σ 31 - y) (e30 : aI σ' 30 = aI σ 30) : VI σ' (n - nT y) := by
  obtain ⟨h1, h2, h3⟩ := h
  obtain ⟨g1, g2⟩ := nT_subn h0 hy
  unfold VI
  rw [e31, e30, g1, h2]
  exact ⟨by lia, rfl, fun i hi => h3 i (by omega)⟩
