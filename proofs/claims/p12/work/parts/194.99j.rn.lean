/-! what holds while a program runs -/
def RG (σ : RS) : Prop := JD σ ∧ gI σ 66 = 0 ∧ ∀ p, p < nT (gI σ 18) → isl (nT (aI σ 19 p)) → LD σ σ p (nT (gI σ 18))
theorem RG.k {σ : RS} (h : RG σ) : PK σ := h.1.1
theorem RG.ec {σ : RS} (h : RG σ) {i : Nat} (hi : i < nT (gI σ 18)) : EC σ i := (h.1.2.2.2 h.2.1).1 i hi
theorem RG.zs {σ : RS} (h : RG σ) {c : Nat} (hc : c ≤ nT (gI σ 18)) : ∃ z, zt σ c = some z ∧ gd z := Et_all (h.1.2.2.2 h.2.1).2 (nT (gI σ 18) - c) c (by omega)
theorem eT_s {o : Nat} {a b t : Int32} {z z' : List Nat} (ho : 19 ≤ o) (h : eT o a b t z = some z') : z' = [] ∧ ((∃ x, z = [x] ∧ x % 10 = 0 ∧ (o ≠ 21 → x = 0) ∧ pop1 o a b) ∨ (z = [] ∧ ¬ pop1 o a b)) := by
  by_cases h21 : o = 21
  · subst h21
    simp only [eT] at h
    split at h
    · split at h
      · rename_i x hx
        exact ⟨(Option.some.inj h).symm, Or.inl ⟨x, rfl, hx, fun q => absurd rfl q, Or.inl (Or.inl rfl)⟩⟩
      · cases h
    · cases h
  · have e : eT o a b t z = eSt o a b z := by
      unfold eT
      split <;> first | omega | rfl
    rw [e] at h
    obtain ⟨h1, h2, -⟩ := eSt_s ho h
    refine ⟨h1, ?_⟩
    rcases h2 with ⟨q1, q2⟩ | q
    · exact Or.inl ⟨0, q1, rfl, fun _ => rfl, q2⟩
    · exact Or.inr q
/-- one code: ahead of it, behind it -/
theorem RG.cd {σ : RS} (h : RG σ) {c : Nat} (hc : c < nT (gI σ 18)) : ∃ z z', (zt σ c = some z ∧ gd z) ∧ (zt σ (c + 1) = some z' ∧ gd z') ∧ eT (nT (aI σ 19 c)) (aI σ 20 c) (aI σ 21 c) (aI σ 81 c) z = some z' := by
  obtain ⟨z', h1, h2⟩ := h.zs (show c + 1 ≤ _ from hc)
  obtain ⟨z, h3, h4⟩ := Et_step h1
  exact ⟨z, z', ⟨h3, eT_gd h4 h2⟩, ⟨h1, h2⟩, h4⟩
theorem RG.beh {σ : RS} (h : RG σ) {c : Nat} (hc : c < nT (gI σ 18)) (ho : 19 ≤ nT (aI σ 19 c)) : zt σ (c + 1) = some [] := by
  obtain ⟨z, z', h1, h2, h3⟩ := h.cd hc
  rw [h2.1, (eT_s ho h3).1]
theorem RG.ahd {σ : RS} (h : RG σ) {c : Nat} (hc : c < nT (gI σ 18)) (ho : 19 ≤ nT (aI σ 19 c)) (hp : ¬ pop1 (nT (aI σ 19 c)) (aI σ 20 c) (aI σ 21 c)) : zt σ c = some [] := by
  obtain ⟨z, z', h1, h2, h3⟩ := h.cd hc
  rcases (eT_s ho h3).2 with ⟨x, q1, q2, q3, q4⟩ | ⟨q, -⟩
  · exact absurd q4 hp
  · rw [h1.1, q]
theorem RG.wz {σ : RS} (h : RG σ) {c : Nat} (hc : c ≤ nT (gI σ 18)) {z : List Nat} (hz : zt σ c = some z) : z.length ≤ 251 := by
  have he := Et_Es c z hz
  have hl : (er z).length = z.length := by unfold er; simp
  rw [← hl]
  obtain ⟨f, kk, j, hp⟩ := h.k
  exact (hp.2.2.2.2.2.2.2.2.2.1.2 c hc).1 _ he
/-- a method that runs has a code there -/
theorem RG.in_ {σ : RS} (h : RG σ) {c : Nat} (hc : c ≤ nT (gI σ 18)) {l : List (Nat × Nat)} {m : Nat} (hs : st σ c = some (l, m)) (hm : m < nT (gI σ 36)) : c < nT (gI σ 18) := by
  refine Nat.lt_of_le_of_ne hc (fun e => ?_)
  rw [e] at hs
  have e2 := (Option.some.inj (hs.symm.trans h.k.fin))
  have e3 : m = nT (gI σ 36) := congrArg Prod.snd e2
  omega
/-- tries that stand open -/
def trs (l : List (Nat × Nat)) : List (Nat × Nat) := l.filter (fun q => decide (50 ≤ q.1 ∧ q.1 ≤ 52))
theorem trs_in {x k : Nat} {r : List (Nat × Nat)} (h : 50 ≤ x ∧ x ≤ 52) : trs ((x, k) :: r) = (x, k) :: trs r := by
  unfold trs
  rw [List.filter_cons_of_pos]
  exact decide_eq_true h
theorem trs_out {x k : Nat} {r : List (Nat × Nat)} (h : ¬ (50 ≤ x ∧ x ≤ 52)) : trs ((x, k) :: r) = trs r := by
  unfold trs
  rw [List.filter_cons_of_neg]
  exact fun q => h (of_decide_eq_true q)
theorem trs_nl (l : List (Nat × Nat)) : (trs l).length ≤ nl l := by
  induction l with
  | nil => exact Nat.le_refl _
  | cons q r ih =>
    obtain ⟨x, k⟩ := q
    by_cases h : 50 ≤ x ∧ x ≤ 52
    · rw [trs_in h]
      show (trs r).length + 1 ≤ (if _ then 1 else 0) + nl r
      rw [if_pos (Or.inr h)]
      omega
    · rw [trs_out h]
      show _ ≤ _ + nl r
      omega
theorem trs_split {l w u : List (Nat × Nat)} {x k : Nat} (h : trs l = w ++ (x, k) :: u) : (50 ≤ x ∧ x ≤ 52) ∧ ∃ l1 l2, l = l1 ++ (x, k) :: l2 ∧ trs l1 = w ∧ trs l2 = u := by
  induction l generalizing w with
  | nil =>
    exfalso
    have : ([] : List (Nat × Nat)) = w ++ (x, k) :: u := h
    simp at this
  | cons q r ih =>
    obtain ⟨y, k'⟩ := q
    by_cases hy : 50 ≤ y ∧ y ≤ 52
    · rw [trs_in hy] at h
      cases w with
      | nil =>
        obtain ⟨e1, e2⟩ := List.cons.inj h
        have e3 : y = x := congrArg Prod.fst e1
        have e4 : k' = k := congrArg Prod.snd e1
        subst e3; subst e4
        exact ⟨hy, [], r, rfl, rfl, e2⟩
      | cons p w =>
        obtain ⟨e1, e2⟩ := List.cons.inj h
        obtain ⟨g1, l1, l2, g2, g3, g4⟩ := ih e2
        exact ⟨g1, (y, k') :: l1, l2, by rw [g2]; rfl, by rw [trs_in hy, g3, e1], g4⟩
    · rw [trs_out hy] at h
      obtain ⟨g1, l1, l2, g2, g3, g4⟩ := ih h
      exact ⟨g1, (y, k') :: l1, l2, by rw [g2]; rfl, by rw [trs_out hy, g3], g4⟩
/-- how far a place is on the way -/
def vp (σ : RS) (c : Nat) : Nat := if nT (aI σ 19 c) = 26 ∨ nT (aI σ 19 c) = 32 then 25000000 else match st σ c with
  | some ((30, k) :: _, _) => 5000 * nT (aI σ 51 k) + c
  | some ((34, k) :: _, _) => 5000 * nT (aI σ 55 k) + c
  | _ => 5000 * c
/-- where a jump leads, under the tries u -/
def GT (σ : RS) (m : Nat) (to : Int32) (u : List (Nat × Nat)) : Prop := 0 ≤ to ∧ ∃ l w, (nT to ≤ nT (gI σ 18) ∧ zt σ (nT to) = some [] ∧ st σ (nT to) = some (l, m)) ∧ u = w ++ trs l ∧ (∀ q ∈ w, ¬ (aI σ 51 q.2 ≤ to ∧ to ≤ aI σ 55 q.2) ∧ 5000 * nT (aI σ 55 q.2) < vp σ (nT to)) ∧ ∀ q v, trs l = q :: v → aI σ 51 q.2 ≤ to ∧ to ≤ aI σ 55 q.2
/-- an entry of the tries -/
def YE (σ X : RS) (j h m : Nat) (q : Nat × Nat) (u : List (Nat × Nat)) (t : Nat) : Prop := (0 ≤ aI X 134 t ∧ nT (aI X 134 t) = q.2) ∧ (0 ≤ aI X 135 t ∧ nT (aI X 135 t) = j) ∧ (0 ≤ aI X 136 t ∧ nT (aI X 136 t) = h) ∧ (0 ≤ aI X 137 t ∧ nT (aI X 137 t) + 50 = q.1) ∧ (q.1 = 52 → (aI X 138 t = 0 ∨ aI X 138 t = 1 ∨ aI X 138 t = 2 ∨ aI X 138 t = 3) ∧ (aI X 138 t = 1 → GT σ m (aI X 139 t) u ∧ 5000 * nT (aI σ 55 q.2) < vp σ (nT (aI X 139 t))))
def TT (σ X : RS) (j h m : Nat) : List (Nat × Nat) → Nat → Nat → Prop
  | [], t0, t => t = t0
  | q :: u, t0, t => ∃ t', t = t' + 1 ∧ TT σ X j h m u t0 t' ∧ YE σ X j h m q u t'
/-- the calls below: i + 1 calls, the height where the topmost begins, the tries below it, its method -/
def BL (σ X : RS) : Nat → Nat → Nat → Nat → Prop
  | 0, h, t, m => (h = 0 ∧ t = 0) ∧ (0 ≤ aI X 132 0 ∧ nT (aI X 132 0) = m) ∧ m < nT (gI σ 36)
  | i + 1, h, t, m => ((0 ≤ aI X 132 (i + 1) ∧ nT (aI X 132 (i + 1)) = m) ∧ m < nT (gI σ 36)) ∧ ∃ h' t' m' l x r, BL σ X i h' t' m' ∧ (0 ≤ aI X 131 (i + 1) ∧ nT (aI X 131 (i + 1)) ≤ nT (gI σ 18)) ∧ (st σ (nT (aI X 131 (i + 1))) = some (l, m') ∧ zt σ (nT (aI X 131 (i + 1))) = some (x :: r)) ∧ ((aI σ 38 m = 5 ∧ x = 10) ∨ (¬ aI σ 38 m = 5 ∧ x = 0)) ∧ h = h' + wz r ∧ TT σ X (i + 1) h' m' (trs l) t' t
def Yq (X Y : RS) (t : Nat) : Prop := ∀ s, s < t → ∀ k, 134 ≤ k → k ≤ 139 → aI Y k s = aI X k s
theorem TT.le {σ X : RS} {j h m : Nat} {u : List (Nat × Nat)} {t0 t : Nat} (hT : TT σ X j h m u t0 t) : t = t0 + u.length := by
  induction u generalizing t with
  | nil => exact hT
  | cons q u ih =>
    obtain ⟨t', e, h1, -⟩ := hT
    have := ih h1
    simp only [List.length_cons]
    omega
theorem TT.eq {σ X Y : RS} {j h m : Nat} {u : List (Nat × Nat)} {t0 t : Nat} (hT : TT σ X j h m u t0 t) (hY : Yq X Y t) : TT σ Y j h m u t0 t := by
  induction u generalizing t with
  | nil => exact hT
  | cons q u ih =>
    obtain ⟨t', e, h1, h2⟩ := hT
    refine ⟨t', e, ih h1 (fun s hs => hY s (by omega)), ?_⟩
    have hy := hY t' (by omega)
    unfold YE
    rw [hy 134 (by decide) (by decide), hy 135 (by decide) (by decide), hy 136 (by decide) (by decide), hy 137 (by decide) (by decide), hy 138 (by decide) (by decide), hy 139 (by decide) (by decide)]
    exact h2
theorem BL.eq {σ X Y : RS} {i h t m : Nat} (hB : BL σ X i h t m) (h1 : ∀ s, s ≤ i → aI Y 131 s = aI X 131 s ∧ aI Y 132 s = aI X 132 s) (hY : Yq X Y t) : BL σ Y i h t m := by
  induction i generalizing h t m with
  | zero =>
    obtain ⟨g1, g2, g3⟩ := hB
    exact ⟨g1, by rw [(h1 0 (Nat.le_refl 0)).2]; exact g2, g3⟩
  | succ i ih =>
    obtain ⟨⟨g1, g2⟩, h', t', m', l, x, r, g3, g4, g5, g6, g7, g8⟩ := hB
    have e := h1 (i + 1) (Nat.le_refl _)
    have e9 := g8.le
    refine ⟨⟨by rw [e.2]; exact g1, g2⟩, h', t', m', l, x, r, ih g3 (fun s hs => h1 s (by omega)) (fun s hs => hY s (by omega)), by rw [e.1]; exact g4, by rw [e.1]; exact g5, g6, g7, g8.eq hY⟩
/-- what bounds them -/
theorem BL.le {σ X : RS} (hP : RG σ) {i h t m : Nat} (hB : BL σ X i h t m) : h ≤ 251 * i ∧ t ≤ 40 * i ∧ m < nT (gI σ 36) ∧ (0 ≤ aI X 132 i ∧ nT (aI X 132 i) = m) := by
  induction i generalizing h t m with
  | zero =>
    obtain ⟨⟨g1, g2⟩, g3, g4⟩ := hB
    exact ⟨by omega, by omega, g4, g3⟩
  | succ i ih =>
    obtain ⟨⟨g1, g2⟩, h', t', m', l, x, r, g3, g4, g5, g6, g7, g8⟩ := hB
    obtain ⟨a1, a2, a3, a4⟩ := ih g3
    have b1 := hP.wz g4.2 g5.2
    have b2 := wz_le r
    have b3 := g8.le
    have b4 := trs_nl l
    have b5 : nl l ≤ 40 := by
      obtain ⟨f, kk, j, hp⟩ := hP.k
      exact ((hp.2.2.2.2.2.2.2.2.2.1.2 _ g4.2).2 _ g5.1).1
    simp only [List.length_cons] at b1
    exact ⟨by omega, by omega, g2, g1⟩
