/-! what holds of the codes, the things, the frames, the variables, the methods, between two pieces of the reading -/
/-- how many codes of exps, how many of jumps -/
def Ne (o : Nat → Int32) : Nat → Nat
  | 0 => 0
  | c + 1 => (if nT (o c) ≤ 18 then 1 else 0) + Ne o c
def Nj (o : Nat → Int32) : Nat → Nat
  | 0 => 0
  | c + 1 => (if nT (o c) = 46 ∨ nT (o c) = 47 then 1 else 0) + Nj o c
theorem Ne_congr {o o' : Nat → Int32} {n : Nat} (h : ∀ i, i < n → o' i = o i) : Ne o' n = Ne o n := by
  induction n with
  | zero => rfl
  | succ n ih =>
    unfold Ne
    rw [ih (fun i hi => h i (Nat.lt_succ_of_lt hi)), h n (Nat.lt_succ_self n)]
theorem Nj_congr {o o' : Nat → Int32} {n : Nat} (h : ∀ i, i < n → o' i = o i) : Nj o' n = Nj o n := by
  induction n with
  | zero => rfl
  | succ n ih =>
    unfold Nj
    rw [ih (fun i hi => h i (Nat.lt_succ_of_lt hi)), h n (Nat.lt_succ_self n)]
theorem Ne_emit {o : Nat → Int32} {n : Nat} {x : Int32} : Ne (upd o n x) (n + 1) = (if nT x ≤ 18 then 1 else 0) + Ne o n := by
  show (if nT (upd o n x n) ≤ 18 then 1 else 0) + Ne (upd o n x) n = _
  rw [Ne_congr (o := o) (fun i hi => upd_ne (by omega)), upd_eq]
theorem Nj_emit {o : Nat → Int32} {n : Nat} {x : Int32} : Nj (upd o n x) (n + 1) = (if nT x = 46 ∨ nT x = 47 then 1 else 0) + Nj o n := by
  show (if nT (upd o n x n) = 46 ∨ nT (upd o n x n) = 47 then 1 else 0) + Nj (upd o n x) n = _
  rw [Nj_congr (o := o) (fun i hi => upd_ne (by omega)), upd_eq]
theorem Ne_le {o : Nat → Int32} {n : Nat} : ∀ m, n ≤ m → Ne o m ≤ Ne o n + (m - n) := by
  intro m hm
  induction m with
  | zero =>
    have : n = 0 := by omega
    subst this
    omega
  | succ m ih =>
    by_cases hq : n = m + 1
    · subst hq; omega
    · have h1 := ih (by omega)
      have h2 : Ne o (m + 1) = (if nT (o m) ≤ 18 then 1 else 0) + Ne o m := rfl
      rw [h2]
      split <;> omega
theorem Nj_exps {o : Nat → Int32} {n : Nat} : ∀ m, n ≤ m → (∀ i, n ≤ i → i < m → nT (o i) ≤ 18) → Nj o m = Nj o n := by
  intro m hm
  induction m with
  | zero =>
    intro _
    have : n = 0 := by omega
    subst this
    rfl
  | succ m ih =>
    intro hi
    by_cases hq : n = m + 1
    · subst hq; rfl
    · have h1 := ih (by omega) (fun i h1 h2 => hi i h1 (by omega))
      have h2 := hi m (by omega) (by omega)
      have h3 : Nj o (m + 1) = (if nT (o m) = 46 ∨ nT (o m) = 47 then 1 else 0) + Nj o m := rfl
      rw [h3, if_neg (by omega), h1]
      omega
/-- labels and tries that stand open -/
def nl : List (Nat × Nat) → Nat
  | [] => 0
  | q :: r => (if q.1 = 41 ∨ (50 ≤ q.1 ∧ q.1 ≤ 52) then 1 else 0) + nl r
/-- the cond of a do, the update of a for stand on top: there are exps alone -/
def zh : List (Nat × Nat) → Prop
  | [] => False
  | q :: _ => q.1 = 30 ∨ q.1 = 34
theorem Fs_nz {s t p : Nat → Int32} {n : Nat} : ¬ zh (Fs s t p n) := by
  induction n with
  | zero => exact fun h => h
  | succ n ih =>
    show ¬ zh (fit (s n) (t n) (p n) ++ Fs s t p n)
    unfold fit
    split <;> first | exact ih | (intro z; simp [zh] at z; done)
theorem sSt_nl {n : Nat} {a : Int32} {c : Nat} {s s' : SS} (h : sSt n a c s = some s') : (¬ n = 41 → ¬ n = 50 → nl s'.1 ≤ nl s.1) ∧ nl s'.1 ≤ nl s.1 + 1 ∧ (¬ n = 54 → s'.2 = s.2) ∧ s'.2 ≤ s.2 + 1 := by
  obtain ⟨l, m⟩ := s
  rcases l with _ | ⟨q, r⟩
  · unfold sSt at h
    split at h <;> (try dsimp only at h) <;> (try rw [if_pos rfl] at h) <;> first
      | (cases h; done)
      | (obtain rfl := Option.some.inj h; refine ⟨fun _ _ => ?_, ?_, fun _ => ?_, ?_⟩ <;> first | omega | (simp [nl]; done) | (simp [nl]; omega) | (simp only [nl]; (repeat' split) <;> simp_all <;> omega) | contradiction)
  · unfold sSt at h
    split at h <;> (try dsimp only at h) <;> first
      | (obtain rfl := Option.some.inj h; refine ⟨fun _ _ => ?_, ?_, fun _ => ?_, ?_⟩ <;> first | omega | (simp [nl]; done) | (simp [nl]; omega) | (simp only [nl]; (repeat' split) <;> simp_all <;> omega) | contradiction)
      | (split at h <;> first
          | (cases h; done)
          | (rename_i hq; obtain rfl := Option.some.inj h; subst hq; refine ⟨fun _ _ => ?_, ?_, fun _ => ?_, ?_⟩ <;> first | omega | (simp [nl]; done) | (simp [nl]; omega) | (simp only [nl]; (repeat' split) <;> simp_all <;> omega) | contradiction)
          | (rename_i hq; obtain rfl := Option.some.inj h; rcases hq with rfl | rfl <;> refine ⟨fun _ _ => ?_, ?_, fun _ => ?_, ?_⟩ <;> first | omega | (simp [nl]; done) | (simp [nl]; omega) | (simp only [nl]; (repeat' split) <;> simp_all <;> omega) | contradiction)
          | (rename_i hq; exact absurd hq (by simp; done)))
theorem eSt_stm {n : Nat} {a b : Int32} {E E' : List Nat} (hn : 19 ≤ n) (h : eSt n a b E = some E') : E' = [] := by
  unfold eSt at h
  split at h <;> (try omega) <;> (try split at h) <;> (try split at h) <;> (try split at h) <;> first
    | (cases h; done)
    | (exact (Option.some.inj h).symm)
/-- of codes: what stands behind a NAME:, behind break's NAME; where things begin; what they are -/
def ty (W K : Nat → Int32) (o t : Int32) : Prop := (o = 41 → W (nT t + 1) = 58) ∧ ((o = 46 ∨ o = 47) → K (nT t) = 1 → W (nT t + 1) = 59)
def tz (ks : Nat → Nat → Int32) (o a : Int32) (c : Nat) : Prop := ((o = 26 ∨ o = 29 ∨ o = 50) → nT (ks 51 (nT a)) = c) ∧ (o = 26 → ks 50 (nT a) = 4) ∧ (o = 29 → ks 50 (nT a) = 5) ∧ (o = 32 → ks 50 (nT a) = 6)
def jo (n x : Nat) : Prop := x = 27 ∨ x = 29 ∨ x = 35 ∨ (n = 46 ∧ (x = 37 ∨ x = 41))
def ce (o a t f l th : Int32) (ks : Nat → Nat → Int32) (c : Nat) : Prop := (1 ≤ o ∧ o ≤ 54) ∧ (0 ≤ t ∧ t ≤ 500) ∧ (0 ≤ f ∧ f ≤ 500) ∧ (lk l ∧ lk l) ∧ (kop (nT o) = true → 0 ≤ a ∧ a < th) ∧ (o = 22 → 0 ≤ a ∧ a < 60) ∧ (o = 54 → 0 ≤ a ∧ a ≤ 9) ∧ ((o = 46 ∨ o = 47) → a = -2 ∨ (0 ≤ a ∧ a < th)) ∧ (ksl (nT o) ≠ 0 → 0 ≤ ks (ksl (nT o)) (nT a)) ∧ cy (ks 6) o a t ∧ ty (ks 6) (ks 3) o t ∧ tz ks o a c
def CE (σ : RS) : Prop := ∀ c, c < nT (gI σ 18) → ce (aI σ 19 c) (aI σ 20 c) (aI σ 22 c) (aI σ 23 c) (aI σ 24 c) (gI σ 49) (aI σ) c
def TI (σ : RS) : Prop := (∀ r, 52 ≤ r → r ≤ 58 → ∀ k, k < nT (gI σ 49) → aI σ r k = -2 ∨ (0 ≤ aI σ r k ∧ aI σ r k < gI σ 18 ∧ ksl (nT (aI σ 19 (nT (aI σ r k)))) = r ∧ nT (aI σ 20 (nT (aI σ r k))) = k)) ∧
  ∀ k, k < nT (gI σ 49) → (0 ≤ aI σ 51 k ∧ aI σ 51 k ≤ gI σ 18) ∧ (0 ≤ aI σ 60 k ∧ aI σ 60 k ≤ 500) ∧ (aI σ 61 k = -2 ∨ (0 ≤ aI σ 61 k ∧ aI σ 61 k < 60)) ∧ (0 ≤ aI σ 57 k → 0 ≤ aI σ 61 k) ∧ ((0 ≤ aI σ 50 k ∧ aI σ 50 k ≤ 11) ∧ aI σ 59 k = -2) ∧ Es (aI σ 19) (aI σ 20) (aI σ 21) (nT (aI σ 51 k)) = some []
def AG (σ : RS) : Prop := ∀ i, i < nT (gI σ 18) → aI σ 19 i = 16 → ∃ i', i' < nT (gI σ 18) ∧ aI σ 19 i' = 17 ∧ aI σ 22 i' = aI σ 22 i
/-- types are types -/
def GZ (σ : RS) : Prop := WZ σ ∧ (∀ v, 0 ≤ aI σ 44 v ∧ aI σ 44 v ≤ 4) ∧ ∀ m, 0 ≤ aI σ 38 m
theorem GZ.same {σ σ' : RS} (h : GZ σ) (f6 : aI σ' 6 = aI σ 6) (f38 : aI σ' 38 = aI σ 38) (f44 : aI σ' 44 = aI σ 44) : GZ σ' := by
  unfold GZ WZ
  rw [f6, f38, f44]
  exact h
def UP (σ : RS) : Prop := ∀ c d, c < d → d < nT (gI σ 18) → kpu (nT (aI σ 19 c)) = true → kpu (nT (aI σ 19 d)) = true → aI σ 20 c ≠ aI σ 20 d
def FI (σ : RS) : Prop := (0 ≤ gI σ 62 ∧ gI σ 62 ≤ 40) ∧ ∀ i, i < nT (gI σ 62) → (0 ≤ aI σ 63 i ∧ aI σ 63 i ≤ 11) ∧ (0 ≤ aI σ 64 i ∧ aI σ 64 i < gI σ 49) ∧ (¬ aI σ 63 i = 0 → 0 ≤ aI σ 65 i ∧ aI σ 65 i < gI σ 18)
def VT (σ : RS) : Prop := (0 ≤ gI σ 42 ∧ gI σ 42 ≤ 60) ∧ ∀ v, v < nT (gI σ 42) → 0 ≤ aI σ 43 v ∧ aI σ 43 v ≤ 500
def MT (σ : RS) : Prop := (0 ≤ gI σ 36 ∧ gI σ 36 ≤ 10) ∧ ∀ m, m < nT (gI σ 36) → (0 ≤ aI σ 37 m ∧ aI σ 37 m ≤ 500) ∧ (0 ≤ aI σ 39 m ∧ aI σ 39 m ≤ 6) ∧ (0 ≤ aI σ 40 m ∧ aI σ 40 m + aI σ 39 m ≤ gI σ 42 ∧ aI σ 40 m ≤ gI σ 42) ∧ (0 ≤ aI σ 41 m ∧ aI σ 41 m ≤ gI σ 18) ∧ Es (aI σ 19) (aI σ 20) (aI σ 21) (nT (aI σ 41 m)) = some [] ∧ Ss (aI σ 19) (aI σ 20) (nT (aI σ 41 m)) = some ([], m)
/-- how much of all there may be ahead of each code; jumps lead to what stands open -/
def NB (o a b : Nat → Int32) (p : Int32) (n : Nat) : Prop := (Ne o n : Int) ≤ 4 * p.toInt ∧ ∀ i, i ≤ n → (∀ z, Es o a b i = some z → z.length ≤ 251) ∧ (∀ s, Ss o a i = some s → nl s.1 ≤ 40 ∧ s.2 ≤ 10)
def JI (o a : Nat → Int32) (n : Nat) : Prop := (∀ c, c < n → (o c = 46 ∨ o c = 47) → a c = -2 ∨ ∃ s, Ss o a c = some s ∧ ∃ q ∈ s.1, q.2 = nT (a c) ∧ jo (nT (o c)) q.1) ∧ ∀ c, c < n → ∀ s, Ss o a c = some s → zh s.1 → nT (o c) ≤ 18 ∨ o c = 21 ∨ o c = 31 ∨ o c = 35
def ZB (σ : RS) : Prop := NB (aI σ 19) (aI σ 20) (aI σ 21) (gI σ 14) (nT (gI σ 18)) ∧ JI (aI σ 19) (aI σ 20) (nT (gI σ 18))
/-- E: the pile ahead of the next code; s: what is begun there -/
def PI (σ : RS) (E : List Nat) (s : SS) (k j : Int) : Prop :=
  ((0 ≤ (gI σ 14).toInt ∧ (gI σ 14).toInt ≤ 500) ∧ (0 ≤ (gI σ 18).toInt ∧ (gI σ 18).toInt + 2 * (gI σ 62).toInt ≤ 6 * (gI σ 14).toInt + k ∧ k ≤ 20) ∧ ((gI σ 62).toInt = (gI σ 17).toInt ∧ (gI σ 17).toInt ≤ 20) ∧ (AG σ ∧ GZ σ) ∧ (0 ≤ (gI σ 49).toInt ∧ (gI σ 49).toInt + (Nj (aI σ 19) (nT (gI σ 18)) : Int) + j ≤ (gI σ 14).toInt + 1 ∧ 0 ≤ j)) ∧
  Es (aI σ 19) (aI σ 20) (aI σ 21) (nT (gI σ 18)) = some E ∧ Ss (aI σ 19) (aI σ 20) (nT (gI σ 18)) = some s ∧ CE σ ∧ TI σ ∧ UP σ ∧ FI σ ∧ VT σ ∧ MT σ ∧ ZB σ
theorem PI.numz {σ : RS} {E : List Nat} {s : SS} {k j : Int} (h : PI σ E s k j) : (0 ≤ (gI σ 14).toInt ∧ (gI σ 14).toInt ≤ 500) ∧ (0 ≤ (gI σ 18).toInt ∧ (gI σ 18).toInt ≤ 3020) ∧ (0 ≤ (gI σ 17).toInt ∧ (gI σ 17).toInt ≤ 20) ∧ lk (gI σ 32) ∧ (0 ≤ (gI σ 49).toInt ∧ (gI σ 49).toInt ≤ 501) ∧ (0 ≤ (gI σ 62).toInt ∧ (gI σ 62).toInt ≤ 40) ∧ (0 ≤ (gI σ 42).toInt ∧ (gI σ 42).toInt ≤ 60) ∧ (0 ≤ (gI σ 36).toInt ∧ (gI σ 36).toInt ≤ 10) := by
  obtain ⟨⟨h1, h2, h3, h4, h5⟩, -, -, -, -, -, h6, h7, h8, -⟩ := h
  have f1 := t_0 h6.1.1
  have f2 : (gI σ 62).toInt ≤ 40 := Int32.le_iff_toInt_le.mp h6.1.2
  have v1 := t_0 h7.1.1
  have v2 : (gI σ 42).toInt ≤ 60 := Int32.le_iff_toInt_le.mp h7.1.2
  have m1 := t_0 h8.1.1
  have m2 : (gI σ 36).toInt ≤ 10 := Int32.le_iff_toInt_le.mp h8.1.2
  exact ⟨by omega, by omega, by omega, True.intro, by omega, by omega, by omega, by omega⟩
theorem PI.nums {σ : RS} {E : List Nat} {s : SS} {k j : Int} (h : PI σ E s k j) : (0 ≤ gI σ 14 ∧ gI σ 14 ≤ 500) ∧ (0 ≤ gI σ 18 ∧ gI σ 18 ≤ 3020) ∧ (0 ≤ gI σ 17 ∧ gI σ 17 ≤ 20) ∧ lk (gI σ 32) ∧ (0 ≤ gI σ 49 ∧ gI σ 49 ≤ 501) ∧ (0 ≤ gI σ 62 ∧ gI σ 62 ≤ 40) ∧ (0 ≤ gI σ 42 ∧ gI σ 42 ≤ 60) ∧ (0 ≤ gI σ 36 ∧ gI σ 36 ≤ 10) := by
  obtain ⟨⟨a1, a2⟩, ⟨b1, b2⟩, ⟨c1, c2⟩, d1, ⟨e1, e2⟩, ⟨f1, f2⟩, ⟨g1, g2⟩, ⟨h1, h2⟩⟩ := h.numz
  exact ⟨⟨t_le a1, t_le a2⟩, ⟨t_le b1, t_le b2⟩, ⟨t_le c1, t_le c2⟩, True.intro, ⟨t_le e1, t_le e2⟩, ⟨t_le f1, t_le f2⟩, ⟨t_le g1, t_le g2⟩, ⟨t_le h1, t_le h2⟩⟩
/-- an exp can be read there -/
theorem PI.xp {σ : RS} {s : SS} {k j : Int} (h : PI σ [] s k j) : XP σ := by
  have hz := h.numz
  obtain ⟨⟨h1, h2, h3, h4, h5⟩, hE, -⟩ := h
  exact ⟨h1, ⟨h2.1, by omega⟩, ⟨by omega, h3.2⟩, h4.2.1, hE⟩
theorem nT_eq {x y : Int32} (hx : 0 ≤ x) (hy : 0 ≤ y) (h : nT x = nT y) : x = y := by
  obtain ⟨n, h2, h3, h4⟩ := nT_of hx
  obtain ⟨m, k2, k3, k4⟩ := nT_of hy
  rw [h3, k3]
  rw [h4, k4] at h
  rw [h]
theorem nT18 {o : Int32} (h1 : 1 ≤ o) (h2 : o ≤ 18) : nT o ≤ 18 := nT_le (y := 18) (by lia) h2
theorem kop18 {n : Nat} (h : n ≤ 18) : kop n = false ∧ kpu n = false ∧ ksl n = 0 := by
  have h9 : ∀ m, m ≤ 18 → kop m = false ∧ kpu m = false ∧ ksl m = 0 := by decide
  exact h9 n h
/-- behind an exp -/
theorem PI.exp {σ τ : RS} {s : SS} {k j : Int} (h : PI σ [] s k j) (hx : XE σ τ) (k' : Int) (hk : k' ≤ 20 ∧ k ≤ k' + 2) : PI τ [0] s k' j := by
  have hz := h.numz
  have hn := h.nums
  obtain ⟨⟨h1, h2, h3, h4, h5⟩, hE, hS, hC, hT, hU, hF, hV, hM, hZ, hJ⟩ := h
  obtain ⟨xF, xC, ⟨xp1, xp2⟩, xk, xd, xl, xr⟩ := hx
  obtain ⟨c1, c2, c3, c4, c5, c6, c7, c8⟩ := xC
  have e49 : gI τ 49 = gI σ 49 := xF.1 49 rfl
  have e62 : gI τ 62 = gI σ 62 := xF.1 62 rfl
  have e42 : gI τ 42 = gI σ 42 := xF.1 42 rfl
  have e36 : gI τ 36 = gI σ 36 := xF.1 36 rfl
  have ea : ∀ r, xA r = false → aI τ r = aI σ r := xF.2.2.1
  have hle := nT_le c1 c2
  have hc2z := Int32.le_iff_toInt_le.mp c2
  have hold : ∀ i, i < nT (gI σ 18) → aI τ 19 i = aI σ 19 i ∧ aI τ 20 i = aI σ 20 i ∧ aI τ 21 i = aI σ 21 i ∧ aI τ 22 i = aI σ 22 i ∧ aI τ 23 i = aI σ 23 i ∧ aI τ 24 i = aI σ 24 i := c4
  have e52 : ∀ r, 50 ≤ r → r ≤ 61 → aI τ r = aI σ r := by
    intro r a b
    apply ea
    have h9 : ∀ r, r < 62 → 50 ≤ r → xA r = false := by decide
    exact h9 r (by omega) a
  have hksl : ∀ n, ksl n = 0 ∨ (50 ≤ ksl n ∧ ksl n ≤ 61) := by
    intro n
    unfold ksl
    split <;> simp
  have c0 := t_0 c1
  have cz := t_nT c1
  have cw := t_nT (x := gI τ 18) (by lia)
  have hNj : Nj (aI τ 19) (nT (gI τ 18)) = Nj (aI σ 19) (nT (gI σ 18)) := by
    rw [Nj_exps (n := nT (gI σ 18)) _ hle (fun i a b => nT18 (c5 i a b).1 (c5 i a b).2.1), Nj_congr (fun i hi => (hold i hi).1)]
  have hNe : Ne (aI τ 19) (nT (gI τ 18)) ≤ Ne (aI σ 19) (nT (gI σ 18)) + (nT (gI τ 18) - nT (gI σ 18)) := by
    have q := Ne_le (o := aI τ 19) (n := nT (gI σ 18)) _ hle
    rw [Ne_congr (o := aI σ 19) (o' := aI τ 19) (fun i hi => (hold i hi).1)] at q
    exact q
  have hSs : ∀ i, nT (gI σ 18) ≤ i → i ≤ nT (gI τ 18) → Ss (aI τ 19) (aI τ 20) i = some s := by
    intro i q1 q2
    refine Ss_exps (n := nT (gI σ 18)) ?_ _ q1 (fun z a b => nT18 (c5 z a (by omega)).1 (c5 z a (by omega)).2.1)
    rw [Ss_congr (fun i hi => ⟨(hold i hi).1, (hold i hi).2.1⟩)]
    exact hS
  have hZ1 := hZ.1
  have hAG : AG τ := by
    intro i hi ho
    by_cases hq : i < nT (gI σ 18)
    · obtain ⟨q1, -, -, q4, -⟩ := hold i hq
      rw [q1] at ho
      obtain ⟨i', y1, y2, y3⟩ := h4.1 i hq ho
      obtain ⟨p1, -, -, p4, -⟩ := hold i' y1
      exact ⟨i', by omega, by rw [p1]; exact y2, by rw [p4, q4]; exact y3⟩
    · exact xl i (by omega) hi ho
  refine ⟨⟨⟨by omega, xp2⟩, ⟨by omega, by rw [e62]; omega, hk.1⟩, by rw [xd, e62]; exact h3, ⟨hAG, h4.2.same (ea 6 rfl) (ea 38 rfl) (ea 44 rfl)⟩, by rw [e49, hNj]; omega⟩, c6, ?_, ?_, ?_, ?_, ?_, ?_, ?_, ⟨by omega, fun i hi => ⟨fun z hz => ?_, fun z hz => ?_⟩⟩, fun c hc ho => ?_, fun c hc z hz hzz => ?_⟩
  · refine Ss_exps (n := nT (gI σ 18)) ?_ _ hle (fun i a b => nT18 (c5 i a b).1 (c5 i a b).2.1)
    rw [Ss_congr (fun i hi => ⟨(hold i hi).1, (hold i hi).2.1⟩)]
    exact hS
  · intro c hc
    by_cases hq : c < nT (gI σ 18)
    · have h9 := hC c hq
      obtain ⟨q1, q2, q3, q4, q5, q6⟩ := hold c hq
      rw [q1, q2, q4, q5, q6, e49]
      obtain ⟨z1, z2, z3, z4, z5, z6, z7, z8, z9, za, zb, zc⟩ := h9
      refine ⟨z1, z2, z3, z4, z5, z6, z7, z8, fun hk => ?_, by rw [ea 6 rfl]; exact za, by rw [ea 6 rfl, ea 3 rfl]; exact zb, ?_⟩
      · rcases hksl (nT (aI σ 19 c)) with z | z
        · exact absurd z hk
        · rw [e52 _ z.1 z.2]
          exact z9 hk
      · unfold tz
        rw [e52 51 (by omega) (by omega), e52 50 (by omega) (by omega)]
        exact zc
    · obtain ⟨y1, y2, y3, y4, y5, y6, y7, y8⟩ := c5 c (by omega) hc
      obtain ⟨k1, k2, k3⟩ := kop18 (nT18 y1 y2)
      refine ⟨⟨y1, by lia⟩, ⟨y3, y4⟩, ⟨y5, y6⟩, ⟨y7, y8⟩, fun q => absurd q (by rw [k1]; decide), fun q => absurd (q ▸ y2) (by decide), fun q => absurd (q ▸ y2) (by decide), fun q => q.elim (fun q => absurd (q ▸ y2) (by decide)) (fun q => absurd (q ▸ y2) (by decide)), fun q => absurd k3 q, by rw [ea 6 rfl]; exact c7 c (by omega) hc, ⟨fun q => absurd (q ▸ y2) (by decide), fun q => q.elim (fun q => absurd (q ▸ y2) (by decide)) (fun q => absurd (q ▸ y2) (by decide))⟩, ⟨fun q => q.elim (fun q => absurd (q ▸ y2) (by decide)) (fun q => q.elim (fun q => absurd (q ▸ y2) (by decide)) (fun q => absurd (q ▸ y2) (by decide))), fun q => absurd (q ▸ y2) (by decide), fun q => absurd (q ▸ y2) (by decide), fun q => absurd (q ▸ y2) (by decide)⟩⟩
  · refine ⟨fun r a b kk hk => ?_, fun kk hk => ?_⟩
    · rw [e52 r (by omega) (by omega)]
      rw [e49] at hk
      rcases hT.1 r a b kk hk with z | ⟨z1, z2, z3, z4⟩
      · exact Or.inl z
      · obtain ⟨q1, q2, -⟩ := hold _ (nT_lt z1 z2)
        exact Or.inr ⟨z1, by lia, by rw [q1]; exact z3, by rw [q2]; exact z4⟩
    · rw [e49] at hk
      obtain ⟨z1, z2, z3, z4, z5, z6⟩ := hT.2 kk hk
      have zle := nT_le z1.1 z1.2
      rw [e52 51 (by omega) (by omega), e52 60 (by omega) (by omega), e52 61 (by omega) (by omega), e52 57 (by omega) (by omega), e52 50 (by omega) (by omega), e52 59 (by omega) (by omega), Es_congr (fun i hi => ⟨(hold i (by omega)).1, (hold i (by omega)).2.1, (hold i (by omega)).2.2.1⟩)]
      exact ⟨⟨z1.1, by lia⟩, z2, z3, z4, z5, z6⟩
  · intro c d hcd hd k1 k2
    by_cases hq : d < nT (gI σ 18)
    · rw [(hold c (by omega)).1] at k1
      rw [(hold d hq).1] at k2
      rw [(hold c (by omega)).2.1, (hold d hq).2.1]
      exact hU c d hcd hq k1 k2
    · obtain ⟨y1, y2, -⟩ := c5 d (by omega) hd
      rw [(kop18 (nT18 y1 y2)).2.1] at k2
      cases k2
  · refine ⟨by rw [e62]; exact hF.1, fun i hi => ?_⟩
    rw [e62] at hi
    obtain ⟨z1, z2, z3⟩ := hF.2 i hi
    rw [ea 63 rfl, ea 64 rfl, ea 65 rfl, e49]
    exact ⟨z1, z2, fun q => ⟨(z3 q).1, by have := (z3 q).2; lia⟩⟩
  · refine ⟨by rw [e42]; exact hV.1, fun v hv => ?_⟩
    rw [e42] at hv
    rw [ea 43 rfl]
    exact hV.2 v hv
  · refine ⟨by rw [e36]; exact hM.1, fun m hm => ?_⟩
    rw [e36] at hm
    obtain ⟨z1, z2, z3, z4, z5, z6⟩ := hM.2 m hm
    have hm4 := nT_le z4.1 z4.2
    rw [ea 37 rfl, ea 39 rfl, ea 40 rfl, ea 41 rfl, e42, Es_congr (fun i hi => ⟨(hold i (by omega)).1, (hold i (by omega)).2.1, (hold i (by omega)).2.2.1⟩), Ss_congr (fun i hi => ⟨(hold i (by omega)).1, (hold i (by omega)).2.1⟩)]
    exact ⟨z1, z2, z3, ⟨z4.1, by lia⟩, z5, z6⟩
  · by_cases hq : i ≤ nT (gI σ 18)
    · rw [Es_congr (fun q hq2 => ⟨(hold q (by omega)).1, (hold q (by omega)).2.1, (hold q (by omega)).2.2.1⟩)] at hz
      exact (hZ.2 i hq).1 z hz
    · exact c8 i (by omega) hi z hz
  · by_cases hq : i ≤ nT (gI σ 18)
    · rw [Ss_congr (fun q hq2 => ⟨(hold q (by omega)).1, (hold q (by omega)).2.1⟩)] at hz
      exact (hZ.2 i hq).2 z hz
    · rw [hSs i (by omega) hi] at hz
      obtain rfl := Option.some.inj hz
      exact (hZ.2 _ (Nat.le_refl _)).2 _ hS
  · by_cases hq : c < nT (gI σ 18)
    · obtain ⟨q1, q2, -⟩ := hold c hq
      rw [q1] at ho
      rw [q1, q2, Ss_congr (fun q hq2 => ⟨(hold q (by omega)).1, (hold q (by omega)).2.1⟩)]
      exact hJ.1 c hq ho
    · obtain ⟨y1, y2, -⟩ := c5 c (by omega) hc
      exact ho.elim (fun q => absurd (q ▸ y2) (by decide)) (fun q => absurd (q ▸ y2) (by decide))
  · by_cases hq : c < nT (gI σ 18)
    · obtain ⟨q1, q2, -⟩ := hold c hq
      rw [Ss_congr (o := aI σ 19) (a := aI σ 20) (fun q hq2 => ⟨(hold q (by omega)).1, (hold q (by omega)).2.1⟩)] at hz
      rw [q1]
      exact hJ.2 c hq z hz hzz
    · obtain ⟨y1, y2, -⟩ := c5 c (by omega) hc
      exact Or.inl (nT18 y1 y2)
