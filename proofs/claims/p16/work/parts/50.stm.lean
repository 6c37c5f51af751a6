theorem PI.kk {σ : RS} {E : List Nat} {s : SS} {k j : Int} (h : PI σ E s k j) (k' : Int) (hk : k' ≤ 20 ∧ (gI σ 18).toInt + 2 * (gI σ 62).toInt ≤ 6 * (gI σ 14).toInt + k') : PI σ E s k' j := by
  obtain ⟨⟨h1, h2, h3⟩, h6⟩ := h
  exact ⟨⟨h1, ⟨h2.1, hk.2, hk.1⟩, h3⟩, h6⟩
/-- a code c tells of no thing K yet -/
def Fr (σ : RS) (K : Int32) : Prop := ∀ c, c < nT (gI σ 18) → kop (nT (aI σ 19 c)) = true → aI σ 20 c ≠ K
theorem kpu_kop {n : Nat} (h : kpu n = true) : kop n = true := by
  unfold kpu at h
  unfold kop
  simp only [Bool.or_eq_true, beq_iff_eq, Bool.and_eq_true, decide_eq_true_eq] at h ⊢
  omega
theorem Fr.up {σ : RS} {K : Int32} (h : Fr σ K) : ∀ c, c < nT (gI σ 18) → kpu (nT (aI σ 19 c)) = true → aI σ 20 c ≠ K := fun c hc hk => h c hc (kpu_kop hk)
theorem Fr.exp {σ τ : RS} {K : Int32} (h : Fr σ K) (hx : XE σ τ) : Fr τ K := by
  obtain ⟨xF, ⟨c1, c2, c3, c4, c5, c6⟩, xr⟩ := hx
  intro c hc hk
  by_cases hq : c < nT (gI σ 18)
  · obtain ⟨q1, q2, -⟩ := c4 c hq
    rw [q1] at hk
    rw [q2]
    exact h c hq hk
  · obtain ⟨y1, y2, -⟩ := c5 c (by omega) hc
    rw [(kop18 (nT18 y1 y2)).1] at hk
    cases hk
theorem PI.ife {σ : RS} {r : List (Nat × Nat)} {m : Nat} {k j : Int} {a : Int32} (h : PI σ [] ((23, nT a) :: r, m) k j) (t : Int32) (ha : 0 ≤ a ∧ a < gI σ 49) (ht : 0 ≤ t ∧ t ≤ 500) (hk : k + 1 ≤ 20) : PI (sA (em σ 24 a t) 56 (upd (aI σ 56) (nT a) (gI σ 18))) [] ((24, nT a) :: r, m) (k + 1) j :=
  h.cems 24 a t 56 (by decide) ht rfl (by decide) rfl ha (fun q => absurd q (by decide)) (fun q => absurd q (by decide)) (fun q => absurd q (by decide)) (fun q => by cases q) rfl (by show (if (23, nT a) = (23, nT a) then some ((24, nT a) :: r, m) else none) = _; rw [if_pos rfl]) hk
theorem PI.ifx3 {σ : RS} {r : List (Nat × Nat)} {m : Nat} {k j : Int} {a : Int32} (h : PI σ [] ((23, nT a) :: r, m) k j) (t : Int32) (ha : 0 ≤ a ∧ a < gI σ 49) (ht : 0 ≤ t ∧ t ≤ 500) (hk : k + 1 ≤ 20) : PI (sA (em σ 25 a t) 55 (upd (aI σ 55) (nT a) (gI σ 18))) [] (r, m) (k + 1) j :=
  h.cems 25 a t 55 (by decide) ht rfl (by decide) rfl ha (fun q => absurd q (by decide)) (fun q => absurd q (by decide)) (fun q => absurd q (by decide)) (fun q => by cases q) rfl (by show (if (23, nT a) = (23, nT a) ∨ (23, nT a) = (24, nT a) then some (r, m) else none) = _; rw [if_pos (Or.inl rfl)]) hk
theorem PI.ifx4 {σ : RS} {r : List (Nat × Nat)} {m : Nat} {k j : Int} {a : Int32} (h : PI σ [] ((24, nT a) :: r, m) k j) (t : Int32) (ha : 0 ≤ a ∧ a < gI σ 49) (ht : 0 ≤ t ∧ t ≤ 500) (hk : k + 1 ≤ 20) : PI (sA (em σ 25 a t) 55 (upd (aI σ 55) (nT a) (gI σ 18))) [] (r, m) (k + 1) j :=
  h.cems 25 a t 55 (by decide) ht rfl (by decide) rfl ha (fun q => absurd q (by decide)) (fun q => absurd q (by decide)) (fun q => absurd q (by decide)) (fun q => by cases q) rfl (by show (if (24, nT a) = (23, nT a) ∨ (24, nT a) = (24, nT a) then some (r, m) else none) = _; rw [if_pos (Or.inr rfl)]) hk
theorem PI.wht {σ : RS} {r : List (Nat × Nat)} {m : Nat} {k j : Int} {a : Int32} (h : PI σ [0] ((26, nT a) :: r, m) k j) (t : Int32) (ha : 0 ≤ a ∧ a < gI σ 49) (ht : 0 ≤ t ∧ t ≤ 500) (hk : k + 1 ≤ 20) : PI (sA (em σ 27 a t) 52 (upd (aI σ 52) (nT a) (gI σ 18))) [] ((27, nT a) :: r, m) (k + 1) j :=
  h.cems 27 a t 52 (by decide) ht rfl (by decide) rfl ha (fun q => absurd q (by decide)) (fun q => absurd q (by decide)) (fun q => absurd q (by decide)) (fun q => by cases q) rfl (by show (if (26, nT a) = (26, nT a) then some ((27, nT a) :: r, m) else none) = _; rw [if_pos rfl]) hk
theorem PI.whx {σ : RS} {r : List (Nat × Nat)} {m : Nat} {k j : Int} {a : Int32} (h : PI σ [] ((27, nT a) :: r, m) k j) (t : Int32) (ha : 0 ≤ a ∧ a < gI σ 49) (ht : 0 ≤ t ∧ t ≤ 500) (hk : k + 1 ≤ 20) : PI (sA (em σ 28 a t) 55 (upd (aI σ 55) (nT a) (gI σ 18))) [] (r, m) (k + 1) j :=
  h.cems 28 a t 55 (by decide) ht rfl (by decide) rfl ha (fun q => absurd q (by decide)) (fun q => absurd q (by decide)) (fun q => absurd q (by decide)) (fun q => by cases q) rfl (by show (if (27, nT a) = (27, nT a) then some (r, m) else none) = _; rw [if_pos rfl]) hk
theorem PI.doc {σ : RS} {r : List (Nat × Nat)} {m : Nat} {k j : Int} {a : Int32} (h : PI σ [] ((29, nT a) :: r, m) k j) (t : Int32) (ha : 0 ≤ a ∧ a < gI σ 49) (ht : 0 ≤ t ∧ t ≤ 500) (hk : k + 1 ≤ 20) : PI (sA (em σ 30 a t) 52 (upd (aI σ 52) (nT a) (gI σ 18))) [] ((30, nT a) :: r, m) (k + 1) j :=
  h.cems 30 a t 52 (by decide) ht rfl (by decide) rfl ha (fun q => absurd q (by decide)) (fun q => absurd q (by decide)) (fun q => absurd q (by decide)) (fun q => by cases q) rfl (by show (if (29, nT a) = (29, nT a) then some ((30, nT a) :: r, m) else none) = _; rw [if_pos rfl]) hk
theorem PI.dot {σ : RS} {r : List (Nat × Nat)} {m : Nat} {k j : Int} {a : Int32} (h : PI σ [0] ((30, nT a) :: r, m) k j) (t : Int32) (ha : 0 ≤ a ∧ a < gI σ 49) (ht : 0 ≤ t ∧ t ≤ 500) (hk : k + 1 ≤ 20) : PI (sA (em σ 31 a t) 55 (upd (aI σ 55) (nT a) (gI σ 18))) [] (r, m) (k + 1) j :=
  h.cems 31 a t 55 (by decide) ht rfl (by decide) rfl ha (fun q => absurd q (by decide)) (fun q => absurd q (by decide)) (fun q => absurd q (by decide)) (fun q => by cases q) rfl (by show (if (30, nT a) = (30, nT a) then some (r, m) else none) = _; rw [if_pos rfl]) hk
theorem PI.foru {σ : RS} {r : List (Nat × Nat)} {m : Nat} {k j : Int} {a : Int32} (h : PI σ [] ((33, nT a) :: r, m) k j) (t : Int32) (ha : 0 ≤ a ∧ a < gI σ 49) (ht : 0 ≤ t ∧ t ≤ 500) (hk : k + 1 ≤ 20) : PI (sA (em σ 34 a t) 53 (upd (aI σ 53) (nT a) (gI σ 18))) [] ((34, nT a) :: r, m) (k + 1) j :=
  h.cems 34 a t 53 (by decide) ht rfl (by decide) rfl ha (fun q => absurd q (by decide)) (fun q => absurd q (by decide)) (fun q => absurd q (by decide)) (fun q => by cases q) rfl (by show (if (33, nT a) = (33, nT a) then some ((34, nT a) :: r, m) else none) = _; rw [if_pos rfl]) hk
theorem PI.forb {σ : RS} {r : List (Nat × Nat)} {m : Nat} {k j : Int} {a : Int32} (h : PI σ [] ((34, nT a) :: r, m) k j) (t : Int32) (ha : 0 ≤ a ∧ a < gI σ 49) (ht : 0 ≤ t ∧ t ≤ 500) (hk : k + 1 ≤ 20) : PI (sA (em σ 35 a t) 54 (upd (aI σ 54) (nT a) (gI σ 18))) [] ((35, nT a) :: r, m) (k + 1) j :=
  h.cems 35 a t 54 (by decide) ht rfl (by decide) rfl ha (fun q => absurd q (by decide)) (fun q => absurd q (by decide)) (fun q => absurd q (by decide)) (fun q => by cases q) rfl (by show (if (34, nT a) = (34, nT a) then some ((35, nT a) :: r, m) else none) = _; rw [if_pos rfl]) hk
theorem PI.forx {σ : RS} {r : List (Nat × Nat)} {m : Nat} {k j : Int} {a : Int32} (h : PI σ [] ((35, nT a) :: r, m) k j) (t : Int32) (ha : 0 ≤ a ∧ a < gI σ 49) (ht : 0 ≤ t ∧ t ≤ 500) (hk : k + 1 ≤ 20) : PI (sA (em σ 36 a t) 55 (upd (aI σ 55) (nT a) (gI σ 18))) [] (r, m) (k + 1) j :=
  h.cems 36 a t 55 (by decide) ht rfl (by decide) rfl ha (fun q => absurd q (by decide)) (fun q => absurd q (by decide)) (fun q => absurd q (by decide)) (fun q => by cases q) rfl (by show (if (35, nT a) = (35, nT a) then some (r, m) else none) = _; rw [if_pos rfl]) hk
theorem PI.swx {σ : RS} {r : List (Nat × Nat)} {m : Nat} {k j : Int} {a : Int32} (h : PI σ [] ((37, nT a) :: r, m) k j) (t : Int32) (ha : 0 ≤ a ∧ a < gI σ 49) (ht : 0 ≤ t ∧ t ≤ 500) (hk : k + 1 ≤ 20) : PI (sA (em σ 40 a t) 55 (upd (aI σ 55) (nT a) (gI σ 18))) [] (r, m) (k + 1) j :=
  h.cems 40 a t 55 (by decide) ht rfl (by decide) rfl ha (fun q => absurd q (by decide)) (fun q => absurd q (by decide)) (fun q => absurd q (by decide)) (fun q => by cases q) rfl (by show (if (37, nT a) = (37, nT a) then some (r, m) else none) = _; rw [if_pos rfl]) hk
theorem PI.labx {σ : RS} {r : List (Nat × Nat)} {m : Nat} {k j : Int} {a : Int32} (h : PI σ [] ((41, nT a) :: r, m) k j) (t : Int32) (ha : 0 ≤ a ∧ a < gI σ 49) (ht : 0 ≤ t ∧ t ≤ 500) (hk : k + 1 ≤ 20) : PI (sA (em σ 42 a t) 55 (upd (aI σ 55) (nT a) (gI σ 18))) [] (r, m) (k + 1) j :=
  h.cems 42 a t 55 (by decide) ht rfl (by decide) rfl ha (fun q => absurd q (by decide)) (fun q => absurd q (by decide)) (fun q => absurd q (by decide)) (fun q => by cases q) rfl (by show (if (41, nT a) = (41, nT a) then some (r, m) else none) = _; rw [if_pos rfl]) hk
theorem PI.ift {σ : RS} {s : SS} {k j : Int} (h : PI σ [0] s k j) (a t : Int32) (hF : Fr σ a) (ha : 0 ≤ a ∧ a < gI σ 49) (ht : 0 ≤ t ∧ t ≤ 500) (hk : k + 1 ≤ 20) : PI (em σ 23 a t) [] ((23, nT a) :: s.1, s.2) (k + 1) j :=
  h.cem 23 a t (by decide) ht rfl (fun _ => ha) (fun q => absurd q (by decide)) (fun q => absurd q (by decide)) (fun q => absurd q (by decide)) (fun _ => hF.up) rfl rfl hk
theorem PI.whb {σ : RS} {s : SS} {k j : Int} (h : PI σ [] s k j) (a t : Int32) (hF : Fr σ a) (ha : 0 ≤ a ∧ a < gI σ 49) (ht : 0 ≤ t ∧ t ≤ 500) (hk : k + 1 ≤ 20) : PI (em σ 26 a t) [] ((26, nT a) :: s.1, s.2) (k + 1) j :=
  h.cem 26 a t (by decide) ht rfl (fun _ => ha) (fun q => absurd q (by decide)) (fun q => absurd q (by decide)) (fun q => absurd q (by decide)) (fun _ => hF.up) rfl rfl hk
theorem PI.dob {σ : RS} {s : SS} {k j : Int} (h : PI σ [] s k j) (a t : Int32) (hF : Fr σ a) (ha : 0 ≤ a ∧ a < gI σ 49) (ht : 0 ≤ t ∧ t ≤ 500) (hk : k + 1 ≤ 20) : PI (em σ 29 a t) [] ((29, nT a) :: s.1, s.2) (k + 1) j :=
  h.cem 29 a t (by decide) ht rfl (fun _ => ha) (fun q => absurd q (by decide)) (fun q => absurd q (by decide)) (fun q => absurd q (by decide)) (fun _ => hF.up) rfl rfl hk
theorem PI.forc {σ : RS} {s : SS} {k j : Int} (h : PI σ [] s k j) (a t : Int32) (hF : Fr σ a) (ha : 0 ≤ a ∧ a < gI σ 49) (ht : 0 ≤ t ∧ t ≤ 500) (hk : k + 1 ≤ 20) : PI (sA (em σ 32 a t) 56 (upd (aI σ 56) (nT a) (gI σ 18))) [] ((32, nT a) :: s.1, s.2) (k + 1) j :=
  h.cems 32 a t 56 (by decide) ht rfl (by decide) rfl ha (fun q => absurd q (by decide)) (fun q => absurd q (by decide)) (fun q => absurd q (by decide)) (fun _ => hF.up) rfl rfl hk
theorem PI.swb {σ : RS} {s : SS} {k j : Int} (h : PI σ [0] s k j) (a t : Int32) (hF : Fr σ a) (ha : 0 ≤ a ∧ a < gI σ 49) (ht : 0 ≤ t ∧ t ≤ 500) (hk : k + 1 ≤ 20) : PI (sA (em σ 37 a t) 52 (upd (aI σ 52) (nT a) (gI σ 18))) [] ((37, nT a) :: s.1, s.2) (k + 1) j :=
  h.cems 37 a t 52 (by decide) ht rfl (by decide) rfl ha (fun q => absurd q (by decide)) (fun q => absurd q (by decide)) (fun q => absurd q (by decide)) (fun _ => hF.up) rfl rfl hk
theorem PI.lab {σ : RS} {s : SS} {k j : Int} (h : PI σ [] s k j) (a t : Int32) (hF : Fr σ a) (ha : 0 ≤ a ∧ a < gI σ 49) (ht : 0 ≤ t ∧ t ≤ 500) (hk : k + 1 ≤ 20) : PI (em σ 41 a t) [] ((41, nT a) :: s.1, s.2) (k + 1) j :=
  h.cem 41 a t (by decide) ht rfl (fun _ => ha) (fun q => absurd q (by decide)) (fun q => absurd q (by decide)) (fun q => absurd q (by decide)) (fun _ => hF.up) rfl rfl hk
theorem PI.tryb {σ : RS} {s : SS} {k j : Int} (h : PI σ [] s k j) (a t : Int32) (hF : Fr σ a) (ha : 0 ≤ a ∧ a < gI σ 49) (ht : 0 ≤ t ∧ t ≤ 500) (hk : k + 1 ≤ 20) : PI (em σ 50 a t) [] ((50, nT a) :: s.1, s.2) (k + 1) j :=
  h.cem 50 a t (by decide) ht rfl (fun _ => ha) (fun q => absurd q (by decide)) (fun q => absurd q (by decide)) (fun q => absurd q (by decide)) (fun _ => hF.up) rfl rfl hk
