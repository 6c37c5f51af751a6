/-! frames against what is known of S's: where a jump leads to -/
def kjS (z : ZS) (j : Nat) : Int := (reS z j).1.1
def ljS (z : ZS) (j : Nat) : Int := (reS z j).2.2.2.2.2.2.2.1
def tjS (z : ZS) (j : Nat) : Int := (reS z j).2.2.2.2.2.2.2.2
def kdF (k : Int) : Int := if k = 0 then 92 else if k = 1 then 2 else if k = 2 ∨ k = 3 then 56 else if k = 4 then 58 else if k = 5 then 59 else if k = 6 then 60 else if k = 7 then 6 else if k = 8 then 61 else 68
/-- a row's own S -/
def owF (a : FrZ) : Nat := if 9 ≤ a.1 ∧ a.1 ≤ 11 then (a.2.2.2.1.getD 3 0).toNat else a.2.1
def hdF : List FrZ → Int × Nat
  | [] => (0, 0)
  | b :: _ => (b.1, b.2.1)
def AcZ (z : ZS) : List FrZ → Int → Nat → Prop
  | [], i, _ => i = -1
  | a :: F, i, m => i = (owF a : Int) ∧ a.2.1 ≤ owF a ∧ owF a < m ∧ (0 ≤ a.1 ∧ a.1 ≤ 12) ∧ kjS z a.2.1 = kdF a.1 ∧ (9 ≤ a.1 ∧ a.1 ≤ 11 → a.2.1 < owF a ∧ kjS z (owF a) = 92 ∧ paS z (owF a) = (a.2.1 : Int)) ∧ (¬ a.1 = 0 → tjS z a.2.1 = (a.2.2.1.2 : Int)) ∧ (a.1 = 7 → ljS z a.2.1 = fiS z a.2.1) ∧ ((hdF F).1 = 7 → a.2.1 = (hdF F).2 + 1) ∧ AcZ z F (paS z a.2.1) a.2.1
/-- a target as a thing; by the frames; u: the frame above -/
def thJ (z : ZS) (r : Int) : Int := if r < 0 then -2 else tjS z r.toNat
def tgF (N : Int → Int) (z : ZS) (on : Bool) (t : Int) : Int × Int → List FrZ → Int
  | _, [] => -2
  | u, a :: F => if t < 0 then (if a.1 = 4 ∨ a.1 = 5 ∨ a.1 = 6 ∨ (on = false ∧ a.1 = 8) then (a.2.2.1.2 : Int) else tgF N z on t (a.1, (a.2.2.1.2 : Int)) F)
    else if a.1 = 7 ∧ N (fiS z a.2.1) = N t then (if on = false then (a.2.2.1.2 : Int) else if u.1 = 4 ∨ u.1 = 5 ∨ u.1 = 6 then u.2 else -2)
    else tgF N z on t (a.1, (a.2.2.1.2 : Int)) F
theorem tg_s {N : Int → Int} {z : ZS} {on : Bool} {t : Int} {k j : Nat} : tgZ N z.2.2.1.2 on t (k + 1) (j : Int) = (if t < 0 then (if kjS z j = 58 ∨ kjS z j = 59 ∨ kjS z j = 60 ∨ (on = false ∧ kjS z j = 61) then (j : Int) else tgZ N z.2.2.1.2 on t k (paS z j))
    else if kjS z j = 6 ∧ N (ljS z j) = N t then (if on = false then (j : Int) else if kjS z (j + 1) = 58 ∨ kjS z (j + 1) = 59 ∨ kjS z (j + 1) = 60 then (j : Int) + 1 else -1)
    else tgZ N z.2.2.1.2 on t k (paS z j)) := by
  rw [tgZ, if_neg (by omega)]
  rfl
theorem tg_no {N : Int → Int} {z : ZS} {on : Bool} {t : Int} {k j : Nat} (h : ¬ kjS z j = 58 ∧ ¬ kjS z j = 59 ∧ ¬ kjS z j = 60 ∧ ¬ kjS z j = 61 ∧ ¬ kjS z j = 6) : tgZ N z.2.2.1.2 on t (k + 1) (j : Int) = tgZ N z.2.2.1.2 on t k (paS z j) := by
  rw [tg_s]
  by_cases ht : t < 0
  · rw [if_pos ht, if_neg (fun q => q.elim h.1 (fun q => q.elim h.2.1 (fun q => q.elim h.2.2.1 (fun q => h.2.2.2.1 q.2))))]
  · rw [if_neg ht, if_neg (fun q => h.2.2.2.2 q.1)]
theorem tgF_no {N : Int → Int} {z : ZS} {on : Bool} {t : Int} {u : Int × Int} {a : FrZ} {F : List FrZ} (h : ¬ a.1 = 4 ∧ ¬ a.1 = 5 ∧ ¬ a.1 = 6 ∧ ¬ a.1 = 7 ∧ ¬ a.1 = 8) : tgF N z on t u (a :: F) = tgF N z on t (a.1, (a.2.2.1.2 : Int)) F := by
  rw [tgF]
  by_cases ht : t < 0
  · rw [if_pos ht, if_neg (fun q => q.elim h.1 (fun q => q.elim h.2.1 (fun q => q.elim h.2.2.1 (fun q => h.2.2.2.2 q.2))))]
  · rw [if_neg ht, if_neg (fun q => h.2.2.2.1 q.1)]
theorem kd_lo {k : Int} (h : 0 ≤ k ∧ k ≤ 12) : (kdF k = 58 ∨ kdF k = 59 ∨ kdF k = 60) ↔ (k = 4 ∨ k = 5 ∨ k = 6) := by
  have : k = 0 ∨ k = 1 ∨ k = 2 ∨ k = 3 ∨ k = 4 ∨ k = 5 ∨ k = 6 ∨ k = 7 ∨ k = 8 ∨ k = 9 ∨ k = 10 ∨ k = 11 ∨ k = 12 := by omega
  rcases this with rfl | rfl | rfl | rfl | rfl | rfl | rfl | rfl | rfl | rfl | rfl | rfl | rfl <;> decide
theorem tg_F {N : Int → Int} {z : ZS} {on : Bool} {t : Int} : ∀ (F : List FrZ) (i : Int) (m k : Nat) (u : Int × Int), AcZ z F i m → m ≤ k → ((hdF F).1 = 7 → ((kjS z ((hdF F).2 + 1) = 58 ∨ kjS z ((hdF F).2 + 1) = 59 ∨ kjS z ((hdF F).2 + 1) = 60) ↔ (u.1 = 4 ∨ u.1 = 5 ∨ u.1 = 6)) ∧ ((u.1 = 4 ∨ u.1 = 5 ∨ u.1 = 6) → tjS z ((hdF F).2 + 1) = u.2)) → thJ z (tgZ N z.2.2.1.2 on t k i) = tgF N z on t u F := by
  intro F
  induction F with
  | nil =>
    intro i m k u h hk hu
    have h : i = -1 := h
    subst h
    have e : tgZ N z.2.2.1.2 on t k (-1) = -1 := by
      cases k with
      | zero => rfl
      | succ k => rw [tgZ, if_pos (by decide)]
    rw [e]
    rfl
  | cons a G ih =>
    intro i m k u h hk hu
    obtain ⟨rfl, h1, h2, h3, h4, h5, h6, h7, h8, h9⟩ := h
    have rec_ : ∀ k', a.2.1 ≤ k' → thJ z (tgZ N z.2.2.1.2 on t k' (paS z a.2.1)) = tgF N z on t (a.1, (a.2.2.1.2 : Int)) G := by
      intro k' hk'
      refine ih _ _ k' _ h9 hk' (fun q => ?_)
      have e := h8 q
      rw [← e, h4]
      exact ⟨kd_lo h3, fun q => h6 (by have q : a.1 = 4 ∨ a.1 = 5 ∨ a.1 = 6 := q; omega)⟩
    by_cases h0 : 9 ≤ a.1 ∧ a.1 ≤ 11
    · obtain ⟨q1, q2, q3⟩ := h5 h0
      obtain ⟨k', rfl⟩ : ∃ k', k = k' + 2 := ⟨k - 2, by omega⟩
      have k68 : kjS z a.2.1 = 68 := by
        rw [h4]
        have : a.1 = 9 ∨ a.1 = 10 ∨ a.1 = 11 := by omega
        rcases this with e | e | e <;> rw [e] <;> rfl
      rw [tg_no (by omega), q3, tg_no (by omega), tgF_no (by omega)]
      exact rec_ k' (by omega)
    · have eo : owF a = a.2.1 := by unfold owF; rw [if_neg h0]
      obtain ⟨k', rfl⟩ : ∃ k', k = k' + 1 := ⟨k - 1, by omega⟩
      rw [eo] at h2 ⊢
      have R := rec_ k' (by omega)
      have hj : ¬ ((a.2.1 : Int) < 0) := by omega
      have tj : ¬ a.1 = 0 → thJ z (a.2.1 : Int) = (a.2.2.1.2 : Int) := fun q => by
        unfold thJ
        rw [if_neg hj]
        exact h6 q
      by_cases h03 : a.1 ≤ 3 ∨ a.1 = 12
      · have kk : kjS z a.2.1 = 92 ∨ kjS z a.2.1 = 2 ∨ kjS z a.2.1 = 56 ∨ kjS z a.2.1 = 68 := by
          rw [h4]
          have : a.1 = 0 ∨ a.1 = 1 ∨ a.1 = 2 ∨ a.1 = 3 ∨ a.1 = 12 := by omega
          rcases this with e | e | e | e | e <;> rw [e] <;> decide
        rw [tg_no (by omega), tgF_no (by omega)]
        exact R
      by_cases h46 : a.1 ≤ 6
      · have hl : a.1 = 4 ∨ a.1 = 5 ∨ a.1 = 6 := by omega
        have kl := (kd_lo h3).mpr hl
        rw [← h4] at kl
        rw [tg_s, tgF]
        by_cases ht : t < 0
        · rw [if_pos ht, if_pos ht, if_pos (by omega), if_pos (by omega)]
          exact tj (by omega)
        · rw [if_neg ht, if_neg ht, if_neg (fun q => by have := q.1; omega), if_neg (fun q => by have := q.1; omega)]
          exact R
      by_cases h8' : a.1 = 8
      · have k8 : kjS z a.2.1 = 61 := by rw [h4, h8']; rfl
        rw [tg_s, tgF]
        by_cases ht : t < 0
        · rw [if_pos ht, if_pos ht]
          by_cases ho : on = false
          · rw [if_pos (Or.inr (Or.inr (Or.inr ⟨ho, k8⟩))), if_pos (Or.inr (Or.inr (Or.inr ⟨ho, h8'⟩)))]
            exact tj (by omega)
          · rw [if_neg (fun q => q.elim (by omega) (fun q => q.elim (by omega) (fun q => q.elim (by omega) (fun q => ho q.1)))), if_neg (fun q => q.elim (by omega) (fun q => q.elim (by omega) (fun q => q.elim (by omega) (fun q => ho q.1))))]
            exact R
        · rw [if_neg ht, if_neg ht, if_neg (fun q => by have := q.1; omega), if_neg (fun q => by have := q.1; omega)]
          exact R
      have h7' : a.1 = 7 := by omega
      have k6 : kjS z a.2.1 = 6 := by rw [h4, h7']; rfl
      have e7 := h7 h7'
      rw [tg_s, tgF, e7]
      by_cases ht : t < 0
      · rw [if_pos ht, if_pos ht, if_neg (fun q => q.elim (by omega) (fun q => q.elim (by omega) (fun q => q.elim (by omega) (fun q => by have := q.2; omega)))), if_neg (fun q => q.elim (by omega) (fun q => q.elim (by omega) (fun q => q.elim (by omega) (fun q => by have := q.2; omega))))]
        exact R
      · rw [if_neg ht, if_neg ht]
        by_cases hN : N (fiS z a.2.1) = N t
        · rw [if_pos (show kjS z a.2.1 = 6 ∧ N (fiS z a.2.1) = N t from ⟨k6, hN⟩), if_pos (show a.1 = 7 ∧ N (fiS z a.2.1) = N t from ⟨h7', hN⟩)]
          by_cases ho : on = false
          · rw [if_pos ho, if_pos ho]
            exact tj (by omega)
          · rw [if_neg ho, if_neg ho]
            obtain ⟨c1, c2⟩ := hu h7'
            have c1 : (kjS z (a.2.1 + 1) = 58 ∨ kjS z (a.2.1 + 1) = 59 ∨ kjS z (a.2.1 + 1) = 60) ↔ (u.1 = 4 ∨ u.1 = 5 ∨ u.1 = 6) := c1
            have c2 : (u.1 = 4 ∨ u.1 = 5 ∨ u.1 = 6) → tjS z (a.2.1 + 1) = u.2 := c2
            by_cases hl : u.1 = 4 ∨ u.1 = 5 ∨ u.1 = 6
            · rw [if_pos (c1.mpr hl), if_pos hl]
              unfold thJ
              rw [if_neg (by omega)]
              exact c2 hl
            · rw [if_neg (fun q => hl (c1.mp q)), if_neg hl]
              rfl
        · rw [if_neg (fun q => hN q.2), if_neg (fun q => hN q.2)]
          exact R
/-- break, continue -/
theorem tq_F {N : Int → Int} {z : ZS} {on : Bool} {t : Int} {F : List FrZ} (h : AcZ z F z.2.2.2.1.2 (snM z)) (hu : (hdF F).1 = 7 → ¬ (kjS z ((hdF F).2 + 1) = 58 ∨ kjS z ((hdF F).2 + 1) = 59 ∨ kjS z ((hdF F).2 + 1) = 60)) : tqM N on t z = tgF N z on t (-1, -1) F :=
  tg_F F _ _ (snM z) (-1, -1) h (Nat.le_refl _) (fun q => ⟨⟨fun c => absurd c (hu q), fun c => absurd (show (-1 : Int) = 4 ∨ (-1 : Int) = 5 ∨ (-1 : Int) = 6 from c) (by decide)⟩, fun c => absurd (show (-1 : Int) = 4 ∨ (-1 : Int) = 5 ∨ (-1 : Int) = 6 from c) (by decide)⟩)
/-- what of an S stays once it has begun -/
def SgZ (z z' : ZS) : Prop := snM z ≤ snM z' ∧ ∀ j, j < snM z → (reS z' j).1 = (reS z j).1 ∧ (reS z' j).2.1 = (reS z j).2.1 ∧ tjS z' j = tjS z j ∧ (kjS z j = 6 → ljS z' j = ljS z j)
theorem SgZ.rf {z : ZS} : SgZ z z := ⟨Nat.le_refl _, fun _ _ => ⟨rfl, rfl, rfl, fun _ => rfl⟩⟩
theorem SgZ.tr {z z' z'' : ZS} (h : SgZ z z') (h' : SgZ z' z'') : SgZ z z'' := ⟨Nat.le_trans h.1 h'.1, fun j hj => by
  have a := h.2 j hj
  have b := h'.2 j (Nat.lt_of_lt_of_le hj h.1)
  exact ⟨b.1.trans a.1, b.2.1.trans a.2.1, b.2.2.1.trans a.2.2.1, fun q => (b.2.2.2 (by unfold kjS at q ⊢; rw [a.1]; exact q)).trans (a.2.2.2 q)⟩⟩
theorem SgZ.e {z z' : ZS} (h : z'.2.2.1 = z.2.2.1) : SgZ z z' := by
  have a : snM z' = snM z := by unfold snM; rw [h]
  have b : ∀ j, reS z' j = reS z j := fun j => by unfold reS; rw [h]
  exact ⟨by omega, fun j _ => ⟨by rw [b], by rw [b], by unfold tjS; rw [b], fun _ => by unfold ljS; rw [b]⟩⟩
theorem SgZ.be {z : ZS} {k lv : Int} : SgZ z (beM k lv z) := by
  have e : ∀ j, j < snM z → reS (beM k lv z) j = reS z j := fun j hj => by
    show (if j = snM z then _ else _) = _
    rw [if_neg (by omega)]
    rfl
  refine ⟨Nat.le_succ _, fun j hj => ?_⟩
  have e := e j hj
  exact ⟨by rw [e], by rw [e], by unfold tjS; rw [e], fun _ => by unfold ljS; rw [e]⟩
theorem SgZ.se {z : ZS} {i : Nat} {f : SrZ → SrZ} (h : ∀ x, (f x).1 = x.1 ∧ (f x).2.1 = x.2.1 ∧ (f x).2.2.2.2.2.2.2.2 = x.2.2.2.2.2.2.2.2) (hl : kjS z i = 6 → ∀ x, (f x).2.2.2.2.2.2.2.1 = x.2.2.2.2.2.2.2.1) : SgZ z (seM i f z) := by
  refine ⟨Nat.le_refl _, fun j hj => ?_⟩
  by_cases q : j = i
  · subst q
    have e : reS (seM j f z) j = f (reS z j) := by
      show (if j = j then _ else _) = _
      rw [if_pos rfl]
      rfl
    have g := h (reS z j)
    exact ⟨by rw [e]; exact g.1, by rw [e]; exact g.2.1, by unfold tjS; rw [e]; exact g.2.2, fun c => by unfold ljS; rw [e]; exact hl c _⟩
  · have e : reS (seM i f z) j = reS z j := by
      show (if j = i then _ else _) = _
      rw [if_neg q]
      rfl
    exact ⟨by rw [e], by rw [e], by unfold tjS; rw [e], fun _ => by unfold ljS; rw [e]⟩
theorem AcZ.g {z z' : ZS} (h : SgZ z z') : ∀ {F : List FrZ} {i : Int} {m : Nat}, m ≤ snM z → AcZ z F i m → AcZ z' F i m := by
  intro F
  induction F with
  | nil => intro i m _ q; exact q
  | cons a G ih =>
    intro i m hm q
    obtain ⟨h0, h1, h2, h3, h4, h5, h6, h7, h8, h9⟩ := q
    have A := h.2 a.2.1 (by omega)
    have B := h.2 (owF a) (by omega)
    have ek : kjS z' a.2.1 = kjS z a.2.1 := by unfold kjS; rw [A.1]
    have ep : paS z' a.2.1 = paS z a.2.1 := by unfold paS; rw [A.1]
    have ef : fiS z' a.2.1 = fiS z a.2.1 := by unfold fiS; rw [A.1]
    refine ⟨h0, h1, h2, h3, by rw [ek]; exact h4, fun c => ⟨(h5 c).1, by unfold kjS; rw [B.1]; exact (h5 c).2.1, by unfold paS; rw [B.1]; exact (h5 c).2.2⟩, fun c => A.2.2.1.trans (h6 c), fun c => ?_, h8, ?_⟩
    · rw [ef, A.2.2.2 (by rw [h4, c]; rfl)]
      exact h7 c
    · rw [ep]
      exact ih (by omega) h9
