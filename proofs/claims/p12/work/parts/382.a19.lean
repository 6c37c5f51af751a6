/-! what a code of an S asks, by the code -/
theorem ok_0 {C : CxT} {N : Int → Int} {T : TbT} {l : List ItZ} {y : Int × Int × Int × Int × Int} (h : y.1 = 21) : okS C N T l y ↔ ¬ y.2.1 = 0 := ⟨fun q => q.1 h, fun q => ⟨fun _ => q, fun z => absurd z (by omega), fun z => absurd z (by omega), fun z => absurd z (by omega), fun z => absurd z (by omega), fun z => absurd z (by omega), fun z => absurd z (by omega), fun z => absurd z (by omega), fun z => absurd z (by omega)⟩⟩
theorem ok_1 {C : CxT} {N : Int → Int} {T : TbT} {l : List ItZ} {y : Int × Int × Int × Int × Int} (h : (y.1 = 23 ∨ y.1 = 27 ∨ y.1 = 31 ∨ (y.1 = 33 ∧ ¬ y.2.2.1 = 0))) : okS C N T l y ↔ (opT T y.2.2.2.2).1 = 0 := ⟨fun q => q.2.1 h, fun q => ⟨fun z => absurd z (by omega), fun _ => q, fun z => absurd z (by omega), fun z => absurd z (by omega), fun z => absurd z (by omega), fun z => absurd z (by omega), fun z => absurd z (by omega), fun z => absurd z (by omega), fun z => absurd z (by omega)⟩⟩
theorem ok_2 {C : CxT} {N : Int → Int} {T : TbT} {l : List ItZ} {y : Int × Int × Int × Int × Int} (h : y.1 = 37) : okS C N T l y ↔ (1 ≤ (opT T y.2.2.2.2).1 ∧ (opT T y.2.2.2.2).1 ≤ 3) := ⟨fun q => q.2.2.1 h, fun q => ⟨fun z => absurd z (by omega), fun z => absurd z (by omega), fun _ => q, fun z => absurd z (by omega), fun z => absurd z (by omega), fun z => absurd z (by omega), fun z => absurd z (by omega), fun z => absurd z (by omega), fun z => absurd z (by omega)⟩⟩
theorem ok_3 {C : CxT} {N : Int → Int} {T : TbT} {l : List ItZ} {y : Int × Int × Int × Int × Int} (h : y.1 = 38) : okS C N T l y ↔ ((¬ (opT T y.2.2.2.2).2.1 = 0 ∧ ftT (opT T y.2.2.2.2) (opT T (swZ y.2.1 l)).1) ∧ ∀ o x, itN l o = some (.inr x) → x.1 = 38 → x.2.1 = y.2.1 → ¬ (opT T x.2.2.2.2).2.2.1 = (opT T y.2.2.2.2).2.2.1) := ⟨fun q => q.2.2.2.1 h, fun q => ⟨fun z => absurd z (by omega), fun z => absurd z (by omega), fun z => absurd z (by omega), fun _ => q, fun z => absurd z (by omega), fun z => absurd z (by omega), fun z => absurd z (by omega), fun z => absurd z (by omega), fun z => absurd z (by omega)⟩⟩
theorem ok_4 {C : CxT} {N : Int → Int} {T : TbT} {l : List ItZ} {y : Int × Int × Int × Int × Int} (h : y.1 = 39) : okS C N T l y ↔ dfZ y.2.1 l < 0 := ⟨fun q => q.2.2.2.2.1 h, fun q => ⟨fun z => absurd z (by omega), fun z => absurd z (by omega), fun z => absurd z (by omega), fun z => absurd z (by omega), fun _ => q, fun z => absurd z (by omega), fun z => absurd z (by omega), fun z => absurd z (by omega), fun z => absurd z (by omega)⟩⟩
theorem ok_5 {C : CxT} {N : Int → Int} {T : TbT} {l : List ItZ} {y : Int × Int × Int × Int × Int} (h : y.1 = 41) : okS C N T l y ↔ (∀ p ∈ lbZ l, ¬ N p.2 = N y.2.2.2.1) := ⟨fun q => q.2.2.2.2.2.1 h, fun q => ⟨fun z => absurd z (by omega), fun z => absurd z (by omega), fun z => absurd z (by omega), fun z => absurd z (by omega), fun z => absurd z (by omega), fun _ => q, fun z => absurd z (by omega), fun z => absurd z (by omega), fun z => absurd z (by omega)⟩⟩
theorem ok_6 {C : CxT} {N : Int → Int} {T : TbT} {l : List ItZ} {y : Int × Int × Int × Int × Int} (h : (y.1 = 46 ∨ y.1 = 47)) : okS C N T l y ↔ 0 ≤ y.2.1 := ⟨fun q => q.2.2.2.2.2.2.1 h, fun q => ⟨fun z => absurd z (by omega), fun z => absurd z (by omega), fun z => absurd z (by omega), fun z => absurd z (by omega), fun z => absurd z (by omega), fun z => absurd z (by omega), fun _ => q, fun z => absurd z (by omega), fun z => absurd z (by omega)⟩⟩
theorem ok_7 {C : CxT} {N : Int → Int} {T : TbT} {l : List ItZ} {y : Int × Int × Int × Int × Int} (h : y.1 = 48) : okS C N T l y ↔ ((y.2.1 = 0 → mtyT C (mdZ l) = 5) ∧ (¬ y.2.1 = 0 → ¬ mtyT C (mdZ l) = 5 ∧ ftT (opT T y.2.2.2.2) (mtyT C (mdZ l)))) := ⟨fun q => q.2.2.2.2.2.2.2.1 h, fun q => ⟨fun z => absurd z (by omega), fun z => absurd z (by omega), fun z => absurd z (by omega), fun z => absurd z (by omega), fun z => absurd z (by omega), fun z => absurd z (by omega), fun z => absurd z (by omega), fun _ => q, fun z => absurd z (by omega)⟩⟩
theorem ok_8 {C : CxT} {N : Int → Int} {T : TbT} {l : List ItZ} {y : Int × Int × Int × Int × Int} (h : y.1 = 49) : okS C N T l y ↔ ftT (opT T y.2.2.2.2) 3 := ⟨fun q => q.2.2.2.2.2.2.2.2 h, fun q => ⟨fun z => absurd z (by omega), fun z => absurd z (by omega), fun z => absurd z (by omega), fun z => absurd z (by omega), fun z => absurd z (by omega), fun z => absurd z (by omega), fun z => absurd z (by omega), fun z => absurd z (by omega), fun _ => q⟩⟩
theorem ok_x {C : CxT} {N : Int → Int} {T : TbT} {l : List ItZ} {y : Int × Int × Int × Int × Int} (h : ¬ y.1 = 21 ∧ ¬ (y.1 = 23 ∨ y.1 = 27 ∨ y.1 = 31 ∨ (y.1 = 33 ∧ ¬ y.2.2.1 = 0)) ∧ ¬ y.1 = 37 ∧ ¬ y.1 = 38 ∧ ¬ y.1 = 39 ∧ ¬ y.1 = 41 ∧ ¬ (y.1 = 46 ∨ y.1 = 47) ∧ ¬ y.1 = 48 ∧ ¬ y.1 = 49) : okS C N T l y := ⟨fun z => absurd z (by omega), fun z => absurd z (by omega), fun z => absurd z (by omega), fun z => absurd z (by omega), fun z => absurd z (by omega), fun z => absurd z (by omega), fun z => absurd z (by omega), fun z => absurd z (by omega), fun z => absurd z (by omega)⟩
theorem IcR.ax {th : Int → Int} {σ : RS} : ∀ {l : List ItZ}, IcR th σ l → ∀ {o : Nat} {x : ItZ}, itN l o = some x → itR th σ o x := by
  intro l
  induction l with
  | nil => intro _ o x h; cases h
  | cons y l ih =>
    intro h o x hx
    rw [itN] at hx
    split at hx
    · next e => cases hx; rw [e]; exact h.1
    · exact ih h.2 hx
theorem itN_ex : ∀ {l : List ItZ} {o : Nat}, o < l.length → ∃ x, itN l o = some x := by
  intro l
  induction l with
  | nil => intro o h; exact absurd h (Nat.not_lt_zero _)
  | cons y l ih =>
    intro o h
    rw [itN]
    by_cases e : o = l.length
    · rw [if_pos e]; exact ⟨y, rfl⟩
    · rw [if_neg e]; exact ih (by rw [List.length_cons] at h; omega)
theorem JtR.ke {σ : RS} {T : TbT} : ∀ {l : List ItZ}, JtR σ T l → ∀ {o : Nat} {x}, itN l o = some (.inr x) → keR σ T o x := by
  intro l
  induction l with
  | nil => intro _ o x h; cases h
  | cons y l ih =>
    intro h o x hx
    rw [itN] at hx
    split at hx
    · next e => cases hx; rw [e]; exact h.1.2
    · cases y with
      | inl y => exact ih h.2 hx
      | inr y => exact ih h.2 hx
theorem ite_le {p : Prop} [Decidable p] {a b n : Int} (h : a ≤ n) (g : b ≤ n) : (if p then a else b) ≤ n := by
  split
  · exact h
  · exact g
theorem opk_22 {x : XrZ} : opkZ x ≤ 22 := by
  unfold opkZ
  repeat' first | refine ite_le ?_ ?_ | decide
/-- what judging a code asks of the state -/
theorem y_pre {b kd : Nat → Int} {σ0 σ : RS} {C : CxT} {tn : Nat} {l : List ItZ} {T : TbT} {S U : List Int} {N : Int → Int} {y : Int × Int × Int × Int × Int} {c : Int32} (hJ : JR b kd σ0 σ C tn l T S) (hS : S = iopZ (.inr y) ++ U) (hc : c.toInt = (l.length : Int)) (hY : YtxR kd σ0 C N tn l y) :
    gI σ 66 = 0 ∧ (((aI σ 19 c.toNatClampNeg).toInt = 21 ∨ ((aI σ 19 c.toNatClampNeg).toInt = 22 ∧ ¬ (aI σ 21 c.toNatClampNeg) = 0 ∧ ¬ (aI σ 21 c.toNatClampNeg) = 2) ∨ (aI σ 19 c.toNatClampNeg).toInt = 23 ∨ (aI σ 19 c.toNatClampNeg).toInt = 27 ∨ (aI σ 19 c.toNatClampNeg).toInt = 31 ∨ ((aI σ 19 c.toNatClampNeg).toInt = 33 ∧ ¬ (aI σ 21 c.toNatClampNeg) = 0) ∨ (aI σ 19 c.toNatClampNeg).toInt = 37 ∨ (aI σ 19 c.toNatClampNeg).toInt = 38 ∨ ((aI σ 19 c.toNatClampNeg).toInt = 48 ∧ ¬ (aI σ 20 c.toNatClampNeg) = 0) ∨ (aI σ 19 c.toNatClampNeg).toInt = 49) → TeR σ (gI σ 69 - 1).toNatClampNeg (opT T y.2.2.2.2)) ∧ ((aI σ 19 c.toNatClampNeg).toInt = 22 → ¬ (aI σ 21 c.toNatClampNeg) = 2 → (aI σ 44 (aI σ 20 c.toNatClampNeg).toNatClampNeg).toInt = ((aI σ0 44 y.2.1.toNat).toInt, (aI σ0 45 y.2.1.toNat).toInt).1 ∧ (¬ aI σ 45 (aI σ 20 c.toNatClampNeg).toNatClampNeg = 0 ↔ ¬ ((aI σ0 44 y.2.1.toNat).toInt, (aI σ0 45 y.2.1.toNat).toInt).2 = 0) ∧ (0 ≤ ((aI σ0 44 y.2.1.toNat).toInt, (aI σ0 45 y.2.1.toNat).toInt).1 ∧ ((aI σ0 44 y.2.1.toNat).toInt, (aI σ0 45 y.2.1.toNat).toInt).1 ≤ 4)) ∧ ((aI σ 19 c.toNatClampNeg).toInt = 48 → (if gI σ 89 = 10 then (5 : Int32) else if gI σ 89 = 11 then 3 else aI σ 38 (gI σ 89).toNatClampNeg).toInt = (mtyT C (mdZ l))) ∧ ((aI σ 19 c.toNatClampNeg).toInt = 38 → (aI σ 88 (aI σ 20 c.toNatClampNeg).toNatClampNeg).toInt = ((opT T (swZ y.2.1 l)).1) ∧ (1 ≤ ((opT T (swZ y.2.1 l)).1) ∧ ((opT T (swZ y.2.1 l)).1) ≤ 3) ∧ (aI σ 51 (aI σ 20 c.toNatClampNeg).toNatClampNeg).toInt ≤ c.toInt ∧ 0 ≤ (aI σ 51 (aI σ 20 c.toNatClampNeg).toNatClampNeg).toInt) := by
  obtain ⟨⟨hf, h66, hk⟩, ⟨hs1, hs2⟩, _, _, hh, _, h89, _⟩ := hJ
  obtain ⟨⟨y1, _⟩, y2, y3, y4, y5, _, _, _, y9, _⟩ := hY
  have hn : c.toNatClampNeg = l.length := nT_x hc
  have aa : ∀ k, k < 59 → aI σ k = aI σ0 k := fun k q => hf.2.2.1 k (bj_n (Or.inl q))
  obtain ⟨i1, i2, i3, i4⟩ : itR id σ0 l.length (.inr y) := y1.1
  have o : (aI σ 19 c.toNatClampNeg).toInt = y.1 := by rw [hn, aa 19 (by decide)]; exact i1
  have k : (aI σ 20 c.toNatClampNeg).toInt = y.2.1 := by rw [hn, aa 20 (by decide)]; exact i2
  have d : (aI σ 21 c.toNatClampNeg).toInt = y.2.2.1 := by rw [hn, aa 21 (by decide)]; exact i3
  have kn : (aI σ 20 c.toNatClampNeg).toNatClampNeg = y.2.1.toNat := by show (aI σ 20 c.toNatClampNeg).toInt.toNat = _; rw [k]
  have d0 := i32_kk (k := 0) (K := 0) d rfl
  have d2 := i32_kk (k := 2) (K := 2) d rfl
  have k0 := i32_kk (k := 0) (K := 0) k rfl
  refine ⟨h66, fun q => ?_, fun q q2 => ?_, fun q => y9 (by omega) σ hf h89, fun q => ?_⟩
  · have tk : tkO y := by
      rw [o, d0, d2, k0] at q
      unfold tkO
      rcases q with q | q | q | q | q | q | q | q | q | q
      · omega
      · have z := (y2 q.1).1; omega
      all_goals omega
    have e0 := y3.1 tk
    have sy : S = y.2.2.2.2 :: U := by rw [hS]; show (if y.2.2.2.2 < 0 then [] else [y.2.2.2.2]) ++ U = _; rw [if_neg (by omega)]; rfl
    have z := hs2 0 y.2.2.2.2 (by rw [sy]; rfl)
    have g := (g69 (k := 1) (m := 1) hs1 rfl (by rw [sy, List.length_cons]; omega)).1
    exact z.ix (by omega)
  · rw [kn, aa 44 (by decide), aa 45 (by decide)]
    have z := y2 (by omega)
    refine ⟨rfl, ?_, z.2.1, z.2.2.1⟩
    have w := i32_kk (v := aI σ0 45 y.2.1.toNat) (k := 0) (K := 0) rfl rfl
    exact not_congr w
  · obtain ⟨a1, a2, a3⟩ := y5 (by omega)
    have a4 := y4 (by omega)
    have w := (hh y.2.1.toNat (by omega)).1
    rw [show ((y.2.1.toNat : Nat) : Int) = y.2.1 by omega] at w
    obtain ⟨w1, w2, w3⟩ := w a1
    rw [kn, aa 51 (by decide)]
    exact ⟨w2, w3, by omega, a2.1⟩
