/-! the class's judge: switches, one S of the list -/
def BiC (B : Nat → Nat) (z : ZS) : Prop := ∀ a b, a < snM z → b < snM z → B a = B b → a = b
theorem RwZ.nn {z : ZS} {x : Int} {a b : List Nat} {j : Nat} (h : RwZ z x (a ++ j :: b)) : 0 ≤ x := by
  cases a with
  | nil => have := h.1; omega
  | cons i a => have := h.1; omega
theorem RwZ.u {z : ZS} : ∀ {l m : List Nat} {x : Int}, RwZ z x l → RwZ z x m → l = m := by
  intro l
  induction l with
  | nil =>
    intro m x h g
    cases m with
    | nil => rfl
    | cons j m => have h : x < 0 := h; have := g.1; omega
  | cons i l ih =>
    intro m x h g
    cases m with
    | nil => have g : x < 0 := g; have := h.1; omega
    | cons j m =>
      have e : i = j := by have := h.1; have := g.1; omega
      subst e
      rw [ih h.2.2 g.2.2]
def csB (a b : TvT) : Prop := ¬ a.2.1 = 0 ∧ ftT a b.1
def FtD (a : TvT) (t : Int) : Prop := ftT a t
def swP (z : ZS) (T : TbT) (j : Nat) : Prop := 0 ≤ xjS z j → (1 ≤ (T.1 (xjS z j).toNat).1 ∧ (T.1 (xjS z j).toNat).1 ≤ 3) ∧ ∀ l, RwZ z (bjS z j) l → swT' z T (T.1 (xjS z j).toNat).1 [] l
/-- whether S j is as wanted -/
def skT (N : Int → Int) (z : ZS) (T : TbT) (ms : MfT) (j : Nat) : Prop :=
  ((kjS z j = 56 ∨ kjS z j = 58 ∨ kjS z j = 59 ∨ kjS z j = 60) → 0 ≤ xjS z j → (T.1 (xjS z j).toNat).1 = 0) ∧ (kjS z j = 61 → swP z T j) ∧ ((kjS z j = 64 ∨ kjS z j = 65) → 0 ≤ tjT N z j) ∧ (kjS z j = 66 → ∀ m, ms (ljS z j).toNat = some m → rtT' z T m j) ∧ (kjS z j = 67 → 0 ≤ xjS z j → ftT (T.1 (xjS z j).toNat) 3) ∧ (kjS z j = 6 → lbT N z (ljS z j) (snM z) (paS z j)) ∧ ((kjS z j = 90 ∨ kjS z j = 94) → 0 ≤ xjS z j → (xth z (xjS z j).toNat).1.1 = 9 ∨ (xth z (xjS z j).toNat).1.1 = 6 ∨ (xth z (xjS z j).toNat).1.1 = 10)
theorem sk_k {N : Int → Int} {z : ZS} {T : TbT} {ms : MfT} {j : Nat} {P : Prop} (h1 : (kjS z j = 56 ∨ kjS z j = 58 ∨ kjS z j = 59 ∨ kjS z j = 60) → (P ↔ (0 ≤ xjS z j → (T.1 (xjS z j).toNat).1 = 0))) (h2 : kjS z j = 61 → (P ↔ swP z T j)) (h3 : (kjS z j = 64 ∨ kjS z j = 65) → (P ↔ 0 ≤ tjT N z j)) (h4 : kjS z j = 66 → (P ↔ ∀ m, ms (ljS z j).toNat = some m → rtT' z T m j)) (h5 : kjS z j = 67 → (P ↔ (0 ≤ xjS z j → ftT (T.1 (xjS z j).toNat) 3))) (h6 : kjS z j = 6 → (P ↔ lbT N z (ljS z j) (snM z) (paS z j))) (h7 : (kjS z j = 90 ∨ kjS z j = 94) → (P ↔ (0 ≤ xjS z j → (xth z (xjS z j).toNat).1.1 = 9 ∨ (xth z (xjS z j).toNat).1.1 = 6 ∨ (xth z (xjS z j).toNat).1.1 = 10))) (h8 : ¬ (kjS z j = 56 ∨ kjS z j = 58 ∨ kjS z j = 59 ∨ kjS z j = 60) → ¬ kjS z j = 61 → ¬ (kjS z j = 64 ∨ kjS z j = 65) → ¬ kjS z j = 66 → ¬ kjS z j = 67 → ¬ kjS z j = 6 → ¬ (kjS z j = 90 ∨ kjS z j = 94) → P) : P ↔ skT N z T ms j := by
  unfold skT
  by_cases c1 : kjS z j = 56 ∨ kjS z j = 58 ∨ kjS z j = 59 ∨ kjS z j = 60
  · rw [h1 c1]
    exact ⟨fun h => ⟨fun _ => h, fun q => by omega, fun q => by omega, fun q => by omega, fun q => by omega, fun q => by omega, fun q => by omega⟩, fun h => h.1 c1⟩
  by_cases c2 : kjS z j = 61
  · rw [h2 c2]
    exact ⟨fun h => ⟨fun q => by omega, fun _ => h, fun q => by omega, fun q => by omega, fun q => by omega, fun q => by omega, fun q => by omega⟩, fun h => h.2.1 c2⟩
  by_cases c3 : kjS z j = 64 ∨ kjS z j = 65
  · rw [h3 c3]
    exact ⟨fun h => ⟨fun q => by omega, fun q => by omega, fun _ => h, fun q => by omega, fun q => by omega, fun q => by omega, fun q => by omega⟩, fun h => h.2.2.1 c3⟩
  by_cases c4 : kjS z j = 66
  · rw [h4 c4]
    exact ⟨fun h => ⟨fun q => by omega, fun q => by omega, fun q => by omega, fun _ => h, fun q => by omega, fun q => by omega, fun q => by omega⟩, fun h => h.2.2.2.1 c4⟩
  by_cases c5 : kjS z j = 67
  · rw [h5 c5]
    exact ⟨fun h => ⟨fun q => by omega, fun q => by omega, fun q => by omega, fun q => by omega, fun _ => h, fun q => by omega, fun q => by omega⟩, fun h => h.2.2.2.2.1 c5⟩
  by_cases c6 : kjS z j = 6
  · rw [h6 c6]
    exact ⟨fun h => ⟨fun q => by omega, fun q => by omega, fun q => by omega, fun q => by omega, fun q => by omega, fun _ => h, fun q => by omega⟩, fun h => h.2.2.2.2.2.1 c6⟩
  by_cases c7 : kjS z j = 90 ∨ kjS z j = 94
  · rw [h7 c7]
    exact ⟨fun h => ⟨fun q => by omega, fun q => by omega, fun q => by omega, fun q => by omega, fun q => by omega, fun q => by omega, fun _ => h⟩, fun h => h.2.2.2.2.2.2 c7⟩
  exact ⟨fun _ => ⟨fun q => absurd q c1, fun q => absurd q c2, fun q => absurd q c3, fun q => absurd q c4, fun q => absurd q c5, fun q => absurd q c6, fun q => absurd q c7⟩, fun _ => h8 c1 c2 c3 c4 c5 c6 c7⟩
def swQ (z : ZS) (T : TbT) (kj : Nat) (l0 : List Nat) : Prop := (1 ≤ (T.1 kj).1 ∧ (T.1 kj).1 ≤ 3) ∧ swT' z T (T.1 kj).1 [] l0
theorem sw_p {z : ZS} {T : TbT} {j kj : Nat} {l0 : List Nat} (h : xjS z j = (kj : Int)) (hr : RwZ z (bjS z j) l0) : swP z T j ↔ swQ z T kj l0 := by
  unfold swP swQ
  rw [h, Int.toNat_natCast]
  exact ⟨fun q => ⟨(q (by omega)).1, (q (by omega)).2 l0 hr⟩, fun q _ => ⟨q.1, fun l hl => by rw [hl.u hr]; exact q.2⟩⟩
def dfH (z : ZS) (d : Int) (ahd : List Nat) : Prop := (d = 1 ∧ ∃ u ∈ ahd, kjS z u = 63) ∨ (d = 0 ∧ ∀ u ∈ ahd, ¬ kjS z u = 63)
theorem sw_c {z : ZS} {T : TbT} {ty : Int} {ahd l : List Nat} {j : Nat} : swT' z T ty ahd (j :: l) ↔ (kjS z j = 62 → csT' z T ty ahd j) ∧ (kjS z j = 63 → ∀ u ∈ ahd, ¬ kjS z u = 63) ∧ swT' z T ty (ahd ++ [j]) l := Iff.rfl
theorem sw_1 {P Q : Prop} {E : Nat → Nat} {s t : CsC} {z : ZS} {T : TbT} {ty : Int} {ahd l : List Nat} {j : Nat} (h : P ↔ (erC E s ∨ ¬ (Q ∧ swT' z T ty ahd (j :: l)))) (hk : kjS z j = 62) (he : erC E t ↔ erC E s ∨ ¬ csT' z T ty ahd j) : P ↔ (erC E t ∨ ¬ (Q ∧ swT' z T ty (ahd ++ [j]) l)) := by
  rw [h, he, sw_c]
  have a : ¬ kjS z j = 63 := by omega
  constructor
  · rintro (q | q)
    · exact Or.inl (Or.inl q)
    · by_cases c : csT' z T ty ahd j
      · exact Or.inr (fun r => q ⟨r.1, fun _ => c, fun k => absurd k a, r.2⟩)
      · exact Or.inl (Or.inr c)
  · rintro ((q | q) | q)
    · exact Or.inl q
    · exact Or.inr (fun r => q (r.2.1 hk))
    · exact Or.inr (fun r => q ⟨r.1, r.2.2.2⟩)
theorem sw_2 {P Q : Prop} {E : Nat → Nat} {s : CsC} {z : ZS} {T : TbT} {ty : Int} {ahd l : List Nat} {j : Nat} (h : P ↔ (erC E s ∨ ¬ (Q ∧ swT' z T ty ahd (j :: l)))) (hk : ¬ kjS z j = 62) (hd : kjS z j = 63 → ∀ u ∈ ahd, ¬ kjS z u = 63) : P ↔ (erC E s ∨ ¬ (Q ∧ swT' z T ty (ahd ++ [j]) l)) := by
  rw [h, sw_c]
  exact or_congr Iff.rfl (not_congr ⟨fun q => ⟨q.1, q.2.2.2⟩, fun q => ⟨q.1, fun k => absurd k hk, hd, q.2⟩⟩)
theorem sw_3 {P Q : Prop} {E : Nat → Nat} {s t : CsC} {z : ZS} {T : TbT} {ty : Int} {ahd l : List Nat} {j : Nat} (h : P ↔ (erC E s ∨ ¬ (Q ∧ swT' z T ty ahd (j :: l)))) (hk : kjS z j = 63) (hd : ∃ u ∈ ahd, kjS z u = 63) (hb : erC E t) : P ↔ (erC E t ∨ ¬ (Q ∧ swT' z T ty (ahd ++ [j]) l)) := by
  obtain ⟨u, hu, hu2⟩ := hd
  exact iff_of_true (h.mpr (Or.inr (fun r => (sw_c.mp r.2).2.1 hk u hu hu2))) (Or.inl hb)
theorem s281 {E A B V : Nat → Nat} {σ τ : CsC} {z : ZS} {N : Int → Int} {j p : Nat} (f : FrE [217, 218] σ τ) (hl : p < cnC σ) (h : fRC σ p 281 = none) (hk : ¬ (kjS z j = 64 ∨ kjS z j = 65)) : (fRC τ p 281 = if kjS z j = 64 ∨ kjS z j = 65 then opA B (tjT N z j) else none) ∧ ∀ a, a < cnC σ → a ≠ p → fRC τ a 281 = fRC σ a 281 := ⟨by rw [if_neg hk, ((f.2 rfl p hl).1 281 rfl).2.2]; exact h, fun a ha _ => ((f.2 rfl a ha).1 281 rfl).2.2⟩
abbrev Pz_judgeCase : ((Int → Int) × (Nat → Nat) × (Nat → Nat) × (Nat → Nat) × (Nat → Nat) × ZS × TbT × MfT × Nat × Nat × Nat × List Nat × List Nat) → CpC := fun y As σ => match y with
  | (N, E, A, B, V, z, T, ms, nm, j, jc, ahd, rst) => ∃ (p1 : Nat) (p2 : Nat), As = [.inr (.inr (some (E 3))), .inr (.inr (some p1)), .inr (.inr (some p2))] ∧ (SsC E A B σ z T ms nm) ∧ (NmC N E σ) ∧ (WfS z T) ∧ (j < snM z) ∧ (p1 = B j) ∧ (jc < snM z) ∧ (p2 = B jc) ∧ (BiC B z) ∧ (RwZ z (bjS z j) (ahd ++ jc :: rst)) ∧ (jc ∉ ahd) ∧ (0 ≤ xjS z j)
abbrev Qz_judgeCase : ((Int → Int) × (Nat → Nat) × (Nat → Nat) × (Nat → Nat) × (Nat → Nat) × ZS × TbT × MfT × Nat × Nat × Nat × List Nat × List Nat) → CqC := fun y As σ w τ => match y, As with
  | (N, E, A, B, V, z, T, ms, nm, j, jc, ahd, rst), [_, .inr (.inr (some p1)), .inr (.inr (some p2))] => w = none ∧ (erC E τ ↔ erC E σ ∨ ¬ csT' z T (T.1 (xjS z j).toNat).1 ahd jc)
  | _, _ => True
abbrev Uz_judgeCase : CqC := fun As σ w τ => ∀ y, Pz_judgeCase y As σ → Qz_judgeCase y As σ w τ
set_option maxHeartbeats 4000000 in
theorem pz_judgeCase (y : (Int → Int) × (Nat → Nat) × (Nat → Nat) × (Nat → Nat) × (Nat → Nat) × ZS × TbT × MfT × Nat × Nat × Nat × List Nat × List Nat) : PbC KX3_judgeCase [(52, TrP, EqC 52), (75, TrP, EqC 75), (118, TrP, EqC 118)] [(52, Uz_isFaulty), (75, Uz_fits), (118, Uz_tell)] (fun As σ => Pz_judgeCase y As σ ∧ cnC σ ≤ 1000000 ∧ ∃ w τ, uqC quL 82 As σ w τ) (Qz_judgeCase y) := by
  obtain ⟨N, E, A, B, V, z, T, ms, nm, j, jc, ahd, rst⟩ := y
  rintro As σ ⟨⟨p1, p2, rfl, hSs, hNm, hwf, hj, hp, hjc, hp2, hBi, hrow, hnd, hx0⟩, hcn, _, _, hQ⟩ K hB hW n_
  have op : SlC A B σ z j p1 ∧ p1 < cnC σ := by rw [hp]; exact hSs.1 j hj
  have op2 : SlC A B σ z jc p2 ∧ p2 < cnC σ := by rw [hp2]; exact hSs.1 jc hjc
  obtain ⟨kj, hkj⟩ : ∃ k : Nat, xjS z j = (k : Int) := ⟨(xjS z j).toNat, by omega⟩
  have hw_kj := (hwf j hj).2.1 hx0
  rw [hkj, Int.toNat_natCast] at hw_kj
  have hlkj : kj < xnM z := by omega
  have okj := hSs.2.1 kj hlkj
  have L50 : ∀ (n : Nat) (fi : Int32) (x9 : Int) (don : List Nat) (rem : List Nat) (kc : Nat), (xjS z jc = (kc : Int)) → ((kc : Int) < (xnM z : Int) ∧ ¬ (T.1 kc).1 = -1) → (kc < xnM z) → (x9 < (snM z : Int)) → (ahd = don ++ rem) → (RwZ z x9 (rem ++ jc :: rst)) → ((fi.toInt = 1 ∧ csB (T.1 kc) (T.1 kj) ∧ ∀ u ∈ don, ¬ cvZ z T (T.1 kc).2.2.1 u) ∨ (fi.toInt = 0 ∧ ¬ (csB (T.1 kc) (T.1 kj) ∧ ∀ u ∈ don, ¬ cvZ z T (T.1 kc).2.2.1 u))) →  K n 50 [(0, .inr (.inr (some (E 3)))), (1, .inr (.inr (some p1))), (2, .inr (.inr (some p2))), (3, .inl fi), (4, .inr (.inr (opA B x9)))] [] σ := by
    intro n
    induction n using Nat.strongRecOn with
    | _ n ih =>
      intro fi x9 don rem kc hkc hwc hlc hx9 h4 h5 h6
      have okc := hSs.2.1 kc hlc
      refine hB _ _ _ _ _ (fun m51 hm51 => ?_)
      dsimp only [ucgo, ucwp, ucsC, uqC, uoC, ctC, rfd, KX3_judgeCase, KX3_judgeCase_0, KX3_judgeCase_10, KX3_judgeCase_11, KX3_judgeCase_21, KX3_judgeCase_38, KX3_judgeCase_42, KX3_judgeCase_43, KX3_judgeCase_50, KX3_judgeCase_55, KX3_judgeCase_61, KX3_judgeCase_71, KX3_judgeCase_82, KX3_judgeCase_93, KX3_judgeCase_112, KX3_judgeCase_114, KX3_judgeCase_124, KX3_judgeCase_128, KX3_judgeCase_144, lkC, s1C, s2C, dlC, kyC, Nat.beq, Nat.ble, rcd, rno, rsw, Nat.reduceAdd, Nat.reduceBEq, Nat.reduceDiv, List.drop, List.take, List.reverse, List.reverseAux, Int.toNat, Option.toList, List.append, List.cons_append, List.nil_append, zg62, zg68, zg70, zg71, zg121, zg270, zg275, zg276, zg279]
      refine ⟨fun h52 => ?_, fun b52 h52 => ?_⟩
      · have hx52 := opA_nn ((Eq.refl (opA B x9)).symm.trans h52)
        exact absurd h5.nn (by omega)
      · obtain ⟨j52, hj52, hb52⟩ := opA_j ((Eq.refl (opA B x9)).symm.trans h52)
        have hl52 : j52 < snM z := by omega
        have o53 := hSs.1 j52 hl52
        refine hB _ _ _ _ _ (fun m54 hm54 => ?_)
        dsimp only [ucgo, ucwp, ucsC, uqC, uoC, ctC, rfd, KX3_judgeCase, KX3_judgeCase_0, KX3_judgeCase_10, KX3_judgeCase_11, KX3_judgeCase_21, KX3_judgeCase_38, KX3_judgeCase_42, KX3_judgeCase_43, KX3_judgeCase_50, KX3_judgeCase_55, KX3_judgeCase_61, KX3_judgeCase_71, KX3_judgeCase_82, KX3_judgeCase_93, KX3_judgeCase_112, KX3_judgeCase_114, KX3_judgeCase_124, KX3_judgeCase_128, KX3_judgeCase_144, lkC, s1C, s2C, dlC, kyC, Nat.beq, Nat.ble, rcd, rno, rsw, Nat.reduceAdd, Nat.reduceBEq, Nat.reduceDiv, List.drop, List.take, List.reverse, List.reverseAux, Int.toNat, Option.toList, List.append, List.cons_append, List.nil_append, zg62, zg68, zg70, zg71, zg121, zg270, zg275, zg276, zg279]
        refine ⟨fun h55 => ?_, fun h55 => ?_⟩
        · have hjj : j52 = jc := hBi _ _ (by omega) hjc ((Option.some.inj ((h52.trans (congrArg some hb52)).symm.trans h55)).trans hp2)
          have hrem : rem = [] := by
            cases rem with
            | nil => rfl
            | cons a9 l9 =>
              have q9 := h5.1
              exact absurd (by rw [h4]; exact List.mem_append_right _ (by rw [show jc = a9 by omega]; exact List.mem_cons_self)) hnd
          refine hB _ _ _ _ _ (fun m56 hm56 => ?_)
          dsimp only [ucgo, ucwp, ucsC, uqC, uoC, ctC, rfd, KX3_judgeCase, KX3_judgeCase_0, KX3_judgeCase_10, KX3_judgeCase_11, KX3_judgeCase_21, KX3_judgeCase_38, KX3_judgeCase_42, KX3_judgeCase_43, KX3_judgeCase_50, KX3_judgeCase_55, KX3_judgeCase_61, KX3_judgeCase_71, KX3_judgeCase_82, KX3_judgeCase_93, KX3_judgeCase_112, KX3_judgeCase_114, KX3_judgeCase_124, KX3_judgeCase_128, KX3_judgeCase_144, lkC, s1C, s2C, dlC, kyC, Nat.beq, Nat.ble, rcd, rno, rsw, Nat.reduceAdd, Nat.reduceBEq, Nat.reduceDiv, List.drop, List.take, List.reverse, List.reverseAux, Int.toNat, Option.toList, List.append, List.cons_append, List.nil_append, zg62, zg68, zg70, zg71, zg121, zg270, zg275, zg276, zg279]
          refine ⟨fun h57 => ?_, fun h57 => ?_⟩
          · have g57 := (neI (x := fi) (y := 0) h57 : ¬ (fi : Int32).toInt = (0 : Int32).toInt)
            have z0_ : (0 : Int32).toInt = 0 := rfl
            refine hB _ _ _ _ _ (fun m58 hm58 => ?_)
            dsimp only [ucgo, ucwp, ucsC, uqC, uoC, ctC, rfd, KX3_judgeCase, KX3_judgeCase_0, KX3_judgeCase_10, KX3_judgeCase_11, KX3_judgeCase_21, KX3_judgeCase_38, KX3_judgeCase_42, KX3_judgeCase_43, KX3_judgeCase_50, KX3_judgeCase_55, KX3_judgeCase_61, KX3_judgeCase_71, KX3_judgeCase_82, KX3_judgeCase_93, KX3_judgeCase_112, KX3_judgeCase_114, KX3_judgeCase_124, KX3_judgeCase_128, KX3_judgeCase_144, lkC, s1C, s2C, dlC, kyC, Nat.beq, Nat.ble, rcd, rno, rsw, Nat.reduceAdd, Nat.reduceBEq, Nat.reduceDiv, List.drop, List.take, List.reverse, List.reverseAux, Int.toNat, Option.toList, List.append, List.cons_append, List.nil_append, zg62, zg68, zg70, zg71, zg121, zg270, zg275, zg276, zg279]
            try dsimp only [Qz_judgeCase]
            have hP9 : csT' z T (T.1 (xjS z j).toNat).1 ahd jc ↔ (csB (T.1 kc) (T.1 kj) ∧ ∀ u ∈ don, ¬ cvZ z T (T.1 kc).2.2.1 u) := by
              unfold csT'
              rw [hkc, hkj, Int.toNat_natCast, Int.toNat_natCast, h4, hrem, List.append_nil]
              exact ⟨fun q9 => q9 (by omega), fun q9 _ => q9⟩
            exact fun τ9 h9 => ⟨rfl, (er_we h9).trans (iff_e (hP9.mpr (h6.elim (fun q8 => q8.2) (fun q8 => by omega)))).symm⟩
          · have g57 := (eqI (x := fi) (y := 0) h57 : (fi : Int32).toInt = (0 : Int32).toInt)
            have z0_ : (0 : Int32).toInt = 0 := rfl
            refine hB _ _ _ _ _ (fun m59 hm59 => ?_)
            dsimp only [ucgo, ucwp, ucsC, uqC, uoC, ctC, rfd, KX3_judgeCase, KX3_judgeCase_0, KX3_judgeCase_10, KX3_judgeCase_11, KX3_judgeCase_21, KX3_judgeCase_38, KX3_judgeCase_42, KX3_judgeCase_43, KX3_judgeCase_50, KX3_judgeCase_55, KX3_judgeCase_61, KX3_judgeCase_71, KX3_judgeCase_82, KX3_judgeCase_93, KX3_judgeCase_112, KX3_judgeCase_114, KX3_judgeCase_124, KX3_judgeCase_128, KX3_judgeCase_144, lkC, s1C, s2C, dlC, kyC, Nat.beq, Nat.ble, rcd, rno, rsw, Nat.reduceAdd, Nat.reduceBEq, Nat.reduceDiv, List.drop, List.take, List.reverse, List.reverseAux, Int.toNat, Option.toList, List.append, List.cons_append, List.nil_append, zg62, zg68, zg70, zg71, zg121, zg270, zg275, zg276, zg279]
            intro a60 e60 ob60
            cases e60
            have c62 : (Int32.ofInt 8).toInt = 8 := by decide
            intro a63 e63 ob63
            cases e63
            have f64 : (fRC σ p2 279) = some (A kc) := by rw [show (fRC σ p2 279) = opA A (xjS z jc) from op2.1.2.2.2.2.2.1, hkc, opA_k]
            intro a65 e65 ob65
            obtain rfl : A kc = a65 := Option.some.inj (f64.symm.trans e65)
            rw [hNm.1.1]
            try dsimp only
            intro w67 τ67 o67 q67
            obtain ⟨rfl, hb67⟩ := q67 (N, E, A, B, V, z) ⟨_, _, rfl, by omega⟩
            have hF67 : FrE [217, 218] σ τ67 := FrE.mo o67.2 rfl
            have hSs_67 := SsC.fr hSs hF67 rfl
            have hNm_67 := NmC.fr hNm hF67 rfl
            have op_67 : SlC A B τ67 z j p1 ∧ p1 < cnC τ67 := by rw [hp]; exact hSs_67.1 j hj
            have op2_67 : SlC A B τ67 z jc p2 ∧ p2 < cnC τ67 := by rw [hp2]; exact hSs_67.1 jc hjc
            have okj_67 := hSs_67.2.1 kj hlkj
            have okc_67 := hSs_67.2.1 kc hlc
            have o53_67 := hSs_67.1 j52 hl52
            try dsimp only [Option.toList, List.cons_append, List.nil_append, s1C, s2C, dlC, kyC, Nat.beq, lkC, rcd, rno, rsw]
            refine hB _ _ _ _ _ (fun m68 hm68 => ?_)
            dsimp only [ucgo, ucwp, ucsC, uqC, uoC, ctC, rfd, KX3_judgeCase, KX3_judgeCase_0, KX3_judgeCase_10, KX3_judgeCase_11, KX3_judgeCase_21, KX3_judgeCase_38, KX3_judgeCase_42, KX3_judgeCase_43, KX3_judgeCase_50, KX3_judgeCase_55, KX3_judgeCase_61, KX3_judgeCase_71, KX3_judgeCase_82, KX3_judgeCase_93, KX3_judgeCase_112, KX3_judgeCase_114, KX3_judgeCase_124, KX3_judgeCase_128, KX3_judgeCase_144, lkC, s1C, s2C, dlC, kyC, Nat.beq, Nat.ble, rcd, rno, rsw, Nat.reduceAdd, Nat.reduceBEq, Nat.reduceDiv, List.drop, List.take, List.reverse, List.reverseAux, Int.toNat, Option.toList, List.append, List.cons_append, List.nil_append, zg62, zg68, zg70, zg71, zg121, zg270, zg275, zg276, zg279]
            try dsimp only [Qz_judgeCase]
            have hP9 : csT' z T (T.1 (xjS z j).toNat).1 ahd jc ↔ (csB (T.1 kc) (T.1 kj) ∧ ∀ u ∈ don, ¬ cvZ z T (T.1 kc).2.2.1 u) := by
              unfold csT'
              rw [hkc, hkj, Int.toNat_natCast, Int.toNat_natCast, h4, hrem, List.append_nil]
              exact ⟨fun q9 => q9 (by omega), fun q9 _ => q9⟩
            exact fun τ9 h9 => ⟨rfl, (er_we h9).trans (iff_of_true hb67 (Or.inr (fun q9 => h6.elim (fun q8 => by omega) (fun q8 => q8.2 (hP9.mp q9)))))⟩
        · obtain ⟨rem, rfl⟩ : ∃ l9, rem = j52 :: l9 := by
            cases rem with
            | nil => exact absurd (by rw [hp2, show jc = j52 by have q9 := h5.1; omega]; exact (h52.trans (congrArg some hb52))) h55
            | cons a9 l9 => exact ⟨l9, by rw [show a9 = j52 by have q9 := h5.1; omega]⟩
          have hru := h5.2.2
          refine hB _ _ _ _ _ (fun m69 hm69 => ?_)
          dsimp only [ucgo, ucwp, ucsC, uqC, uoC, ctC, rfd, KX3_judgeCase, KX3_judgeCase_0, KX3_judgeCase_10, KX3_judgeCase_11, KX3_judgeCase_21, KX3_judgeCase_38, KX3_judgeCase_42, KX3_judgeCase_43, KX3_judgeCase_50, KX3_judgeCase_55, KX3_judgeCase_61, KX3_judgeCase_71, KX3_judgeCase_82, KX3_judgeCase_93, KX3_judgeCase_112, KX3_judgeCase_114, KX3_judgeCase_124, KX3_judgeCase_128, KX3_judgeCase_144, lkC, s1C, s2C, dlC, kyC, Nat.beq, Nat.ble, rcd, rno, rsw, Nat.reduceAdd, Nat.reduceBEq, Nat.reduceDiv, List.drop, List.take, List.reverse, List.reverseAux, Int.toNat, Option.toList, List.append, List.cons_append, List.nil_append, zg62, zg68, zg70, zg71, zg121, zg270, zg275, zg276, zg279]
          intro a70 e70 ob70
          obtain rfl : B j52 = a70 := Option.some.inj ((h52.trans (congrArg some hb52)).symm.trans e70)
          have f71 : (fIC σ (B j52) 270).toInt = kjS z j52 := o53.1.1.1
          have c72 : (Int32.ofInt 62).toInt = 62 := by decide
          refine ⟨fun h73 => ?_, fun h73 => ?_⟩
          · have g73 := (neI (x := (fIC σ (B j52) 270)) (y := (Int32.ofInt 62)) h73 : ¬ ((fIC σ (B j52) 270) : Int32).toInt = ((Int32.ofInt 62) : Int32).toInt)
            refine hB _ _ _ _ _ (fun m74 hm74 => ?_)
            dsimp only [ucgo, ucwp, ucsC, uqC, uoC, ctC, rfd, KX3_judgeCase, KX3_judgeCase_0, KX3_judgeCase_10, KX3_judgeCase_11, KX3_judgeCase_21, KX3_judgeCase_38, KX3_judgeCase_42, KX3_judgeCase_43, KX3_judgeCase_50, KX3_judgeCase_55, KX3_judgeCase_61, KX3_judgeCase_71, KX3_judgeCase_82, KX3_judgeCase_93, KX3_judgeCase_112, KX3_judgeCase_114, KX3_judgeCase_124, KX3_judgeCase_128, KX3_judgeCase_144, lkC, s1C, s2C, dlC, kyC, Nat.beq, Nat.ble, rcd, rno, rsw, Nat.reduceAdd, Nat.reduceBEq, Nat.reduceDiv, List.drop, List.take, List.reverse, List.reverseAux, Int.toNat, Option.toList, List.append, List.cons_append, List.nil_append, zg62, zg68, zg70, zg71, zg121, zg270, zg275, zg276, zg279]
            intro a75 e75 ob75
            obtain rfl : B j52 = a75 := Option.some.inj ((h52.trans (congrArg some hb52)).symm.trans e75)
            have f76 : (fRC σ (B j52) 275) = opA B (njS z j52) := o53.1.2.1
            rw [f76]
            exact hW _ 50 [(0, .inr (.inr (some (E 3)))), (1, .inr (.inr (some p1))), (2, .inr (.inr (some p2))), (3, .inl fi), (4, .inr (.inr (opA B (njS z j52))))] _ _ _ (List.forall_mem_cons.2 ⟨List.Mem.tail _ (List.Mem.head _), List.forall_mem_cons.2 ⟨List.Mem.tail _ (List.Mem.tail _ (List.Mem.head _)), List.forall_mem_cons.2 ⟨List.Mem.tail _ (List.Mem.tail _ (List.Mem.tail _ (List.Mem.head _))), List.forall_mem_cons.2 ⟨List.Mem.tail _ (List.Mem.tail _ (List.Mem.tail _ (List.Mem.tail _ (List.Mem.head _)))), List.forall_mem_cons.2 ⟨List.Mem.head _, fun _ h => absurd h List.not_mem_nil⟩⟩⟩⟩⟩) (ih _ (by omega) fi (njS z j52) (don ++ [j52]) rem kc hkc hwc hlc (by have := (hwf j52 hl52).1; omega) (by rw [List.append_assoc]; exact h4) hru (h6.elim (fun q9 => Or.inl ⟨by omega, q9.2.1, fun u9 q8 => (List.mem_append.mp q8).elim (q9.2.2 u9) (fun q7 => by rw [List.mem_singleton.mp q7]; exact (fun q6 => by have := q6.1; omega))⟩) (fun q9 => Or.inr ⟨by omega, fun q8 => q9.2 ⟨q8.1, fun u9 q7 => q8.2 u9 (List.mem_append_left _ q7)⟩⟩)))
          · have g73 := (eqI (x := (fIC σ (B j52) 270)) (y := (Int32.ofInt 62)) h73 : ((fIC σ (B j52) 270) : Int32).toInt = ((Int32.ofInt 62) : Int32).toInt)
            refine hB _ _ _ _ _ (fun m77 hm77 => ?_)
            dsimp only [ucgo, ucwp, ucsC, uqC, uoC, ctC, rfd, KX3_judgeCase, KX3_judgeCase_0, KX3_judgeCase_10, KX3_judgeCase_11, KX3_judgeCase_21, KX3_judgeCase_38, KX3_judgeCase_42, KX3_judgeCase_43, KX3_judgeCase_50, KX3_judgeCase_55, KX3_judgeCase_61, KX3_judgeCase_71, KX3_judgeCase_82, KX3_judgeCase_93, KX3_judgeCase_112, KX3_judgeCase_114, KX3_judgeCase_124, KX3_judgeCase_128, KX3_judgeCase_144, lkC, s1C, s2C, dlC, kyC, Nat.beq, Nat.ble, rcd, rno, rsw, Nat.reduceAdd, Nat.reduceBEq, Nat.reduceDiv, List.drop, List.take, List.reverse, List.reverseAux, Int.toNat, Option.toList, List.append, List.cons_append, List.nil_append, zg62, zg68, zg70, zg71, zg121, zg270, zg275, zg276, zg279]
            intro a78 e78 ob78
            obtain rfl : B j52 = a78 := Option.some.inj ((h52.trans (congrArg some hb52)).symm.trans e78)
            have f79 : (fRC σ (B j52) 279) = opA A (xjS z j52) := o53.1.2.2.2.2.2.1
            intro w80 τ80 o80 q80
            obtain ⟨r80, rfl, hr80, rfl⟩ := q80 (N, E, A, B, V, z) ⟨_, rfl⟩
            rcases Int.lt_or_le (xjS z j52) 0 with hz80 | hz80
            · have rz80 : r80.toInt = 1 := by
                rcases hr80 with q9 | q9
                · exact q9.1
                · exact absurd (fun a9 q8 => by rw [f79, opA_n hz80] at q8; cases q8) q9.2
              try dsimp only [Option.toList, List.cons_append, List.nil_append, s1C, s2C, dlC, kyC, Nat.beq, lkC, rcd, rno, rsw]
              refine ⟨fun h81 => ?_, fun h81 => ?_⟩
              · have g81 := (neI (x := r80) (y := 0) h81 : ¬ (r80 : Int32).toInt = (0 : Int32).toInt)
                have z0_ : (0 : Int32).toInt = 0 := rfl
                refine hB _ _ _ _ _ (fun m82 hm82 => ?_)
                dsimp only [ucgo, ucwp, ucsC, uqC, uoC, ctC, rfd, KX3_judgeCase, KX3_judgeCase_0, KX3_judgeCase_10, KX3_judgeCase_11, KX3_judgeCase_21, KX3_judgeCase_38, KX3_judgeCase_42, KX3_judgeCase_43, KX3_judgeCase_50, KX3_judgeCase_55, KX3_judgeCase_61, KX3_judgeCase_71, KX3_judgeCase_82, KX3_judgeCase_93, KX3_judgeCase_112, KX3_judgeCase_114, KX3_judgeCase_124, KX3_judgeCase_128, KX3_judgeCase_144, lkC, s1C, s2C, dlC, kyC, Nat.beq, Nat.ble, rcd, rno, rsw, Nat.reduceAdd, Nat.reduceBEq, Nat.reduceDiv, List.drop, List.take, List.reverse, List.reverseAux, Int.toNat, Option.toList, List.append, List.cons_append, List.nil_append, zg62, zg68, zg70, zg71, zg121, zg270, zg275, zg276, zg279]
                intro a83 e83 ob83
                obtain rfl : B j52 = a83 := Option.some.inj ((h52.trans (congrArg some hb52)).symm.trans e83)
                have f84 : (fRC σ (B j52) 275) = opA B (njS z j52) := o53.1.2.1
                rw [f84]
                exact hW _ 50 [(0, .inr (.inr (some (E 3)))), (1, .inr (.inr (some p1))), (2, .inr (.inr (some p2))), (3, .inl fi), (4, .inr (.inr (opA B (njS z j52))))] _ _ _ (List.forall_mem_cons.2 ⟨List.Mem.tail _ (List.Mem.head _), List.forall_mem_cons.2 ⟨List.Mem.tail _ (List.Mem.tail _ (List.Mem.head _)), List.forall_mem_cons.2 ⟨List.Mem.tail _ (List.Mem.tail _ (List.Mem.tail _ (List.Mem.head _))), List.forall_mem_cons.2 ⟨List.Mem.tail _ (List.Mem.tail _ (List.Mem.tail _ (List.Mem.tail _ (List.Mem.head _)))), List.forall_mem_cons.2 ⟨List.Mem.head _, fun _ h => absurd h List.not_mem_nil⟩⟩⟩⟩⟩) (ih _ (by omega) fi (njS z j52) (don ++ [j52]) rem kc hkc hwc hlc (by have := (hwf j52 hl52).1; omega) (by rw [List.append_assoc]; exact h4) hru (h6.elim (fun q9 => Or.inl ⟨by omega, q9.2.1, fun u9 q8 => (List.mem_append.mp q8).elim (q9.2.2 u9) (fun q7 => by rw [List.mem_singleton.mp q7]; exact (fun q6 => by have := q6.2.1; omega))⟩) (fun q9 => Or.inr ⟨by omega, fun q8 => q9.2 ⟨q8.1, fun u9 q7 => q8.2 u9 (List.mem_append_left _ q7)⟩⟩)))
              · have g81 := (eqI (x := r80) (y := 0) h81 : (r80 : Int32).toInt = (0 : Int32).toInt)
                have z0_ : (0 : Int32).toInt = 0 := rfl
                exfalso
                omega
            · obtain ⟨kx80, hk80⟩ : ∃ k : Nat, xjS z j52 = (k : Int) := ⟨(xjS z j52).toNat, by omega⟩
              have hw_kx80 := (hwf j52 hl52).2.1 hz80
              rw [hk80, Int.toNat_natCast] at hw_kx80
              have hl80 : kx80 < xnM z := by omega
              have hv80 : (fRC σ (B j52) 279) = some (A kx80) := by rw [f79, hk80, opA_k]
              have o85 := hSs.2.1 kx80 hl80
              have rz80 : r80.toInt = 0 := by
                rcases hr80 with q9 | q9
                · exact absurd (o85.1.1.1.symm.trans (q9.2 _ hv80)) hw_kx80.2
                · exact q9.1
              try dsimp only [Option.toList, List.cons_append, List.nil_append, s1C, s2C, dlC, kyC, Nat.beq, lkC, rcd, rno, rsw]
              refine ⟨fun h86 => ?_, fun h86 => ?_⟩
              · have g86 := (neI (x := r80) (y := 0) h86 : ¬ (r80 : Int32).toInt = (0 : Int32).toInt)
                have z0_ : (0 : Int32).toInt = 0 := rfl
                exfalso
                omega
              · have g86 := (eqI (x := r80) (y := 0) h86 : (r80 : Int32).toInt = (0 : Int32).toInt)
                have z0_ : (0 : Int32).toInt = 0 := rfl
                refine hB _ _ _ _ _ (fun m87 hm87 => ?_)
                dsimp only [ucgo, ucwp, ucsC, uqC, uoC, ctC, rfd, KX3_judgeCase, KX3_judgeCase_0, KX3_judgeCase_10, KX3_judgeCase_11, KX3_judgeCase_21, KX3_judgeCase_38, KX3_judgeCase_42, KX3_judgeCase_43, KX3_judgeCase_50, KX3_judgeCase_55, KX3_judgeCase_61, KX3_judgeCase_71, KX3_judgeCase_82, KX3_judgeCase_93, KX3_judgeCase_112, KX3_judgeCase_114, KX3_judgeCase_124, KX3_judgeCase_128, KX3_judgeCase_144, lkC, s1C, s2C, dlC, kyC, Nat.beq, Nat.ble, rcd, rno, rsw, Nat.reduceAdd, Nat.reduceBEq, Nat.reduceDiv, List.drop, List.take, List.reverse, List.reverseAux, Int.toNat, Option.toList, List.append, List.cons_append, List.nil_append, zg62, zg68, zg70, zg71, zg121, zg270, zg275, zg276, zg279]
                intro a88 e88 ob88
                obtain rfl : B j52 = a88 := Option.some.inj ((h52.trans (congrArg some hb52)).symm.trans e88)
                have f89 : (fRC σ (B j52) 279) = some (A kx80) := by rw [show (fRC σ (B j52) 279) = opA A (xjS z j52) from o53.1.2.2.2.2.2.1, hk80, opA_k]
                intro a90 e90 ob90
                obtain rfl : A kx80 = a90 := Option.some.inj (f89.symm.trans e90)
                have f91 : (fIC σ (A kx80) 70).toInt = (T.1 kx80).2.1 := o85.1.1.2.1
                refine ⟨fun h92 => ?_, fun h92 => ?_⟩
                · have g92 := (eqI (x := (fIC σ (A kx80) 70)) (y := 0) h92 : ((fIC σ (A kx80) 70) : Int32).toInt = (0 : Int32).toInt)
                  have z0_ : (0 : Int32).toInt = 0 := rfl
                  refine hB _ _ _ _ _ (fun m93 hm93 => ?_)
                  dsimp only [ucgo, ucwp, ucsC, uqC, uoC, ctC, rfd, KX3_judgeCase, KX3_judgeCase_0, KX3_judgeCase_10, KX3_judgeCase_11, KX3_judgeCase_21, KX3_judgeCase_38, KX3_judgeCase_42, KX3_judgeCase_43, KX3_judgeCase_50, KX3_judgeCase_55, KX3_judgeCase_61, KX3_judgeCase_71, KX3_judgeCase_82, KX3_judgeCase_93, KX3_judgeCase_112, KX3_judgeCase_114, KX3_judgeCase_124, KX3_judgeCase_128, KX3_judgeCase_144, lkC, s1C, s2C, dlC, kyC, Nat.beq, Nat.ble, rcd, rno, rsw, Nat.reduceAdd, Nat.reduceBEq, Nat.reduceDiv, List.drop, List.take, List.reverse, List.reverseAux, Int.toNat, Option.toList, List.append, List.cons_append, List.nil_append, zg62, zg68, zg70, zg71, zg121, zg270, zg275, zg276, zg279]
                  intro a94 e94 ob94
                  obtain rfl : B j52 = a94 := Option.some.inj ((h52.trans (congrArg some hb52)).symm.trans e94)
                  have f95 : (fRC σ (B j52) 275) = opA B (njS z j52) := o53.1.2.1
                  rw [f95]
                  exact hW _ 50 [(0, .inr (.inr (some (E 3)))), (1, .inr (.inr (some p1))), (2, .inr (.inr (some p2))), (3, .inl fi), (4, .inr (.inr (opA B (njS z j52))))] _ _ _ (List.forall_mem_cons.2 ⟨List.Mem.tail _ (List.Mem.head _), List.forall_mem_cons.2 ⟨List.Mem.tail _ (List.Mem.tail _ (List.Mem.head _)), List.forall_mem_cons.2 ⟨List.Mem.tail _ (List.Mem.tail _ (List.Mem.tail _ (List.Mem.head _))), List.forall_mem_cons.2 ⟨List.Mem.tail _ (List.Mem.tail _ (List.Mem.tail _ (List.Mem.tail _ (List.Mem.head _)))), List.forall_mem_cons.2 ⟨List.Mem.head _, fun _ h => absurd h List.not_mem_nil⟩⟩⟩⟩⟩) (ih _ (by omega) fi (njS z j52) (don ++ [j52]) rem kc hkc hwc hlc (by have := (hwf j52 hl52).1; omega) (by rw [List.append_assoc]; exact h4) hru (h6.elim (fun q9 => Or.inl ⟨by omega, q9.2.1, fun u9 q8 => (List.mem_append.mp q8).elim (q9.2.2 u9) (fun q7 => by rw [List.mem_singleton.mp q7]; exact (fun q6 => by have q5 := q6.2.2.1; rw [hk80, Int.toNat_natCast] at q5; omega))⟩) (fun q9 => Or.inr ⟨by omega, fun q8 => q9.2 ⟨q8.1, fun u9 q7 => q8.2 u9 (List.mem_append_left _ q7)⟩⟩)))
                · have g92 := (neI (x := (fIC σ (A kx80) 70)) (y := 0) h92 : ¬ ((fIC σ (A kx80) 70) : Int32).toInt = (0 : Int32).toInt)
                  have z0_ : (0 : Int32).toInt = 0 := rfl
                  refine hB _ _ _ _ _ (fun m96 hm96 => ?_)
                  dsimp only [ucgo, ucwp, ucsC, uqC, uoC, ctC, rfd, KX3_judgeCase, KX3_judgeCase_0, KX3_judgeCase_10, KX3_judgeCase_11, KX3_judgeCase_21, KX3_judgeCase_38, KX3_judgeCase_42, KX3_judgeCase_43, KX3_judgeCase_50, KX3_judgeCase_55, KX3_judgeCase_61, KX3_judgeCase_71, KX3_judgeCase_82, KX3_judgeCase_93, KX3_judgeCase_112, KX3_judgeCase_114, KX3_judgeCase_124, KX3_judgeCase_128, KX3_judgeCase_144, lkC, s1C, s2C, dlC, kyC, Nat.beq, Nat.ble, rcd, rno, rsw, Nat.reduceAdd, Nat.reduceBEq, Nat.reduceDiv, List.drop, List.take, List.reverse, List.reverseAux, Int.toNat, Option.toList, List.append, List.cons_append, List.nil_append, zg62, zg68, zg70, zg71, zg121, zg270, zg275, zg276, zg279]
                  intro a97 e97 ob97
                  obtain rfl : B j52 = a97 := Option.some.inj ((h52.trans (congrArg some hb52)).symm.trans e97)
                  have f98 : (fRC σ (B j52) 279) = some (A kx80) := by rw [show (fRC σ (B j52) 279) = opA A (xjS z j52) from o53.1.2.2.2.2.2.1, hk80, opA_k]
                  intro a99 e99 ob99
                  obtain rfl : A kx80 = a99 := Option.some.inj (f98.symm.trans e99)
                  have f100 : (fLC σ (A kx80) 71) = (T.1 kx80).2.2.1 := o85.1.1.2.2
                  intro a101 e101 ob101
                  cases e101
                  have f102 : (fRC σ p2 279) = some (A kc) := by rw [show (fRC σ p2 279) = opA A (xjS z jc) from op2.1.2.2.2.2.2.1, hkc, opA_k]
                  intro a103 e103 ob103
                  obtain rfl : A kc = a103 := Option.some.inj (f102.symm.trans e103)
                  have f104 : (fLC σ (A kc) 71) = (T.1 kc).2.2.1 := okc.1.1.2.2
                  have lc105 : (lg_cmp (fLC σ (A kx80) 71) (fLC σ (A kc) 71)).toInt = 0 → (fLC σ (A kx80) 71) = (fLC σ (A kc) 71) := lcmpC
                  have ld105 : (fLC σ (A kx80) 71) = (fLC σ (A kc) 71) → (lg_cmp (fLC σ (A kx80) 71) (fLC σ (A kc) 71)).toInt = 0 := fun e => by rw [e]; exact lcmp0
                  refine ⟨fun h106 => ?_, fun h106 => ?_⟩
                  · have g106 := (neI (x := (lg_cmp (fLC σ (A kx80) 71) (fLC σ (A kc) 71))) (y := 0) h106 : ¬ ((lg_cmp (fLC σ (A kx80) 71) (fLC σ (A kc) 71)) : Int32).toInt = (0 : Int32).toInt)
                    have z0_ : (0 : Int32).toInt = 0 := rfl
                    refine hB _ _ _ _ _ (fun m107 hm107 => ?_)
                    dsimp only [ucgo, ucwp, ucsC, uqC, uoC, ctC, rfd, KX3_judgeCase, KX3_judgeCase_0, KX3_judgeCase_10, KX3_judgeCase_11, KX3_judgeCase_21, KX3_judgeCase_38, KX3_judgeCase_42, KX3_judgeCase_43, KX3_judgeCase_50, KX3_judgeCase_55, KX3_judgeCase_61, KX3_judgeCase_71, KX3_judgeCase_82, KX3_judgeCase_93, KX3_judgeCase_112, KX3_judgeCase_114, KX3_judgeCase_124, KX3_judgeCase_128, KX3_judgeCase_144, lkC, s1C, s2C, dlC, kyC, Nat.beq, Nat.ble, rcd, rno, rsw, Nat.reduceAdd, Nat.reduceBEq, Nat.reduceDiv, List.drop, List.take, List.reverse, List.reverseAux, Int.toNat, Option.toList, List.append, List.cons_append, List.nil_append, zg62, zg68, zg70, zg71, zg121, zg270, zg275, zg276, zg279]
                    intro a108 e108 ob108
                    obtain rfl : B j52 = a108 := Option.some.inj ((h52.trans (congrArg some hb52)).symm.trans e108)
                    have f109 : (fRC σ (B j52) 275) = opA B (njS z j52) := o53.1.2.1
                    rw [f109]
                    exact hW _ 50 [(0, .inr (.inr (some (E 3)))), (1, .inr (.inr (some p1))), (2, .inr (.inr (some p2))), (3, .inl fi), (4, .inr (.inr (opA B (njS z j52))))] _ _ _ (List.forall_mem_cons.2 ⟨List.Mem.tail _ (List.Mem.head _), List.forall_mem_cons.2 ⟨List.Mem.tail _ (List.Mem.tail _ (List.Mem.head _)), List.forall_mem_cons.2 ⟨List.Mem.tail _ (List.Mem.tail _ (List.Mem.tail _ (List.Mem.head _))), List.forall_mem_cons.2 ⟨List.Mem.tail _ (List.Mem.tail _ (List.Mem.tail _ (List.Mem.tail _ (List.Mem.head _)))), List.forall_mem_cons.2 ⟨List.Mem.head _, fun _ h => absurd h List.not_mem_nil⟩⟩⟩⟩⟩) (ih _ (by omega) fi (njS z j52) (don ++ [j52]) rem kc hkc hwc hlc (by have := (hwf j52 hl52).1; omega) (by rw [List.append_assoc]; exact h4) hru (h6.elim (fun q9 => Or.inl ⟨by omega, q9.2.1, fun u9 q8 => (List.mem_append.mp q8).elim (q9.2.2 u9) (fun q7 => by rw [List.mem_singleton.mp q7]; exact (fun q6 => by have q5 := q6.2.2.2; rw [hk80, Int.toNat_natCast] at q5; exact absurd (ld105 (f100.trans (q5.trans f104.symm))) (by omega)))⟩) (fun q9 => Or.inr ⟨by omega, fun q8 => q9.2 ⟨q8.1, fun u9 q7 => q8.2 u9 (List.mem_append_left _ q7)⟩⟩)))
                  · have g106 := (eqI (x := (lg_cmp (fLC σ (A kx80) 71) (fLC σ (A kc) 71))) (y := 0) h106 : ((lg_cmp (fLC σ (A kx80) 71) (fLC σ (A kc) 71)) : Int32).toInt = (0 : Int32).toInt)
                    have z0_ : (0 : Int32).toInt = 0 := rfl
                    refine hB _ _ _ _ _ (fun m110 hm110 => ?_)
                    dsimp only [ucgo, ucwp, ucsC, uqC, uoC, ctC, rfd, KX3_judgeCase, KX3_judgeCase_0, KX3_judgeCase_10, KX3_judgeCase_11, KX3_judgeCase_21, KX3_judgeCase_38, KX3_judgeCase_42, KX3_judgeCase_43, KX3_judgeCase_50, KX3_judgeCase_55, KX3_judgeCase_61, KX3_judgeCase_71, KX3_judgeCase_82, KX3_judgeCase_93, KX3_judgeCase_112, KX3_judgeCase_114, KX3_judgeCase_124, KX3_judgeCase_128, KX3_judgeCase_144, lkC, s1C, s2C, dlC, kyC, Nat.beq, Nat.ble, rcd, rno, rsw, Nat.reduceAdd, Nat.reduceBEq, Nat.reduceDiv, List.drop, List.take, List.reverse, List.reverseAux, Int.toNat, Option.toList, List.append, List.cons_append, List.nil_append, zg62, zg68, zg70, zg71, zg121, zg270, zg275, zg276, zg279]
                    have c111 : (Int32.ofInt 0).toInt = 0 := by decide
                    refine hB _ _ _ _ _ (fun m112 hm112 => ?_)
                    dsimp only [ucgo, ucwp, ucsC, uqC, uoC, ctC, rfd, KX3_judgeCase, KX3_judgeCase_0, KX3_judgeCase_10, KX3_judgeCase_11, KX3_judgeCase_21, KX3_judgeCase_38, KX3_judgeCase_42, KX3_judgeCase_43, KX3_judgeCase_50, KX3_judgeCase_55, KX3_judgeCase_61, KX3_judgeCase_71, KX3_judgeCase_82, KX3_judgeCase_93, KX3_judgeCase_112, KX3_judgeCase_114, KX3_judgeCase_124, KX3_judgeCase_128, KX3_judgeCase_144, lkC, s1C, s2C, dlC, kyC, Nat.beq, Nat.ble, rcd, rno, rsw, Nat.reduceAdd, Nat.reduceBEq, Nat.reduceDiv, List.drop, List.take, List.reverse, List.reverseAux, Int.toNat, Option.toList, List.append, List.cons_append, List.nil_append, zg62, zg68, zg70, zg71, zg121, zg270, zg275, zg276, zg279]
                    intro a113 e113 ob113
                    obtain rfl : B j52 = a113 := Option.some.inj ((h52.trans (congrArg some hb52)).symm.trans e113)
                    have f114 : (fRC σ (B j52) 275) = opA B (njS z j52) := o53.1.2.1
                    rw [f114]
                    exact hW _ 50 [(0, .inr (.inr (some (E 3)))), (1, .inr (.inr (some p1))), (2, .inr (.inr (some p2))), (3, .inl (Int32.ofInt 0)), (4, .inr (.inr (opA B (njS z j52))))] _ _ _ (List.forall_mem_cons.2 ⟨List.Mem.tail _ (List.Mem.tail _ (List.Mem.head _)), List.forall_mem_cons.2 ⟨List.Mem.tail _ (List.Mem.tail _ (List.Mem.tail _ (List.Mem.head _))), List.forall_mem_cons.2 ⟨List.Mem.tail _ (List.Mem.tail _ (List.Mem.tail _ (List.Mem.tail _ (List.Mem.head _)))), List.forall_mem_cons.2 ⟨List.Mem.tail _ (List.Mem.head _), List.forall_mem_cons.2 ⟨List.Mem.head _, fun _ h => absurd h List.not_mem_nil⟩⟩⟩⟩⟩) (ih _ (by omega) (Int32.ofInt 0) (njS z j52) (don ++ [j52]) rem kc hkc hwc hlc (by have := (hwf j52 hl52).1; omega) (by rw [List.append_assoc]; exact h4) hru (Or.inr ⟨by omega, fun q9 => q9.2 j52 (List.mem_append_right _ (List.mem_singleton.mpr rfl)) ⟨by omega, by omega, by rw [hk80, Int.toNat_natCast]; omega, by rw [hk80, Int.toNat_natCast]; exact (f100.symm.trans ((lc105 (by omega)).trans f104))⟩⟩))
  change K n_ 0 [(0, .inr (.inr (some (E 3)))), (1, .inr (.inr (some p1))), (2, .inr (.inr (some p2)))] [] σ
  refine hB _ _ _ _ _ (fun m115 hm115 => ?_)
  dsimp only [ucgo, ucwp, ucsC, uqC, uoC, ctC, rfd, KX3_judgeCase, KX3_judgeCase_0, KX3_judgeCase_10, KX3_judgeCase_11, KX3_judgeCase_21, KX3_judgeCase_38, KX3_judgeCase_42, KX3_judgeCase_43, KX3_judgeCase_50, KX3_judgeCase_55, KX3_judgeCase_61, KX3_judgeCase_71, KX3_judgeCase_82, KX3_judgeCase_93, KX3_judgeCase_112, KX3_judgeCase_114, KX3_judgeCase_124, KX3_judgeCase_128, KX3_judgeCase_144, lkC, s1C, s2C, dlC, kyC, Nat.beq, Nat.ble, rcd, rno, rsw, Nat.reduceAdd, Nat.reduceBEq, Nat.reduceDiv, List.drop, List.take, List.reverse, List.reverseAux, Int.toNat, Option.toList, List.append, List.cons_append, List.nil_append, zg62, zg68, zg70, zg71, zg121, zg270, zg275, zg276, zg279]
  intro a116 e116 ob116
  cases e116
  have f117 : (fRC σ p2 279) = opA A (xjS z jc) := op2.1.2.2.2.2.2.1
  intro w118 τ118 o118 q118
  obtain ⟨r118, rfl, hr118, rfl⟩ := q118 (N, E, A, B, V, z) ⟨_, rfl⟩
  rcases Int.lt_or_le (xjS z jc) 0 with hz118 | hz118
  · have rz118 : r118.toInt = 1 := by
      rcases hr118 with q9 | q9
      · exact q9.1
      · exact absurd (fun a9 q8 => by rw [f117, opA_n hz118] at q8; cases q8) q9.2
    try dsimp only [Option.toList, List.cons_append, List.nil_append, s1C, s2C, dlC, kyC, Nat.beq, lkC, rcd, rno, rsw]
    refine ⟨fun h119 => ?_, fun h119 => ?_⟩
    · have g119 := (eqI (x := r118) (y := 0) h119 : (r118 : Int32).toInt = (0 : Int32).toInt)
      have z0_ : (0 : Int32).toInt = 0 := rfl
      exfalso
      omega
    · have g119 := (neI (x := r118) (y := 0) h119 : ¬ (r118 : Int32).toInt = (0 : Int32).toInt)
      have z0_ : (0 : Int32).toInt = 0 := rfl
      refine hB _ _ _ _ _ (fun m120 hm120 => ?_)
      dsimp only [ucgo, ucwp, ucsC, uqC, uoC, ctC, rfd, KX3_judgeCase, KX3_judgeCase_0, KX3_judgeCase_10, KX3_judgeCase_11, KX3_judgeCase_21, KX3_judgeCase_38, KX3_judgeCase_42, KX3_judgeCase_43, KX3_judgeCase_50, KX3_judgeCase_55, KX3_judgeCase_61, KX3_judgeCase_71, KX3_judgeCase_82, KX3_judgeCase_93, KX3_judgeCase_112, KX3_judgeCase_114, KX3_judgeCase_124, KX3_judgeCase_128, KX3_judgeCase_144, lkC, s1C, s2C, dlC, kyC, Nat.beq, Nat.ble, rcd, rno, rsw, Nat.reduceAdd, Nat.reduceBEq, Nat.reduceDiv, List.drop, List.take, List.reverse, List.reverseAux, Int.toNat, Option.toList, List.append, List.cons_append, List.nil_append, zg62, zg68, zg70, zg71, zg121, zg270, zg275, zg276, zg279]
      try dsimp only [Qz_judgeCase]
      exact fun τ9 h9 => ⟨rfl, (er_we h9).trans (iff_e (fun q9 => by omega)).symm⟩
  · obtain ⟨kx118, hk118⟩ : ∃ k : Nat, xjS z jc = (k : Int) := ⟨(xjS z jc).toNat, by omega⟩
    have hw_kx118 := (hwf jc hjc).2.1 hz118
    rw [hk118, Int.toNat_natCast] at hw_kx118
    have hl118 : kx118 < xnM z := by omega
    have hv118 : (fRC σ p2 279) = some (A kx118) := by rw [f117, hk118, opA_k]
    have o121 := hSs.2.1 kx118 hl118
    have rz118 : r118.toInt = 0 := by
      rcases hr118 with q9 | q9
      · exact absurd (o121.1.1.1.symm.trans (q9.2 _ hv118)) hw_kx118.2
      · exact q9.1
    try dsimp only [Option.toList, List.cons_append, List.nil_append, s1C, s2C, dlC, kyC, Nat.beq, lkC, rcd, rno, rsw]
    refine ⟨fun h122 => ?_, fun h122 => ?_⟩
    · have g122 := (eqI (x := r118) (y := 0) h122 : (r118 : Int32).toInt = (0 : Int32).toInt)
      have z0_ : (0 : Int32).toInt = 0 := rfl
      refine hB _ _ _ _ _ (fun m123 hm123 => ?_)
      dsimp only [ucgo, ucwp, ucsC, uqC, uoC, ctC, rfd, KX3_judgeCase, KX3_judgeCase_0, KX3_judgeCase_10, KX3_judgeCase_11, KX3_judgeCase_21, KX3_judgeCase_38, KX3_judgeCase_42, KX3_judgeCase_43, KX3_judgeCase_50, KX3_judgeCase_55, KX3_judgeCase_61, KX3_judgeCase_71, KX3_judgeCase_82, KX3_judgeCase_93, KX3_judgeCase_112, KX3_judgeCase_114, KX3_judgeCase_124, KX3_judgeCase_128, KX3_judgeCase_144, lkC, s1C, s2C, dlC, kyC, Nat.beq, Nat.ble, rcd, rno, rsw, Nat.reduceAdd, Nat.reduceBEq, Nat.reduceDiv, List.drop, List.take, List.reverse, List.reverseAux, Int.toNat, Option.toList, List.append, List.cons_append, List.nil_append, zg62, zg68, zg70, zg71, zg121, zg270, zg275, zg276, zg279]
      intro a124 e124 ob124
      cases e124
      have f125 : (fRC σ p2 279) = some (A kx118) := by rw [show (fRC σ p2 279) = opA A (xjS z jc) from op2.1.2.2.2.2.2.1, hk118, opA_k]
      intro a126 e126 ob126
      obtain rfl : A kx118 = a126 := Option.some.inj (f125.symm.trans e126)
      have f127 : (fIC σ (A kx118) 70).toInt = (T.1 kx118).2.1 := o121.1.1.2.1
      refine ⟨fun h128 => ?_, fun h128 => ?_⟩
      · have g128 := (eqI (x := (fIC σ (A kx118) 70)) (y := 0) h128 : ((fIC σ (A kx118) 70) : Int32).toInt = (0 : Int32).toInt)
        have z0_ : (0 : Int32).toInt = 0 := rfl
        refine hB _ _ _ _ _ (fun m129 hm129 => ?_)
        dsimp only [ucgo, ucwp, ucsC, uqC, uoC, ctC, rfd, KX3_judgeCase, KX3_judgeCase_0, KX3_judgeCase_10, KX3_judgeCase_11, KX3_judgeCase_21, KX3_judgeCase_38, KX3_judgeCase_42, KX3_judgeCase_43, KX3_judgeCase_50, KX3_judgeCase_55, KX3_judgeCase_61, KX3_judgeCase_71, KX3_judgeCase_82, KX3_judgeCase_93, KX3_judgeCase_112, KX3_judgeCase_114, KX3_judgeCase_124, KX3_judgeCase_128, KX3_judgeCase_144, lkC, s1C, s2C, dlC, kyC, Nat.beq, Nat.ble, rcd, rno, rsw, Nat.reduceAdd, Nat.reduceBEq, Nat.reduceDiv, List.drop, List.take, List.reverse, List.reverseAux, Int.toNat, Option.toList, List.append, List.cons_append, List.nil_append, zg62, zg68, zg70, zg71, zg121, zg270, zg275, zg276, zg279]
        have c130 : (Int32.ofInt 0).toInt = 0 := by decide
        refine hB _ _ _ _ _ (fun m131 hm131 => ?_)
        dsimp only [ucgo, ucwp, ucsC, uqC, uoC, ctC, rfd, KX3_judgeCase, KX3_judgeCase_0, KX3_judgeCase_10, KX3_judgeCase_11, KX3_judgeCase_21, KX3_judgeCase_38, KX3_judgeCase_42, KX3_judgeCase_43, KX3_judgeCase_50, KX3_judgeCase_55, KX3_judgeCase_61, KX3_judgeCase_71, KX3_judgeCase_82, KX3_judgeCase_93, KX3_judgeCase_112, KX3_judgeCase_114, KX3_judgeCase_124, KX3_judgeCase_128, KX3_judgeCase_144, lkC, s1C, s2C, dlC, kyC, Nat.beq, Nat.ble, rcd, rno, rsw, Nat.reduceAdd, Nat.reduceBEq, Nat.reduceDiv, List.drop, List.take, List.reverse, List.reverseAux, Int.toNat, Option.toList, List.append, List.cons_append, List.nil_append, zg62, zg68, zg70, zg71, zg121, zg270, zg275, zg276, zg279]
        intro a132 e132 ob132
        cases e132
        have f133 : (fRC σ p1 276) = opA B (bjS z j) := op.1.2.2.1
        rw [f133]
        exact hW _ 50 [(0, .inr (.inr (some (E 3)))), (1, .inr (.inr (some p1))), (2, .inr (.inr (some p2))), (3, .inl (Int32.ofInt 0)), (4, .inr (.inr (opA B (bjS z j))))] _ _ _ (List.forall_mem_cons.2 ⟨List.Mem.tail _ (List.Mem.tail _ (List.Mem.head _)), List.forall_mem_cons.2 ⟨List.Mem.tail _ (List.Mem.tail _ (List.Mem.tail _ (List.Mem.head _))), List.forall_mem_cons.2 ⟨List.Mem.tail _ (List.Mem.tail _ (List.Mem.tail _ (List.Mem.tail _ (List.Mem.head _)))), List.forall_mem_cons.2 ⟨List.Mem.tail _ (List.Mem.head _), List.forall_mem_cons.2 ⟨List.Mem.head _, fun _ h => absurd h List.not_mem_nil⟩⟩⟩⟩⟩) (L50 _ (Int32.ofInt 0) (bjS z j) [] ahd kx118 hk118 hw_kx118 hl118 (by have := (hwf j hj).1; omega) rfl hrow (Or.inr ⟨by omega, fun q9 => by first | (exact absurd q9.1.1 (by omega)) | exact absurd q9.1.2 (by rcases hr0 with q8 | q8; omega; exact q8.2)⟩))
      · have g128 := (neI (x := (fIC σ (A kx118) 70)) (y := 0) h128 : ¬ ((fIC σ (A kx118) 70) : Int32).toInt = (0 : Int32).toInt)
        have z0_ : (0 : Int32).toInt = 0 := rfl
        refine hB _ _ _ _ _ (fun m134 hm134 => ?_)
        dsimp only [ucgo, ucwp, ucsC, uqC, uoC, ctC, rfd, KX3_judgeCase, KX3_judgeCase_0, KX3_judgeCase_10, KX3_judgeCase_11, KX3_judgeCase_21, KX3_judgeCase_38, KX3_judgeCase_42, KX3_judgeCase_43, KX3_judgeCase_50, KX3_judgeCase_55, KX3_judgeCase_61, KX3_judgeCase_71, KX3_judgeCase_82, KX3_judgeCase_93, KX3_judgeCase_112, KX3_judgeCase_114, KX3_judgeCase_124, KX3_judgeCase_128, KX3_judgeCase_144, lkC, s1C, s2C, dlC, kyC, Nat.beq, Nat.ble, rcd, rno, rsw, Nat.reduceAdd, Nat.reduceBEq, Nat.reduceDiv, List.drop, List.take, List.reverse, List.reverseAux, Int.toNat, Option.toList, List.append, List.cons_append, List.nil_append, zg62, zg68, zg70, zg71, zg121, zg270, zg275, zg276, zg279]
        intro a135 e135 ob135
        cases e135
        have f136 : (fRC σ p2 279) = some (A kx118) := by rw [show (fRC σ p2 279) = opA A (xjS z jc) from op2.1.2.2.2.2.2.1, hk118, opA_k]
        intro a137 e137 ob137
        cases e137
        have f138 : (fRC σ p1 279) = some (A kj) := by rw [show (fRC σ p1 279) = opA A (xjS z j) from op.1.2.2.2.2.2.1, hkj, opA_k]
        intro a139 e139 ob139
        obtain rfl : A kj = a139 := Option.some.inj (f138.symm.trans e139)
        have f140 : (fIC σ (A kj) 68).toInt = (T.1 kj).1 := okj.1.1.1
        intro w141 τ141 o141 q141
        rw [f136] at q141 o141
        obtain ⟨r141, rfl, hr141, rfl⟩ := q141 (N, E, A, B, V, z) ⟨_, _, rfl⟩
        rw [show ((fIC σ (A kj) 68) : Int32).toInt = (T.1 kj).1 by omega, ft_c (a := tvC σ (A kx118)) (b := T.1 kx118) o121.1.1.1 o121.1.1.2.1 o121.1.1.2.2 _] at hr141
        have hr141 : (r141.toInt = 1 ∧ FtD (T.1 kx118) (T.1 kj).1) ∨ (r141.toInt = 0 ∧ ¬ FtD (T.1 kx118) (T.1 kj).1) := hr141
        try dsimp only [Option.toList, List.cons_append, List.nil_append, s1C, s2C, dlC, kyC, Nat.beq, lkC, rcd, rno, rsw]
        refine ⟨fun h142 => ?_, fun h142 => ?_⟩
        · have g142 := (eqI (x := r141) (y := 0) h142 : (r141 : Int32).toInt = (0 : Int32).toInt)
          have z0_ : (0 : Int32).toInt = 0 := rfl
          refine hB _ _ _ _ _ (fun m143 hm143 => ?_)
          dsimp only [ucgo, ucwp, ucsC, uqC, uoC, ctC, rfd, KX3_judgeCase, KX3_judgeCase_0, KX3_judgeCase_10, KX3_judgeCase_11, KX3_judgeCase_21, KX3_judgeCase_38, KX3_judgeCase_42, KX3_judgeCase_43, KX3_judgeCase_50, KX3_judgeCase_55, KX3_judgeCase_61, KX3_judgeCase_71, KX3_judgeCase_82, KX3_judgeCase_93, KX3_judgeCase_112, KX3_judgeCase_114, KX3_judgeCase_124, KX3_judgeCase_128, KX3_judgeCase_144, lkC, s1C, s2C, dlC, kyC, Nat.beq, Nat.ble, rcd, rno, rsw, Nat.reduceAdd, Nat.reduceBEq, Nat.reduceDiv, List.drop, List.take, List.reverse, List.reverseAux, Int.toNat, Option.toList, List.append, List.cons_append, List.nil_append, zg62, zg68, zg70, zg71, zg121, zg270, zg275, zg276, zg279]
          have c144 : (Int32.ofInt 0).toInt = 0 := by decide
          refine hB _ _ _ _ _ (fun m145 hm145 => ?_)
          dsimp only [ucgo, ucwp, ucsC, uqC, uoC, ctC, rfd, KX3_judgeCase, KX3_judgeCase_0, KX3_judgeCase_10, KX3_judgeCase_11, KX3_judgeCase_21, KX3_judgeCase_38, KX3_judgeCase_42, KX3_judgeCase_43, KX3_judgeCase_50, KX3_judgeCase_55, KX3_judgeCase_61, KX3_judgeCase_71, KX3_judgeCase_82, KX3_judgeCase_93, KX3_judgeCase_112, KX3_judgeCase_114, KX3_judgeCase_124, KX3_judgeCase_128, KX3_judgeCase_144, lkC, s1C, s2C, dlC, kyC, Nat.beq, Nat.ble, rcd, rno, rsw, Nat.reduceAdd, Nat.reduceBEq, Nat.reduceDiv, List.drop, List.take, List.reverse, List.reverseAux, Int.toNat, Option.toList, List.append, List.cons_append, List.nil_append, zg62, zg68, zg70, zg71, zg121, zg270, zg275, zg276, zg279]
          intro a146 e146 ob146
          cases e146
          have f147 : (fRC σ p1 276) = opA B (bjS z j) := op.1.2.2.1
          rw [f147]
          exact hW _ 50 [(0, .inr (.inr (some (E 3)))), (1, .inr (.inr (some p1))), (2, .inr (.inr (some p2))), (3, .inl (Int32.ofInt 0)), (4, .inr (.inr (opA B (bjS z j))))] _ _ _ (List.forall_mem_cons.2 ⟨List.Mem.tail _ (List.Mem.tail _ (List.Mem.head _)), List.forall_mem_cons.2 ⟨List.Mem.tail _ (List.Mem.tail _ (List.Mem.tail _ (List.Mem.head _))), List.forall_mem_cons.2 ⟨List.Mem.tail _ (List.Mem.tail _ (List.Mem.tail _ (List.Mem.tail _ (List.Mem.head _)))), List.forall_mem_cons.2 ⟨List.Mem.tail _ (List.Mem.head _), List.forall_mem_cons.2 ⟨List.Mem.head _, fun _ h => absurd h List.not_mem_nil⟩⟩⟩⟩⟩) (L50 _ (Int32.ofInt 0) (bjS z j) [] ahd kx118 hk118 hw_kx118 hl118 (by have := (hwf j hj).1; omega) rfl hrow (Or.inr ⟨by omega, fun q9 => by first | (exact absurd q9.1.1 (by omega)) | exact absurd q9.1.2 (by rcases hr141 with q8 | q8; omega; exact q8.2)⟩))
        · have g142 := (neI (x := r141) (y := 0) h142 : ¬ (r141 : Int32).toInt = (0 : Int32).toInt)
          have z0_ : (0 : Int32).toInt = 0 := rfl
          refine hB _ _ _ _ _ (fun m148 hm148 => ?_)
          dsimp only [ucgo, ucwp, ucsC, uqC, uoC, ctC, rfd, KX3_judgeCase, KX3_judgeCase_0, KX3_judgeCase_10, KX3_judgeCase_11, KX3_judgeCase_21, KX3_judgeCase_38, KX3_judgeCase_42, KX3_judgeCase_43, KX3_judgeCase_50, KX3_judgeCase_55, KX3_judgeCase_61, KX3_judgeCase_71, KX3_judgeCase_82, KX3_judgeCase_93, KX3_judgeCase_112, KX3_judgeCase_114, KX3_judgeCase_124, KX3_judgeCase_128, KX3_judgeCase_144, lkC, s1C, s2C, dlC, kyC, Nat.beq, Nat.ble, rcd, rno, rsw, Nat.reduceAdd, Nat.reduceBEq, Nat.reduceDiv, List.drop, List.take, List.reverse, List.reverseAux, Int.toNat, Option.toList, List.append, List.cons_append, List.nil_append, zg62, zg68, zg70, zg71, zg121, zg270, zg275, zg276, zg279]
          have c149 : (Int32.ofInt 1).toInt = 1 := by decide
          refine hB _ _ _ _ _ (fun m150 hm150 => ?_)
          dsimp only [ucgo, ucwp, ucsC, uqC, uoC, ctC, rfd, KX3_judgeCase, KX3_judgeCase_0, KX3_judgeCase_10, KX3_judgeCase_11, KX3_judgeCase_21, KX3_judgeCase_38, KX3_judgeCase_42, KX3_judgeCase_43, KX3_judgeCase_50, KX3_judgeCase_55, KX3_judgeCase_61, KX3_judgeCase_71, KX3_judgeCase_82, KX3_judgeCase_93, KX3_judgeCase_112, KX3_judgeCase_114, KX3_judgeCase_124, KX3_judgeCase_128, KX3_judgeCase_144, lkC, s1C, s2C, dlC, kyC, Nat.beq, Nat.ble, rcd, rno, rsw, Nat.reduceAdd, Nat.reduceBEq, Nat.reduceDiv, List.drop, List.take, List.reverse, List.reverseAux, Int.toNat, Option.toList, List.append, List.cons_append, List.nil_append, zg62, zg68, zg70, zg71, zg121, zg270, zg275, zg276, zg279]
          intro a151 e151 ob151
          cases e151
          have f152 : (fRC σ p1 276) = opA B (bjS z j) := op.1.2.2.1
          rw [f152]
          exact hW _ 50 [(0, .inr (.inr (some (E 3)))), (1, .inr (.inr (some p1))), (2, .inr (.inr (some p2))), (3, .inl (Int32.ofInt 1)), (4, .inr (.inr (opA B (bjS z j))))] _ _ _ (List.forall_mem_cons.2 ⟨List.Mem.tail _ (List.Mem.tail _ (List.Mem.head _)), List.forall_mem_cons.2 ⟨List.Mem.tail _ (List.Mem.tail _ (List.Mem.tail _ (List.Mem.head _))), List.forall_mem_cons.2 ⟨List.Mem.tail _ (List.Mem.tail _ (List.Mem.tail _ (List.Mem.tail _ (List.Mem.head _)))), List.forall_mem_cons.2 ⟨List.Mem.tail _ (List.Mem.head _), List.forall_mem_cons.2 ⟨List.Mem.head _, fun _ h => absurd h List.not_mem_nil⟩⟩⟩⟩⟩) (L50 _ (Int32.ofInt 1) (bjS z j) [] ahd kx118 hk118 hw_kx118 hl118 (by have := (hwf j hj).1; omega) rfl hrow (Or.inl ⟨by omega, ⟨by omega, by rcases hr141 with q8 | q8; exact q8.2; exact absurd q8.1 (by omega)⟩, fun _ q9 => absurd q9 List.not_mem_nil⟩))
    · have g122 := (neI (x := r118) (y := 0) h122 : ¬ (r118 : Int32).toInt = (0 : Int32).toInt)
      have z0_ : (0 : Int32).toInt = 0 := rfl
      exfalso
      omega
theorem wz_judgeCase : ∀ (L : Nat) (As : List AvC) (σ : CsC) (w : Option AvC) (τ : CsC), EvF L 82 As σ w τ → Uz_judgeCase As σ w τ := by
  intro L
  cases L with
  | zero => exact fun _ _ _ _ h => h.elim
  | succ L => exact fun As σ w τ h y hy => EvF.us (cs := [52, 75, 118]) (pz_judgeCase y) rfl (List.forall_mem_cons.2 ⟨wz_isFaulty L, List.forall_mem_cons.2 ⟨wz_fits L, List.forall_mem_cons.2 ⟨wz_tell L, fun _ h => absurd h List.not_mem_nil⟩⟩⟩) h hy
abbrev Pz_judgeSwitch : ((Int → Int) × (Nat → Nat) × (Nat → Nat) × (Nat → Nat) × (Nat → Nat) × ZS × TbT × MfT × Nat × Nat × List Nat) → CpC := fun y As σ => match y with
  | (N, E, A, B, V, z, T, ms, nm, j, l0) => ∃ (p1 : Nat), As = [.inr (.inr (some (E 3))), .inr (.inr (some p1))] ∧ (SsC E A B σ z T ms nm) ∧ (NmC N E σ) ∧ (WfS z T) ∧ (j < snM z) ∧ (p1 = B j) ∧ (BiC B z) ∧ (RwZ z (bjS z j) l0) ∧ (l0.Nodup)
abbrev Qz_judgeSwitch : ((Int → Int) × (Nat → Nat) × (Nat → Nat) × (Nat → Nat) × (Nat → Nat) × ZS × TbT × MfT × Nat × Nat × List Nat) → CqC := fun y As σ w τ => match y, As with
  | (N, E, A, B, V, z, T, ms, nm, j, l0), [_, .inr (.inr (some p1))] => w = none ∧ (erC E τ ↔ erC E σ ∨ ¬ swP z T j)
  | _, _ => True
abbrev Uz_judgeSwitch : CqC := fun As σ w τ => ∀ y, Pz_judgeSwitch y As σ → Qz_judgeSwitch y As σ w τ
set_option maxHeartbeats 4000000 in
theorem pz_judgeSwitch (y : (Int → Int) × (Nat → Nat) × (Nat → Nat) × (Nat → Nat) × (Nat → Nat) × ZS × TbT × MfT × Nat × Nat × List Nat) : PbC KX3_judgeSwitch [(52, TrP, EqC 52), (62, TrP, EqC 62), (82, TrP, EqC 82), (118, TrP, EqC 118)] [(52, Uz_isFaulty), (62, Uz_isWanted), (82, Uz_judgeCase), (118, Uz_tell)] (fun As σ => Pz_judgeSwitch y As σ ∧ cnC σ ≤ 1000000 ∧ ∃ w τ, uqC quL 81 As σ w τ) (Qz_judgeSwitch y) := by
  obtain ⟨N, E, A, B, V, z, T, ms, nm, j, l0⟩ := y
  rintro As σ ⟨⟨p1, rfl, hSs, hNm, hwf, hj, hp, hBi, hrow, hnd⟩, hcn, _, _, hQ⟩ K hB hW n_
  have op : SlC A B σ z j p1 ∧ p1 < cnC σ := by rw [hp]; exact hSs.1 j hj
  have L59 : ∀ (n : Nat) (s0 : CsC) (ty : Int32) (df : Int32) (kj : Nat) (x9 : Int) (ahd : List Nat) (rem : List Nat), (xjS z j = (kj : Int)) → ((kj : Int) < (xnM z : Int) ∧ ¬ (T.1 kj).1 = -1) → (kj < xnM z) → (FrE [217, 218] σ s0) → (x9 < (snM z : Int)) → (l0 = ahd ++ rem) → (RwZ z x9 rem) → (dfH z df.toInt ahd) → ((1 ≤ (T.1 kj).1 ∧ (T.1 kj).1 ≤ 3) ∨ erC E s0) → ((erC E σ ∨ ¬ swQ z T kj l0) ↔ (erC E s0 ∨ ¬ ((1 ≤ (T.1 kj).1 ∧ (T.1 kj).1 ≤ 3) ∧ swT' z T (T.1 kj).1 ahd rem))) →  K n 59 [(0, .inr (.inr (some (E 3)))), (1, .inr (.inr (some p1))), (2, .inl ty), (3, .inl df), (4, .inr (.inr (opA B x9)))] [] s0 := by
    intro n
    induction n using Nat.strongRecOn with
    | _ n ih =>
      intro s0 ty df kj x9 ahd rem hkj hw_kj hlkj hF0 hx9 h4 h5 h5d hq h6
      have hSs_0 := SsC.fr hSs hF0 rfl
      have hNm_0 := NmC.fr hNm hF0 rfl
      have op_0 : SlC A B s0 z j p1 ∧ p1 < cnC s0 := by rw [hp]; exact hSs_0.1 j hj
      have okj_0 := hSs_0.2.1 kj hlkj
      refine hB _ _ _ _ _ (fun m51 hm51 => ?_)
      dsimp only [ucgo, ucwp, ucsC, uqC, uoC, ctC, rfd, KX3_judgeSwitch, KX3_judgeSwitch_0, KX3_judgeSwitch_10, KX3_judgeSwitch_11, KX3_judgeSwitch_25, KX3_judgeSwitch_30, KX3_judgeSwitch_35, KX3_judgeSwitch_39, KX3_judgeSwitch_40, KX3_judgeSwitch_59, KX3_judgeSwitch_64, KX3_judgeSwitch_74, KX3_judgeSwitch_84, KX3_judgeSwitch_94, KX3_judgeSwitch_98, KX3_judgeSwitch_112, KX3_judgeSwitch_114, KX3_judgeSwitch_124, lkC, s1C, s2C, dlC, kyC, Nat.beq, Nat.ble, rcd, rno, rsw, Nat.reduceAdd, Nat.reduceBEq, Nat.reduceDiv, List.drop, List.take, List.reverse, List.reverseAux, Int.toNat, Option.toList, List.append, List.cons_append, List.nil_append, zg62, zg68, zg121, zg270, zg271, zg275, zg276, zg279]
      refine ⟨fun h52 => ?_, fun b52 h52 => ?_⟩
      · have hx52 := opA_nn ((Eq.refl (opA B x9)).symm.trans h52)
        obtain rfl : rem = [] := by
          cases rem with
          | nil => rfl
          | cons a9 l9 => exact absurd h5.1 (by omega)
        refine hB _ _ _ _ _ (fun m53 hm53 => ?_)
        dsimp only [ucgo, ucwp, ucsC, uqC, uoC, ctC, rfd, KX3_judgeSwitch, KX3_judgeSwitch_0, KX3_judgeSwitch_10, KX3_judgeSwitch_11, KX3_judgeSwitch_25, KX3_judgeSwitch_30, KX3_judgeSwitch_35, KX3_judgeSwitch_39, KX3_judgeSwitch_40, KX3_judgeSwitch_59, KX3_judgeSwitch_64, KX3_judgeSwitch_74, KX3_judgeSwitch_84, KX3_judgeSwitch_94, KX3_judgeSwitch_98, KX3_judgeSwitch_112, KX3_judgeSwitch_114, KX3_judgeSwitch_124, lkC, s1C, s2C, dlC, kyC, Nat.beq, Nat.ble, rcd, rno, rsw, Nat.reduceAdd, Nat.reduceBEq, Nat.reduceDiv, List.drop, List.take, List.reverse, List.reverseAux, Int.toNat, Option.toList, List.append, List.cons_append, List.nil_append, zg62, zg68, zg121, zg270, zg271, zg275, zg276, zg279]
        try dsimp only [Qz_judgeSwitch]
        exact fun τ9 h9 => ⟨rfl, (er_we h9).trans (((or_congr Iff.rfl (not_congr (sw_p hkj hrow))).trans h6).trans ⟨fun q9 => q9.elim id (fun q8 => hq.elim (fun q7 => absurd ⟨q7, trivial⟩ q8) id), Or.inl⟩).symm⟩
      · obtain ⟨j52, hj52, hb52⟩ := opA_j ((Eq.refl (opA B x9)).symm.trans h52)
        have hl52 : j52 < snM z := by omega
        have o54_0 := hSs_0.1 j52 hl52
        obtain ⟨rem, rfl⟩ : ∃ l9, rem = j52 :: l9 := by
          cases rem with
          | nil => exact absurd (show x9 < 0 from h5) (by omega)
          | cons a9 l9 => exact ⟨l9, by rw [show a9 = j52 by have q9 := h5.1; omega]⟩
        have hru := h5.2.2
        refine hB _ _ _ _ _ (fun m55 hm55 => ?_)
        dsimp only [ucgo, ucwp, ucsC, uqC, uoC, ctC, rfd, KX3_judgeSwitch, KX3_judgeSwitch_0, KX3_judgeSwitch_10, KX3_judgeSwitch_11, KX3_judgeSwitch_25, KX3_judgeSwitch_30, KX3_judgeSwitch_35, KX3_judgeSwitch_39, KX3_judgeSwitch_40, KX3_judgeSwitch_59, KX3_judgeSwitch_64, KX3_judgeSwitch_74, KX3_judgeSwitch_84, KX3_judgeSwitch_94, KX3_judgeSwitch_98, KX3_judgeSwitch_112, KX3_judgeSwitch_114, KX3_judgeSwitch_124, lkC, s1C, s2C, dlC, kyC, Nat.beq, Nat.ble, rcd, rno, rsw, Nat.reduceAdd, Nat.reduceBEq, Nat.reduceDiv, List.drop, List.take, List.reverse, List.reverseAux, Int.toNat, Option.toList, List.append, List.cons_append, List.nil_append, zg62, zg68, zg121, zg270, zg271, zg275, zg276, zg279]
        intro a56 e56 ob56
        obtain rfl : B j52 = a56 := Option.some.inj ((h52.trans (congrArg some hb52)).symm.trans e56)
        have f57 : (fIC s0 (B j52) 270).toInt = kjS z j52 := o54_0.1.1.1
        have c58 : (Int32.ofInt 62).toInt = 62 := by decide
        refine ⟨fun h59 => ?_, fun h59 => ?_⟩
        · have g59 := (neI (x := (fIC s0 (B j52) 270)) (y := (Int32.ofInt 62)) h59 : ¬ ((fIC s0 (B j52) 270) : Int32).toInt = ((Int32.ofInt 62) : Int32).toInt)
          refine hB _ _ _ _ _ (fun m60 hm60 => ?_)
          dsimp only [ucgo, ucwp, ucsC, uqC, uoC, ctC, rfd, KX3_judgeSwitch, KX3_judgeSwitch_0, KX3_judgeSwitch_10, KX3_judgeSwitch_11, KX3_judgeSwitch_25, KX3_judgeSwitch_30, KX3_judgeSwitch_35, KX3_judgeSwitch_39, KX3_judgeSwitch_40, KX3_judgeSwitch_59, KX3_judgeSwitch_64, KX3_judgeSwitch_74, KX3_judgeSwitch_84, KX3_judgeSwitch_94, KX3_judgeSwitch_98, KX3_judgeSwitch_112, KX3_judgeSwitch_114, KX3_judgeSwitch_124, lkC, s1C, s2C, dlC, kyC, Nat.beq, Nat.ble, rcd, rno, rsw, Nat.reduceAdd, Nat.reduceBEq, Nat.reduceDiv, List.drop, List.take, List.reverse, List.reverseAux, Int.toNat, Option.toList, List.append, List.cons_append, List.nil_append, zg62, zg68, zg121, zg270, zg271, zg275, zg276, zg279]
          intro a61 e61 ob61
          obtain rfl : B j52 = a61 := Option.some.inj ((h52.trans (congrArg some hb52)).symm.trans e61)
          have f62 : (fIC s0 (B j52) 270).toInt = kjS z j52 := o54_0.1.1.1
          have c63 : (Int32.ofInt 63).toInt = 63 := by decide
          refine ⟨fun h64 => ?_, fun h64 => ?_⟩
          · have g64 := (neI (x := (fIC s0 (B j52) 270)) (y := (Int32.ofInt 63)) h64 : ¬ ((fIC s0 (B j52) 270) : Int32).toInt = ((Int32.ofInt 63) : Int32).toInt)
            refine hB _ _ _ _ _ (fun m65 hm65 => ?_)
            dsimp only [ucgo, ucwp, ucsC, uqC, uoC, ctC, rfd, KX3_judgeSwitch, KX3_judgeSwitch_0, KX3_judgeSwitch_10, KX3_judgeSwitch_11, KX3_judgeSwitch_25, KX3_judgeSwitch_30, KX3_judgeSwitch_35, KX3_judgeSwitch_39, KX3_judgeSwitch_40, KX3_judgeSwitch_59, KX3_judgeSwitch_64, KX3_judgeSwitch_74, KX3_judgeSwitch_84, KX3_judgeSwitch_94, KX3_judgeSwitch_98, KX3_judgeSwitch_112, KX3_judgeSwitch_114, KX3_judgeSwitch_124, lkC, s1C, s2C, dlC, kyC, Nat.beq, Nat.ble, rcd, rno, rsw, Nat.reduceAdd, Nat.reduceBEq, Nat.reduceDiv, List.drop, List.take, List.reverse, List.reverseAux, Int.toNat, Option.toList, List.append, List.cons_append, List.nil_append, zg62, zg68, zg121, zg270, zg271, zg275, zg276, zg279]
            intro a66 e66 ob66
            obtain rfl : B j52 = a66 := Option.some.inj ((h52.trans (congrArg some hb52)).symm.trans e66)
            have f67 : (fRC s0 (B j52) 275) = opA B (njS z j52) := o54_0.1.2.1
            rw [f67]
            exact hW _ 59 [(0, .inr (.inr (some (E 3)))), (1, .inr (.inr (some p1))), (2, .inl ty), (3, .inl df), (4, .inr (.inr (opA B (njS z j52))))] _ _ _ (List.forall_mem_cons.2 ⟨List.Mem.tail _ (List.Mem.head _), List.forall_mem_cons.2 ⟨List.Mem.tail _ (List.Mem.tail _ (List.Mem.head _)), List.forall_mem_cons.2 ⟨List.Mem.tail _ (List.Mem.tail _ (List.Mem.tail _ (List.Mem.head _))), List.forall_mem_cons.2 ⟨List.Mem.tail _ (List.Mem.tail _ (List.Mem.tail _ (List.Mem.tail _ (List.Mem.head _)))), List.forall_mem_cons.2 ⟨List.Mem.head _, fun _ h => absurd h List.not_mem_nil⟩⟩⟩⟩⟩) (ih _ (by omega) s0 ty df kj (njS z j52) (ahd ++ [j52]) rem hkj hw_kj hlkj hF0 (by have := (hwf j52 hl52).1; omega) (by rw [List.append_assoc]; exact h4) hru (h5d.elim (fun q9 => Or.inl ⟨q9.1, q9.2.elim (fun u9 q8 => ⟨u9, List.mem_append_left _ q8.1, q8.2⟩)⟩) (fun q9 => Or.inr ⟨q9.1, fun u9 q8 => (List.mem_append.mp q8).elim (q9.2 u9) (fun q7 => by rw [List.mem_singleton.mp q7]; omega)⟩)) hq (sw_2 h6 (by omega) (fun q9 => by omega)))
          · have g64 := (eqI (x := (fIC s0 (B j52) 270)) (y := (Int32.ofInt 63)) h64 : ((fIC s0 (B j52) 270) : Int32).toInt = ((Int32.ofInt 63) : Int32).toInt)
            refine hB _ _ _ _ _ (fun m68 hm68 => ?_)
            dsimp only [ucgo, ucwp, ucsC, uqC, uoC, ctC, rfd, KX3_judgeSwitch, KX3_judgeSwitch_0, KX3_judgeSwitch_10, KX3_judgeSwitch_11, KX3_judgeSwitch_25, KX3_judgeSwitch_30, KX3_judgeSwitch_35, KX3_judgeSwitch_39, KX3_judgeSwitch_40, KX3_judgeSwitch_59, KX3_judgeSwitch_64, KX3_judgeSwitch_74, KX3_judgeSwitch_84, KX3_judgeSwitch_94, KX3_judgeSwitch_98, KX3_judgeSwitch_112, KX3_judgeSwitch_114, KX3_judgeSwitch_124, lkC, s1C, s2C, dlC, kyC, Nat.beq, Nat.ble, rcd, rno, rsw, Nat.reduceAdd, Nat.reduceBEq, Nat.reduceDiv, List.drop, List.take, List.reverse, List.reverseAux, Int.toNat, Option.toList, List.append, List.cons_append, List.nil_append, zg62, zg68, zg121, zg270, zg271, zg275, zg276, zg279]
            refine ⟨fun h69 => ?_, fun h69 => ?_⟩
            · have g69 := (eqI (x := df) (y := 0) h69 : (df : Int32).toInt = (0 : Int32).toInt)
              have z0_ : (0 : Int32).toInt = 0 := rfl
              refine hB _ _ _ _ _ (fun m70 hm70 => ?_)
              dsimp only [ucgo, ucwp, ucsC, uqC, uoC, ctC, rfd, KX3_judgeSwitch, KX3_judgeSwitch_0, KX3_judgeSwitch_10, KX3_judgeSwitch_11, KX3_judgeSwitch_25, KX3_judgeSwitch_30, KX3_judgeSwitch_35, KX3_judgeSwitch_39, KX3_judgeSwitch_40, KX3_judgeSwitch_59, KX3_judgeSwitch_64, KX3_judgeSwitch_74, KX3_judgeSwitch_84, KX3_judgeSwitch_94, KX3_judgeSwitch_98, KX3_judgeSwitch_112, KX3_judgeSwitch_114, KX3_judgeSwitch_124, lkC, s1C, s2C, dlC, kyC, Nat.beq, Nat.ble, rcd, rno, rsw, Nat.reduceAdd, Nat.reduceBEq, Nat.reduceDiv, List.drop, List.take, List.reverse, List.reverseAux, Int.toNat, Option.toList, List.append, List.cons_append, List.nil_append, zg62, zg68, zg121, zg270, zg271, zg275, zg276, zg279]
              have c71 : (Int32.ofInt 1).toInt = 1 := by decide
              refine hB _ _ _ _ _ (fun m72 hm72 => ?_)
              dsimp only [ucgo, ucwp, ucsC, uqC, uoC, ctC, rfd, KX3_judgeSwitch, KX3_judgeSwitch_0, KX3_judgeSwitch_10, KX3_judgeSwitch_11, KX3_judgeSwitch_25, KX3_judgeSwitch_30, KX3_judgeSwitch_35, KX3_judgeSwitch_39, KX3_judgeSwitch_40, KX3_judgeSwitch_59, KX3_judgeSwitch_64, KX3_judgeSwitch_74, KX3_judgeSwitch_84, KX3_judgeSwitch_94, KX3_judgeSwitch_98, KX3_judgeSwitch_112, KX3_judgeSwitch_114, KX3_judgeSwitch_124, lkC, s1C, s2C, dlC, kyC, Nat.beq, Nat.ble, rcd, rno, rsw, Nat.reduceAdd, Nat.reduceBEq, Nat.reduceDiv, List.drop, List.take, List.reverse, List.reverseAux, Int.toNat, Option.toList, List.append, List.cons_append, List.nil_append, zg62, zg68, zg121, zg270, zg271, zg275, zg276, zg279]
              intro a73 e73 ob73
              obtain rfl : B j52 = a73 := Option.some.inj ((h52.trans (congrArg some hb52)).symm.trans e73)
              have f74 : (fRC s0 (B j52) 275) = opA B (njS z j52) := o54_0.1.2.1
              rw [f74]
              exact hW _ 59 [(0, .inr (.inr (some (E 3)))), (1, .inr (.inr (some p1))), (2, .inl ty), (3, .inl (Int32.ofInt 1)), (4, .inr (.inr (opA B (njS z j52))))] _ _ _ (List.forall_mem_cons.2 ⟨List.Mem.tail _ (List.Mem.tail _ (List.Mem.head _)), List.forall_mem_cons.2 ⟨List.Mem.tail _ (List.Mem.tail _ (List.Mem.tail _ (List.Mem.head _))), List.forall_mem_cons.2 ⟨List.Mem.tail _ (List.Mem.tail _ (List.Mem.tail _ (List.Mem.tail _ (List.Mem.head _)))), List.forall_mem_cons.2 ⟨List.Mem.tail _ (List.Mem.head _), List.forall_mem_cons.2 ⟨List.Mem.head _, fun _ h => absurd h List.not_mem_nil⟩⟩⟩⟩⟩) (ih _ (by omega) s0 ty (Int32.ofInt 1) kj (njS z j52) (ahd ++ [j52]) rem hkj hw_kj hlkj hF0 (by have := (hwf j52 hl52).1; omega) (by rw [List.append_assoc]; exact h4) hru (Or.inl ⟨by omega, j52, (List.mem_append_right _ (List.mem_singleton.mpr rfl)), by omega⟩) hq (sw_2 h6 (by omega) (fun _ => h5d.elim (fun q9 => by omega) (fun q9 => q9.2))))
            · have g69 := (neI (x := df) (y := 0) h69 : ¬ (df : Int32).toInt = (0 : Int32).toInt)
              have z0_ : (0 : Int32).toInt = 0 := rfl
              refine hB _ _ _ _ _ (fun m75 hm75 => ?_)
              dsimp only [ucgo, ucwp, ucsC, uqC, uoC, ctC, rfd, KX3_judgeSwitch, KX3_judgeSwitch_0, KX3_judgeSwitch_10, KX3_judgeSwitch_11, KX3_judgeSwitch_25, KX3_judgeSwitch_30, KX3_judgeSwitch_35, KX3_judgeSwitch_39, KX3_judgeSwitch_40, KX3_judgeSwitch_59, KX3_judgeSwitch_64, KX3_judgeSwitch_74, KX3_judgeSwitch_84, KX3_judgeSwitch_94, KX3_judgeSwitch_98, KX3_judgeSwitch_112, KX3_judgeSwitch_114, KX3_judgeSwitch_124, lkC, s1C, s2C, dlC, kyC, Nat.beq, Nat.ble, rcd, rno, rsw, Nat.reduceAdd, Nat.reduceBEq, Nat.reduceDiv, List.drop, List.take, List.reverse, List.reverseAux, Int.toNat, Option.toList, List.append, List.cons_append, List.nil_append, zg62, zg68, zg121, zg270, zg271, zg275, zg276, zg279]
              intro a76 e76 ob76
              cases e76
              have c78 : (Int32.ofInt 8).toInt = 8 := by decide
              intro a79 e79 ob79
              obtain rfl : B j52 = a79 := Option.some.inj ((h52.trans (congrArg some hb52)).symm.trans e79)
              have f80 : (fIC s0 (B j52) 271).toInt = fiS z j52 := o54_0.1.1.2.1
              rw [hNm_0.1.1]
              try dsimp only
              intro w81 τ81 o81 q81
              obtain ⟨rfl, hb81⟩ := q81 (N, E, A, B, V, z) ⟨_, _, rfl, by omega⟩
              have hF81 : FrE [217, 218] σ τ81 := hF0.tr (o81.2.mo rfl)
              have hSs_81 := SsC.fr hSs hF81 rfl
              have hNm_81 := NmC.fr hNm hF81 rfl
              have op_81 : SlC A B τ81 z j p1 ∧ p1 < cnC τ81 := by rw [hp]; exact hSs_81.1 j hj
              have okj_81 := hSs_81.2.1 kj hlkj
              have o54_81 := hSs_81.1 j52 hl52
              try dsimp only [Option.toList, List.cons_append, List.nil_append, s1C, s2C, dlC, kyC, Nat.beq, lkC, rcd, rno, rsw]
              refine hB _ _ _ _ _ (fun m82 hm82 => ?_)
              dsimp only [ucgo, ucwp, ucsC, uqC, uoC, ctC, rfd, KX3_judgeSwitch, KX3_judgeSwitch_0, KX3_judgeSwitch_10, KX3_judgeSwitch_11, KX3_judgeSwitch_25, KX3_judgeSwitch_30, KX3_judgeSwitch_35, KX3_judgeSwitch_39, KX3_judgeSwitch_40, KX3_judgeSwitch_59, KX3_judgeSwitch_64, KX3_judgeSwitch_74, KX3_judgeSwitch_84, KX3_judgeSwitch_94, KX3_judgeSwitch_98, KX3_judgeSwitch_112, KX3_judgeSwitch_114, KX3_judgeSwitch_124, lkC, s1C, s2C, dlC, kyC, Nat.beq, Nat.ble, rcd, rno, rsw, Nat.reduceAdd, Nat.reduceBEq, Nat.reduceDiv, List.drop, List.take, List.reverse, List.reverseAux, Int.toNat, Option.toList, List.append, List.cons_append, List.nil_append, zg62, zg68, zg121, zg270, zg271, zg275, zg276, zg279]
              have c83 : (Int32.ofInt 1).toInt = 1 := by decide
              refine hB _ _ _ _ _ (fun m84 hm84 => ?_)
              dsimp only [ucgo, ucwp, ucsC, uqC, uoC, ctC, rfd, KX3_judgeSwitch, KX3_judgeSwitch_0, KX3_judgeSwitch_10, KX3_judgeSwitch_11, KX3_judgeSwitch_25, KX3_judgeSwitch_30, KX3_judgeSwitch_35, KX3_judgeSwitch_39, KX3_judgeSwitch_40, KX3_judgeSwitch_59, KX3_judgeSwitch_64, KX3_judgeSwitch_74, KX3_judgeSwitch_84, KX3_judgeSwitch_94, KX3_judgeSwitch_98, KX3_judgeSwitch_112, KX3_judgeSwitch_114, KX3_judgeSwitch_124, lkC, s1C, s2C, dlC, kyC, Nat.beq, Nat.ble, rcd, rno, rsw, Nat.reduceAdd, Nat.reduceBEq, Nat.reduceDiv, List.drop, List.take, List.reverse, List.reverseAux, Int.toNat, Option.toList, List.append, List.cons_append, List.nil_append, zg62, zg68, zg121, zg270, zg271, zg275, zg276, zg279]
              intro a85 e85 ob85
              obtain rfl : B j52 = a85 := Option.some.inj ((h52.trans (congrArg some hb52)).symm.trans e85)
              have f86 : (fRC τ81 (B j52) 275) = opA B (njS z j52) := o54_81.1.2.1
              rw [f86]
              exact hW _ 59 [(0, .inr (.inr (some (E 3)))), (1, .inr (.inr (some p1))), (2, .inl ty), (3, .inl (Int32.ofInt 1)), (4, .inr (.inr (opA B (njS z j52))))] _ _ _ (List.forall_mem_cons.2 ⟨List.Mem.tail _ (List.Mem.tail _ (List.Mem.head _)), List.forall_mem_cons.2 ⟨List.Mem.tail _ (List.Mem.tail _ (List.Mem.tail _ (List.Mem.head _))), List.forall_mem_cons.2 ⟨List.Mem.tail _ (List.Mem.tail _ (List.Mem.tail _ (List.Mem.tail _ (List.Mem.head _)))), List.forall_mem_cons.2 ⟨List.Mem.tail _ (List.Mem.head _), List.forall_mem_cons.2 ⟨List.Mem.head _, fun _ h => absurd h List.not_mem_nil⟩⟩⟩⟩⟩) (ih _ (by omega) τ81 ty (Int32.ofInt 1) kj (njS z j52) (ahd ++ [j52]) rem hkj hw_kj hlkj hF81 (by have := (hwf j52 hl52).1; omega) (by rw [List.append_assoc]; exact h4) hru (Or.inl ⟨by omega, j52, (List.mem_append_right _ (List.mem_singleton.mpr rfl)), by omega⟩) (Or.inr hb81) (sw_3 h6 (by omega) (h5d.elim (fun q9 => q9.2) (fun q9 => by omega)) hb81))
        · have g59 := (eqI (x := (fIC s0 (B j52) 270)) (y := (Int32.ofInt 62)) h59 : ((fIC s0 (B j52) 270) : Int32).toInt = ((Int32.ofInt 62) : Int32).toInt)
          refine hB _ _ _ _ _ (fun m87 hm87 => ?_)
          dsimp only [ucgo, ucwp, ucsC, uqC, uoC, ctC, rfd, KX3_judgeSwitch, KX3_judgeSwitch_0, KX3_judgeSwitch_10, KX3_judgeSwitch_11, KX3_judgeSwitch_25, KX3_judgeSwitch_30, KX3_judgeSwitch_35, KX3_judgeSwitch_39, KX3_judgeSwitch_40, KX3_judgeSwitch_59, KX3_judgeSwitch_64, KX3_judgeSwitch_74, KX3_judgeSwitch_84, KX3_judgeSwitch_94, KX3_judgeSwitch_98, KX3_judgeSwitch_112, KX3_judgeSwitch_114, KX3_judgeSwitch_124, lkC, s1C, s2C, dlC, kyC, Nat.beq, Nat.ble, rcd, rno, rsw, Nat.reduceAdd, Nat.reduceBEq, Nat.reduceDiv, List.drop, List.take, List.reverse, List.reverseAux, Int.toNat, Option.toList, List.append, List.cons_append, List.nil_append, zg62, zg68, zg121, zg270, zg271, zg275, zg276, zg279]
          intro w88 τ88 o88 q88
          rw [(h52.trans (congrArg some hb52))] at q88 o88
          have hnj : j52 ∉ ahd := by
            intro q9
            rw [h4] at hnd
            exact (List.nodup_append.mp hnd).2.2 _ q9 _ List.mem_cons_self rfl
          obtain ⟨rfl, hce88⟩ := q88 (N, E, A, B, V, z, T, ms, nm, j, j52, ahd, rem) ⟨_, _, rfl, hSs_0, hNm_0, hwf, hj, hp, hl52, rfl, hBi, by rw [← h4]; exact hrow, hnj, by omega⟩
          rw [hkj, Int.toNat_natCast] at hce88
          have hF88 : FrE [217, 218] σ τ88 := hF0.tr (o88.2.mo rfl)
          have hSs_88 := SsC.fr hSs hF88 rfl
          have hNm_88 := NmC.fr hNm hF88 rfl
          have op_88 : SlC A B τ88 z j p1 ∧ p1 < cnC τ88 := by rw [hp]; exact hSs_88.1 j hj
          have okj_88 := hSs_88.2.1 kj hlkj
          have o54_88 := hSs_88.1 j52 hl52
          try dsimp only [Option.toList, List.cons_append, List.nil_append, s1C, s2C, dlC, kyC, Nat.beq, lkC, rcd, rno, rsw]
          refine hB _ _ _ _ _ (fun m89 hm89 => ?_)
          dsimp only [ucgo, ucwp, ucsC, uqC, uoC, ctC, rfd, KX3_judgeSwitch, KX3_judgeSwitch_0, KX3_judgeSwitch_10, KX3_judgeSwitch_11, KX3_judgeSwitch_25, KX3_judgeSwitch_30, KX3_judgeSwitch_35, KX3_judgeSwitch_39, KX3_judgeSwitch_40, KX3_judgeSwitch_59, KX3_judgeSwitch_64, KX3_judgeSwitch_74, KX3_judgeSwitch_84, KX3_judgeSwitch_94, KX3_judgeSwitch_98, KX3_judgeSwitch_112, KX3_judgeSwitch_114, KX3_judgeSwitch_124, lkC, s1C, s2C, dlC, kyC, Nat.beq, Nat.ble, rcd, rno, rsw, Nat.reduceAdd, Nat.reduceBEq, Nat.reduceDiv, List.drop, List.take, List.reverse, List.reverseAux, Int.toNat, Option.toList, List.append, List.cons_append, List.nil_append, zg62, zg68, zg121, zg270, zg271, zg275, zg276, zg279]
          intro a90 e90 ob90
          obtain rfl : B j52 = a90 := Option.some.inj ((h52.trans (congrArg some hb52)).symm.trans e90)
          have f91 : (fRC τ88 (B j52) 275) = opA B (njS z j52) := o54_88.1.2.1
          rw [f91]
          exact hW _ 59 [(0, .inr (.inr (some (E 3)))), (1, .inr (.inr (some p1))), (2, .inl ty), (3, .inl df), (4, .inr (.inr (opA B (njS z j52))))] _ _ _ (List.forall_mem_cons.2 ⟨List.Mem.tail _ (List.Mem.head _), List.forall_mem_cons.2 ⟨List.Mem.tail _ (List.Mem.tail _ (List.Mem.head _)), List.forall_mem_cons.2 ⟨List.Mem.tail _ (List.Mem.tail _ (List.Mem.tail _ (List.Mem.head _))), List.forall_mem_cons.2 ⟨List.Mem.tail _ (List.Mem.tail _ (List.Mem.tail _ (List.Mem.tail _ (List.Mem.head _)))), List.forall_mem_cons.2 ⟨List.Mem.head _, fun _ h => absurd h List.not_mem_nil⟩⟩⟩⟩⟩) (ih _ (by omega) τ88 ty df kj (njS z j52) (ahd ++ [j52]) rem hkj hw_kj hlkj hF88 (by have := (hwf j52 hl52).1; omega) (by rw [List.append_assoc]; exact h4) hru (h5d.elim (fun q9 => Or.inl ⟨q9.1, q9.2.elim (fun u9 q8 => ⟨u9, List.mem_append_left _ q8.1, q8.2⟩)⟩) (fun q9 => Or.inr ⟨q9.1, fun u9 q8 => (List.mem_append.mp q8).elim (q9.2 u9) (fun q7 => by rw [List.mem_singleton.mp q7]; omega)⟩)) (hq.imp id (fun q9 => hce88.mpr (Or.inl q9))) (sw_1 h6 (by omega) hce88))
  change K n_ 0 [(0, .inr (.inr (some (E 3)))), (1, .inr (.inr (some p1)))] [] σ
  refine hB _ _ _ _ _ (fun m92 hm92 => ?_)
  dsimp only [ucgo, ucwp, ucsC, uqC, uoC, ctC, rfd, KX3_judgeSwitch, KX3_judgeSwitch_0, KX3_judgeSwitch_10, KX3_judgeSwitch_11, KX3_judgeSwitch_25, KX3_judgeSwitch_30, KX3_judgeSwitch_35, KX3_judgeSwitch_39, KX3_judgeSwitch_40, KX3_judgeSwitch_59, KX3_judgeSwitch_64, KX3_judgeSwitch_74, KX3_judgeSwitch_84, KX3_judgeSwitch_94, KX3_judgeSwitch_98, KX3_judgeSwitch_112, KX3_judgeSwitch_114, KX3_judgeSwitch_124, lkC, s1C, s2C, dlC, kyC, Nat.beq, Nat.ble, rcd, rno, rsw, Nat.reduceAdd, Nat.reduceBEq, Nat.reduceDiv, List.drop, List.take, List.reverse, List.reverseAux, Int.toNat, Option.toList, List.append, List.cons_append, List.nil_append, zg62, zg68, zg121, zg270, zg271, zg275, zg276, zg279]
  intro a93 e93 ob93
  cases e93
  have f94 : (fRC σ p1 279) = opA A (xjS z j) := op.1.2.2.2.2.2.1
  intro w95 τ95 o95 q95
  obtain ⟨r95, rfl, hr95, rfl⟩ := q95 (N, E, A, B, V, z) ⟨_, rfl⟩
  rcases Int.lt_or_le (xjS z j) 0 with hz95 | hz95
  · have rz95 : r95.toInt = 1 := by
      rcases hr95 with q9 | q9
      · exact q9.1
      · exact absurd (fun a9 q8 => by rw [f94, opA_n hz95] at q8; cases q8) q9.2
    try dsimp only [Option.toList, List.cons_append, List.nil_append, s1C, s2C, dlC, kyC, Nat.beq, lkC, rcd, rno, rsw]
    refine ⟨fun h96 => ?_, fun h96 => ?_⟩
    · have g96 := (eqI (x := r95) (y := 0) h96 : (r95 : Int32).toInt = (0 : Int32).toInt)
      have z0_ : (0 : Int32).toInt = 0 := rfl
      exfalso
      omega
    · have g96 := (neI (x := r95) (y := 0) h96 : ¬ (r95 : Int32).toInt = (0 : Int32).toInt)
      have z0_ : (0 : Int32).toInt = 0 := rfl
      refine hB _ _ _ _ _ (fun m97 hm97 => ?_)
      dsimp only [ucgo, ucwp, ucsC, uqC, uoC, ctC, rfd, KX3_judgeSwitch, KX3_judgeSwitch_0, KX3_judgeSwitch_10, KX3_judgeSwitch_11, KX3_judgeSwitch_25, KX3_judgeSwitch_30, KX3_judgeSwitch_35, KX3_judgeSwitch_39, KX3_judgeSwitch_40, KX3_judgeSwitch_59, KX3_judgeSwitch_64, KX3_judgeSwitch_74, KX3_judgeSwitch_84, KX3_judgeSwitch_94, KX3_judgeSwitch_98, KX3_judgeSwitch_112, KX3_judgeSwitch_114, KX3_judgeSwitch_124, lkC, s1C, s2C, dlC, kyC, Nat.beq, Nat.ble, rcd, rno, rsw, Nat.reduceAdd, Nat.reduceBEq, Nat.reduceDiv, List.drop, List.take, List.reverse, List.reverseAux, Int.toNat, Option.toList, List.append, List.cons_append, List.nil_append, zg62, zg68, zg121, zg270, zg271, zg275, zg276, zg279]
      try dsimp only [Qz_judgeSwitch]
      exact fun τ9 h9 => ⟨rfl, (er_we h9).trans (iff_e (fun q9 => by omega)).symm⟩
  · obtain ⟨kx95, hk95⟩ : ∃ k : Nat, xjS z j = (k : Int) := ⟨(xjS z j).toNat, by omega⟩
    have hw_kx95 := (hwf j hj).2.1 hz95
    rw [hk95, Int.toNat_natCast] at hw_kx95
    have hl95 : kx95 < xnM z := by omega
    have hv95 : (fRC σ p1 279) = some (A kx95) := by rw [f94, hk95, opA_k]
    have o98 := hSs.2.1 kx95 hl95
    have rz95 : r95.toInt = 0 := by
      rcases hr95 with q9 | q9
      · exact absurd (o98.1.1.1.symm.trans (q9.2 _ hv95)) hw_kx95.2
      · exact q9.1
    try dsimp only [Option.toList, List.cons_append, List.nil_append, s1C, s2C, dlC, kyC, Nat.beq, lkC, rcd, rno, rsw]
    refine ⟨fun h99 => ?_, fun h99 => ?_⟩
    · have g99 := (eqI (x := r95) (y := 0) h99 : (r95 : Int32).toInt = (0 : Int32).toInt)
      have z0_ : (0 : Int32).toInt = 0 := rfl
      refine hB _ _ _ _ _ (fun m100 hm100 => ?_)
      dsimp only [ucgo, ucwp, ucsC, uqC, uoC, ctC, rfd, KX3_judgeSwitch, KX3_judgeSwitch_0, KX3_judgeSwitch_10, KX3_judgeSwitch_11, KX3_judgeSwitch_25, KX3_judgeSwitch_30, KX3_judgeSwitch_35, KX3_judgeSwitch_39, KX3_judgeSwitch_40, KX3_judgeSwitch_59, KX3_judgeSwitch_64, KX3_judgeSwitch_74, KX3_judgeSwitch_84, KX3_judgeSwitch_94, KX3_judgeSwitch_98, KX3_judgeSwitch_112, KX3_judgeSwitch_114, KX3_judgeSwitch_124, lkC, s1C, s2C, dlC, kyC, Nat.beq, Nat.ble, rcd, rno, rsw, Nat.reduceAdd, Nat.reduceBEq, Nat.reduceDiv, List.drop, List.take, List.reverse, List.reverseAux, Int.toNat, Option.toList, List.append, List.cons_append, List.nil_append, zg62, zg68, zg121, zg270, zg271, zg275, zg276, zg279]
      intro a101 e101 ob101
      cases e101
      have f102 : (fRC σ p1 279) = some (A kx95) := by rw [show (fRC σ p1 279) = opA A (xjS z j) from op.1.2.2.2.2.2.1, hk95, opA_k]
      intro a103 e103 ob103
      obtain rfl : A kx95 = a103 := Option.some.inj (f102.symm.trans e103)
      have f104 : (fIC σ (A kx95) 68).toInt = (T.1 kx95).1 := o98.1.1.1
      have c105 : (Int32.ofInt 1).toInt = 1 := by decide
      refine ⟨fun h106 => ?_, fun h106 => ?_⟩
      · have g106 := (eqI (x := (fIC σ (A kx95) 68)) (y := (Int32.ofInt 1)) h106 : ((fIC σ (A kx95) 68) : Int32).toInt = ((Int32.ofInt 1) : Int32).toInt)
        refine hB _ _ _ _ _ (fun m107 hm107 => ?_)
        dsimp only [ucgo, ucwp, ucsC, uqC, uoC, ctC, rfd, KX3_judgeSwitch, KX3_judgeSwitch_0, KX3_judgeSwitch_10, KX3_judgeSwitch_11, KX3_judgeSwitch_25, KX3_judgeSwitch_30, KX3_judgeSwitch_35, KX3_judgeSwitch_39, KX3_judgeSwitch_40, KX3_judgeSwitch_59, KX3_judgeSwitch_64, KX3_judgeSwitch_74, KX3_judgeSwitch_84, KX3_judgeSwitch_94, KX3_judgeSwitch_98, KX3_judgeSwitch_112, KX3_judgeSwitch_114, KX3_judgeSwitch_124, lkC, s1C, s2C, dlC, kyC, Nat.beq, Nat.ble, rcd, rno, rsw, Nat.reduceAdd, Nat.reduceBEq, Nat.reduceDiv, List.drop, List.take, List.reverse, List.reverseAux, Int.toNat, Option.toList, List.append, List.cons_append, List.nil_append, zg62, zg68, zg121, zg270, zg271, zg275, zg276, zg279]
        have c108 : (Int32.ofInt 1).toInt = 1 := by decide
        refine hB _ _ _ _ _ (fun m109 hm109 => ?_)
        dsimp only [ucgo, ucwp, ucsC, uqC, uoC, ctC, rfd, KX3_judgeSwitch, KX3_judgeSwitch_0, KX3_judgeSwitch_10, KX3_judgeSwitch_11, KX3_judgeSwitch_25, KX3_judgeSwitch_30, KX3_judgeSwitch_35, KX3_judgeSwitch_39, KX3_judgeSwitch_40, KX3_judgeSwitch_59, KX3_judgeSwitch_64, KX3_judgeSwitch_74, KX3_judgeSwitch_84, KX3_judgeSwitch_94, KX3_judgeSwitch_98, KX3_judgeSwitch_112, KX3_judgeSwitch_114, KX3_judgeSwitch_124, lkC, s1C, s2C, dlC, kyC, Nat.beq, Nat.ble, rcd, rno, rsw, Nat.reduceAdd, Nat.reduceBEq, Nat.reduceDiv, List.drop, List.take, List.reverse, List.reverseAux, Int.toNat, Option.toList, List.append, List.cons_append, List.nil_append, zg62, zg68, zg121, zg270, zg271, zg275, zg276, zg279]
        intro a110 e110 ob110
        cases e110
        have f111 : (fRC σ p1 279) = some (A kx95) := by rw [show (fRC σ p1 279) = opA A (xjS z j) from op.1.2.2.2.2.2.1, hk95, opA_k]
        intro a112 e112 ob112
        obtain rfl : A kx95 = a112 := Option.some.inj (f111.symm.trans e112)
        intro w114 τ114 o114 q114
        obtain ⟨rfl, qq114⟩ := q114 (N, E, A, B, V, z) ⟨_, _, rfl, hNm.1⟩
        rcases qq114 with ⟨qa114, rfl⟩ | ⟨qa114, qb114⟩
        · have qc114 := qa114
          try dsimp only [Option.toList, List.cons_append, List.nil_append, s1C, s2C, dlC, kyC, Nat.beq, lkC, rcd, rno, rsw]
          have c115 : (Int32.ofInt 0).toInt = 0 := by decide
          intro a116 e116 ob116
          cases e116
          have f117 : (fRC σ p1 276) = opA B (bjS z j) := op.1.2.2.1
          rw [f117]
          exact hW _ 59 [(0, .inr (.inr (some (E 3)))), (1, .inr (.inr (some p1))), (2, .inl (fIC σ (A kx95) 68)), (3, .inl (Int32.ofInt 0)), (4, .inr (.inr (opA B (bjS z j))))] _ _ _ (List.forall_mem_cons.2 ⟨List.Mem.tail _ (List.Mem.tail _ (List.Mem.tail _ (List.Mem.head _))), List.forall_mem_cons.2 ⟨List.Mem.tail _ (List.Mem.tail _ (List.Mem.tail _ (List.Mem.tail _ (List.Mem.head _)))), List.forall_mem_cons.2 ⟨List.Mem.tail _ (List.Mem.tail _ (List.Mem.head _)), List.forall_mem_cons.2 ⟨List.Mem.tail _ (List.Mem.head _), List.forall_mem_cons.2 ⟨List.Mem.head _, fun _ h => absurd h List.not_mem_nil⟩⟩⟩⟩⟩) (L59 _ σ (fIC σ (A kx95) 68) (Int32.ofInt 0) kx95 (bjS z j) [] l0 hk95 hw_kx95 hl95 FrE.rf (by have := (hwf j hj).1; omega) rfl hrow (Or.inr ⟨by omega, fun _ q9 => absurd q9 List.not_mem_nil⟩) (Or.inl (by omega)) (show (erC E σ ∨ ¬ swQ z T kx95 l0) ↔ _ from Iff.rfl))
        · have qc114 := qa114
          have hF114 : FrE [217, 218] σ τ114 := FrE.mo o114.2 rfl
          have hSs_114 := SsC.fr hSs hF114 rfl
          have hNm_114 := NmC.fr hNm hF114 rfl
          have op_114 : SlC A B τ114 z j p1 ∧ p1 < cnC τ114 := by rw [hp]; exact hSs_114.1 j hj
          have o98_114 := hSs_114.2.1 kx95 hl95
          try dsimp only [Option.toList, List.cons_append, List.nil_append, s1C, s2C, dlC, kyC, Nat.beq, lkC, rcd, rno, rsw]
          have c118 : (Int32.ofInt 0).toInt = 0 := by decide
          intro a119 e119 ob119
          cases e119
          have f120 : (fRC τ114 p1 276) = opA B (bjS z j) := op_114.1.2.2.1
          rw [f120]
          exact hW _ 59 [(0, .inr (.inr (some (E 3)))), (1, .inr (.inr (some p1))), (2, .inl (fIC σ (A kx95) 68)), (3, .inl (Int32.ofInt 0)), (4, .inr (.inr (opA B (bjS z j))))] _ _ _ (List.forall_mem_cons.2 ⟨List.Mem.tail _ (List.Mem.tail _ (List.Mem.tail _ (List.Mem.head _))), List.forall_mem_cons.2 ⟨List.Mem.tail _ (List.Mem.tail _ (List.Mem.tail _ (List.Mem.tail _ (List.Mem.head _)))), List.forall_mem_cons.2 ⟨List.Mem.tail _ (List.Mem.tail _ (List.Mem.head _)), List.forall_mem_cons.2 ⟨List.Mem.tail _ (List.Mem.head _), List.forall_mem_cons.2 ⟨List.Mem.head _, fun _ h => absurd h List.not_mem_nil⟩⟩⟩⟩⟩) (L59 _ τ114 (fIC σ (A kx95) 68) (Int32.ofInt 0) kx95 (bjS z j) [] l0 hk95 hw_kx95 hl95 hF114 (by have := (hwf j hj).1; omega) rfl hrow (Or.inr ⟨by omega, fun _ q9 => absurd q9 List.not_mem_nil⟩) (Or.inr qb114) (show (erC E σ ∨ ¬ swQ z T kx95 l0) ↔ _ from (iff_of_true (Or.inr (fun q9 => absurd q9.1 (by omega))) (Or.inl qb114))))
      · have g106 := (neI (x := (fIC σ (A kx95) 68)) (y := (Int32.ofInt 1)) h106 : ¬ ((fIC σ (A kx95) 68) : Int32).toInt = ((Int32.ofInt 1) : Int32).toInt)
        refine hB _ _ _ _ _ (fun m121 hm121 => ?_)
        dsimp only [ucgo, ucwp, ucsC, uqC, uoC, ctC, rfd, KX3_judgeSwitch, KX3_judgeSwitch_0, KX3_judgeSwitch_10, KX3_judgeSwitch_11, KX3_judgeSwitch_25, KX3_judgeSwitch_30, KX3_judgeSwitch_35, KX3_judgeSwitch_39, KX3_judgeSwitch_40, KX3_judgeSwitch_59, KX3_judgeSwitch_64, KX3_judgeSwitch_74, KX3_judgeSwitch_84, KX3_judgeSwitch_94, KX3_judgeSwitch_98, KX3_judgeSwitch_112, KX3_judgeSwitch_114, KX3_judgeSwitch_124, lkC, s1C, s2C, dlC, kyC, Nat.beq, Nat.ble, rcd, rno, rsw, Nat.reduceAdd, Nat.reduceBEq, Nat.reduceDiv, List.drop, List.take, List.reverse, List.reverseAux, Int.toNat, Option.toList, List.append, List.cons_append, List.nil_append, zg62, zg68, zg121, zg270, zg271, zg275, zg276, zg279]
        have c122 : (Int32.ofInt 2).toInt = 2 := by decide
        refine ⟨fun h123 => ?_, fun h123 => ?_⟩
        · have g123 := (eqI (x := (fIC σ (A kx95) 68)) (y := (Int32.ofInt 2)) h123 : ((fIC σ (A kx95) 68) : Int32).toInt = ((Int32.ofInt 2) : Int32).toInt)
          refine hB _ _ _ _ _ (fun m124 hm124 => ?_)
          dsimp only [ucgo, ucwp, ucsC, uqC, uoC, ctC, rfd, KX3_judgeSwitch, KX3_judgeSwitch_0, KX3_judgeSwitch_10, KX3_judgeSwitch_11, KX3_judgeSwitch_25, KX3_judgeSwitch_30, KX3_judgeSwitch_35, KX3_judgeSwitch_39, KX3_judgeSwitch_40, KX3_judgeSwitch_59, KX3_judgeSwitch_64, KX3_judgeSwitch_74, KX3_judgeSwitch_84, KX3_judgeSwitch_94, KX3_judgeSwitch_98, KX3_judgeSwitch_112, KX3_judgeSwitch_114, KX3_judgeSwitch_124, lkC, s1C, s2C, dlC, kyC, Nat.beq, Nat.ble, rcd, rno, rsw, Nat.reduceAdd, Nat.reduceBEq, Nat.reduceDiv, List.drop, List.take, List.reverse, List.reverseAux, Int.toNat, Option.toList, List.append, List.cons_append, List.nil_append, zg62, zg68, zg121, zg270, zg271, zg275, zg276, zg279]
          have c125 : (Int32.ofInt 1).toInt = 1 := by decide
          refine hB _ _ _ _ _ (fun m126 hm126 => ?_)
          dsimp only [ucgo, ucwp, ucsC, uqC, uoC, ctC, rfd, KX3_judgeSwitch, KX3_judgeSwitch_0, KX3_judgeSwitch_10, KX3_judgeSwitch_11, KX3_judgeSwitch_25, KX3_judgeSwitch_30, KX3_judgeSwitch_35, KX3_judgeSwitch_39, KX3_judgeSwitch_40, KX3_judgeSwitch_59, KX3_judgeSwitch_64, KX3_judgeSwitch_74, KX3_judgeSwitch_84, KX3_judgeSwitch_94, KX3_judgeSwitch_98, KX3_judgeSwitch_112, KX3_judgeSwitch_114, KX3_judgeSwitch_124, lkC, s1C, s2C, dlC, kyC, Nat.beq, Nat.ble, rcd, rno, rsw, Nat.reduceAdd, Nat.reduceBEq, Nat.reduceDiv, List.drop, List.take, List.reverse, List.reverseAux, Int.toNat, Option.toList, List.append, List.cons_append, List.nil_append, zg62, zg68, zg121, zg270, zg271, zg275, zg276, zg279]
          intro a127 e127 ob127
          cases e127
          have f128 : (fRC σ p1 279) = some (A kx95) := by rw [show (fRC σ p1 279) = opA A (xjS z j) from op.1.2.2.2.2.2.1, hk95, opA_k]
          intro a129 e129 ob129
          obtain rfl : A kx95 = a129 := Option.some.inj (f128.symm.trans e129)
          intro w131 τ131 o131 q131
          obtain ⟨rfl, qq131⟩ := q131 (N, E, A, B, V, z) ⟨_, _, rfl, hNm.1⟩
          rcases qq131 with ⟨qa131, rfl⟩ | ⟨qa131, qb131⟩
          · have qc131 := qa131
            try dsimp only [Option.toList, List.cons_append, List.nil_append, s1C, s2C, dlC, kyC, Nat.beq, lkC, rcd, rno, rsw]
            have c132 : (Int32.ofInt 0).toInt = 0 := by decide
            intro a133 e133 ob133
            cases e133
            have f134 : (fRC σ p1 276) = opA B (bjS z j) := op.1.2.2.1
            rw [f134]
            exact hW _ 59 [(0, .inr (.inr (some (E 3)))), (1, .inr (.inr (some p1))), (2, .inl (fIC σ (A kx95) 68)), (3, .inl (Int32.ofInt 0)), (4, .inr (.inr (opA B (bjS z j))))] _ _ _ (List.forall_mem_cons.2 ⟨List.Mem.tail _ (List.Mem.tail _ (List.Mem.tail _ (List.Mem.head _))), List.forall_mem_cons.2 ⟨List.Mem.tail _ (List.Mem.tail _ (List.Mem.tail _ (List.Mem.tail _ (List.Mem.head _)))), List.forall_mem_cons.2 ⟨List.Mem.tail _ (List.Mem.tail _ (List.Mem.head _)), List.forall_mem_cons.2 ⟨List.Mem.tail _ (List.Mem.head _), List.forall_mem_cons.2 ⟨List.Mem.head _, fun _ h => absurd h List.not_mem_nil⟩⟩⟩⟩⟩) (L59 _ σ (fIC σ (A kx95) 68) (Int32.ofInt 0) kx95 (bjS z j) [] l0 hk95 hw_kx95 hl95 FrE.rf (by have := (hwf j hj).1; omega) rfl hrow (Or.inr ⟨by omega, fun _ q9 => absurd q9 List.not_mem_nil⟩) (Or.inl (by omega)) (show (erC E σ ∨ ¬ swQ z T kx95 l0) ↔ _ from Iff.rfl))
          · have qc131 := qa131
            have hF131 : FrE [217, 218] σ τ131 := FrE.mo o131.2 rfl
            have hSs_131 := SsC.fr hSs hF131 rfl
            have hNm_131 := NmC.fr hNm hF131 rfl
            have op_131 : SlC A B τ131 z j p1 ∧ p1 < cnC τ131 := by rw [hp]; exact hSs_131.1 j hj
            have o98_131 := hSs_131.2.1 kx95 hl95
            try dsimp only [Option.toList, List.cons_append, List.nil_append, s1C, s2C, dlC, kyC, Nat.beq, lkC, rcd, rno, rsw]
            have c135 : (Int32.ofInt 0).toInt = 0 := by decide
            intro a136 e136 ob136
            cases e136
            have f137 : (fRC τ131 p1 276) = opA B (bjS z j) := op_131.1.2.2.1
            rw [f137]
            exact hW _ 59 [(0, .inr (.inr (some (E 3)))), (1, .inr (.inr (some p1))), (2, .inl (fIC σ (A kx95) 68)), (3, .inl (Int32.ofInt 0)), (4, .inr (.inr (opA B (bjS z j))))] _ _ _ (List.forall_mem_cons.2 ⟨List.Mem.tail _ (List.Mem.tail _ (List.Mem.tail _ (List.Mem.head _))), List.forall_mem_cons.2 ⟨List.Mem.tail _ (List.Mem.tail _ (List.Mem.tail _ (List.Mem.tail _ (List.Mem.head _)))), List.forall_mem_cons.2 ⟨List.Mem.tail _ (List.Mem.tail _ (List.Mem.head _)), List.forall_mem_cons.2 ⟨List.Mem.tail _ (List.Mem.head _), List.forall_mem_cons.2 ⟨List.Mem.head _, fun _ h => absurd h List.not_mem_nil⟩⟩⟩⟩⟩) (L59 _ τ131 (fIC σ (A kx95) 68) (Int32.ofInt 0) kx95 (bjS z j) [] l0 hk95 hw_kx95 hl95 hF131 (by have := (hwf j hj).1; omega) rfl hrow (Or.inr ⟨by omega, fun _ q9 => absurd q9 List.not_mem_nil⟩) (Or.inr qb131) (show (erC E σ ∨ ¬ swQ z T kx95 l0) ↔ _ from (iff_of_true (Or.inr (fun q9 => absurd q9.1 (by omega))) (Or.inl qb131))))
        · have g123 := (neI (x := (fIC σ (A kx95) 68)) (y := (Int32.ofInt 2)) h123 : ¬ ((fIC σ (A kx95) 68) : Int32).toInt = ((Int32.ofInt 2) : Int32).toInt)
          refine hB _ _ _ _ _ (fun m138 hm138 => ?_)
          dsimp only [ucgo, ucwp, ucsC, uqC, uoC, ctC, rfd, KX3_judgeSwitch, KX3_judgeSwitch_0, KX3_judgeSwitch_10, KX3_judgeSwitch_11, KX3_judgeSwitch_25, KX3_judgeSwitch_30, KX3_judgeSwitch_35, KX3_judgeSwitch_39, KX3_judgeSwitch_40, KX3_judgeSwitch_59, KX3_judgeSwitch_64, KX3_judgeSwitch_74, KX3_judgeSwitch_84, KX3_judgeSwitch_94, KX3_judgeSwitch_98, KX3_judgeSwitch_112, KX3_judgeSwitch_114, KX3_judgeSwitch_124, lkC, s1C, s2C, dlC, kyC, Nat.beq, Nat.ble, rcd, rno, rsw, Nat.reduceAdd, Nat.reduceBEq, Nat.reduceDiv, List.drop, List.take, List.reverse, List.reverseAux, Int.toNat, Option.toList, List.append, List.cons_append, List.nil_append, zg62, zg68, zg121, zg270, zg271, zg275, zg276, zg279]
          have c139 : (Int32.ofInt 3).toInt = 3 := by decide
          refine ⟨fun h140 => ?_, fun h140 => ?_⟩
          · have g140 := (neI (x := (fIC σ (A kx95) 68)) (y := (Int32.ofInt 3)) h140 : ¬ ((fIC σ (A kx95) 68) : Int32).toInt = ((Int32.ofInt 3) : Int32).toInt)
            refine hB _ _ _ _ _ (fun m141 hm141 => ?_)
            dsimp only [ucgo, ucwp, ucsC, uqC, uoC, ctC, rfd, KX3_judgeSwitch, KX3_judgeSwitch_0, KX3_judgeSwitch_10, KX3_judgeSwitch_11, KX3_judgeSwitch_25, KX3_judgeSwitch_30, KX3_judgeSwitch_35, KX3_judgeSwitch_39, KX3_judgeSwitch_40, KX3_judgeSwitch_59, KX3_judgeSwitch_64, KX3_judgeSwitch_74, KX3_judgeSwitch_84, KX3_judgeSwitch_94, KX3_judgeSwitch_98, KX3_judgeSwitch_112, KX3_judgeSwitch_114, KX3_judgeSwitch_124, lkC, s1C, s2C, dlC, kyC, Nat.beq, Nat.ble, rcd, rno, rsw, Nat.reduceAdd, Nat.reduceBEq, Nat.reduceDiv, List.drop, List.take, List.reverse, List.reverseAux, Int.toNat, Option.toList, List.append, List.cons_append, List.nil_append, zg62, zg68, zg121, zg270, zg271, zg275, zg276, zg279]
            have c142 : (Int32.ofInt 0).toInt = 0 := by decide
            refine hB _ _ _ _ _ (fun m143 hm143 => ?_)
            dsimp only [ucgo, ucwp, ucsC, uqC, uoC, ctC, rfd, KX3_judgeSwitch, KX3_judgeSwitch_0, KX3_judgeSwitch_10, KX3_judgeSwitch_11, KX3_judgeSwitch_25, KX3_judgeSwitch_30, KX3_judgeSwitch_35, KX3_judgeSwitch_39, KX3_judgeSwitch_40, KX3_judgeSwitch_59, KX3_judgeSwitch_64, KX3_judgeSwitch_74, KX3_judgeSwitch_84, KX3_judgeSwitch_94, KX3_judgeSwitch_98, KX3_judgeSwitch_112, KX3_judgeSwitch_114, KX3_judgeSwitch_124, lkC, s1C, s2C, dlC, kyC, Nat.beq, Nat.ble, rcd, rno, rsw, Nat.reduceAdd, Nat.reduceBEq, Nat.reduceDiv, List.drop, List.take, List.reverse, List.reverseAux, Int.toNat, Option.toList, List.append, List.cons_append, List.nil_append, zg62, zg68, zg121, zg270, zg271, zg275, zg276, zg279]
            intro a144 e144 ob144
            cases e144
            have f145 : (fRC σ p1 279) = some (A kx95) := by rw [show (fRC σ p1 279) = opA A (xjS z j) from op.1.2.2.2.2.2.1, hk95, opA_k]
            intro a146 e146 ob146
            obtain rfl : A kx95 = a146 := Option.some.inj (f145.symm.trans e146)
            intro w148 τ148 o148 q148
            obtain ⟨rfl, qq148⟩ := q148 (N, E, A, B, V, z) ⟨_, _, rfl, hNm.1⟩
            rcases qq148 with ⟨qa148, rfl⟩ | ⟨qa148, qb148⟩
            · have qc148 := qa148
              try dsimp only [Option.toList, List.cons_append, List.nil_append, s1C, s2C, dlC, kyC, Nat.beq, lkC, rcd, rno, rsw]
              have c149 : (Int32.ofInt 0).toInt = 0 := by decide
              intro a150 e150 ob150
              cases e150
              have f151 : (fRC σ p1 276) = opA B (bjS z j) := op.1.2.2.1
              rw [f151]
              exact hW _ 59 [(0, .inr (.inr (some (E 3)))), (1, .inr (.inr (some p1))), (2, .inl (fIC σ (A kx95) 68)), (3, .inl (Int32.ofInt 0)), (4, .inr (.inr (opA B (bjS z j))))] _ _ _ (List.forall_mem_cons.2 ⟨List.Mem.tail _ (List.Mem.tail _ (List.Mem.tail _ (List.Mem.head _))), List.forall_mem_cons.2 ⟨List.Mem.tail _ (List.Mem.tail _ (List.Mem.tail _ (List.Mem.tail _ (List.Mem.head _)))), List.forall_mem_cons.2 ⟨List.Mem.tail _ (List.Mem.tail _ (List.Mem.head _)), List.forall_mem_cons.2 ⟨List.Mem.tail _ (List.Mem.head _), List.forall_mem_cons.2 ⟨List.Mem.head _, fun _ h => absurd h List.not_mem_nil⟩⟩⟩⟩⟩) (L59 _ σ (fIC σ (A kx95) 68) (Int32.ofInt 0) kx95 (bjS z j) [] l0 hk95 hw_kx95 hl95 FrE.rf (by have := (hwf j hj).1; omega) rfl hrow (Or.inr ⟨by omega, fun _ q9 => absurd q9 List.not_mem_nil⟩) (Or.inl (by omega)) (show (erC E σ ∨ ¬ swQ z T kx95 l0) ↔ _ from Iff.rfl))
            · have qc148 := qa148
              have hF148 : FrE [217, 218] σ τ148 := FrE.mo o148.2 rfl
              have hSs_148 := SsC.fr hSs hF148 rfl
              have hNm_148 := NmC.fr hNm hF148 rfl
              have op_148 : SlC A B τ148 z j p1 ∧ p1 < cnC τ148 := by rw [hp]; exact hSs_148.1 j hj
              have o98_148 := hSs_148.2.1 kx95 hl95
              try dsimp only [Option.toList, List.cons_append, List.nil_append, s1C, s2C, dlC, kyC, Nat.beq, lkC, rcd, rno, rsw]
              have c152 : (Int32.ofInt 0).toInt = 0 := by decide
              intro a153 e153 ob153
              cases e153
              have f154 : (fRC τ148 p1 276) = opA B (bjS z j) := op_148.1.2.2.1
              rw [f154]
              exact hW _ 59 [(0, .inr (.inr (some (E 3)))), (1, .inr (.inr (some p1))), (2, .inl (fIC σ (A kx95) 68)), (3, .inl (Int32.ofInt 0)), (4, .inr (.inr (opA B (bjS z j))))] _ _ _ (List.forall_mem_cons.2 ⟨List.Mem.tail _ (List.Mem.tail _ (List.Mem.tail _ (List.Mem.head _))), List.forall_mem_cons.2 ⟨List.Mem.tail _ (List.Mem.tail _ (List.Mem.tail _ (List.Mem.tail _ (List.Mem.head _)))), List.forall_mem_cons.2 ⟨List.Mem.tail _ (List.Mem.tail _ (List.Mem.head _)), List.forall_mem_cons.2 ⟨List.Mem.tail _ (List.Mem.head _), List.forall_mem_cons.2 ⟨List.Mem.head _, fun _ h => absurd h List.not_mem_nil⟩⟩⟩⟩⟩) (L59 _ τ148 (fIC σ (A kx95) 68) (Int32.ofInt 0) kx95 (bjS z j) [] l0 hk95 hw_kx95 hl95 hF148 (by have := (hwf j hj).1; omega) rfl hrow (Or.inr ⟨by omega, fun _ q9 => absurd q9 List.not_mem_nil⟩) (Or.inr qb148) (show (erC E σ ∨ ¬ swQ z T kx95 l0) ↔ _ from (iff_of_true (Or.inr (fun q9 => absurd q9.1 (by omega))) (Or.inl qb148))))
          · have g140 := (eqI (x := (fIC σ (A kx95) 68)) (y := (Int32.ofInt 3)) h140 : ((fIC σ (A kx95) 68) : Int32).toInt = ((Int32.ofInt 3) : Int32).toInt)
            refine hB _ _ _ _ _ (fun m155 hm155 => ?_)
            dsimp only [ucgo, ucwp, ucsC, uqC, uoC, ctC, rfd, KX3_judgeSwitch, KX3_judgeSwitch_0, KX3_judgeSwitch_10, KX3_judgeSwitch_11, KX3_judgeSwitch_25, KX3_judgeSwitch_30, KX3_judgeSwitch_35, KX3_judgeSwitch_39, KX3_judgeSwitch_40, KX3_judgeSwitch_59, KX3_judgeSwitch_64, KX3_judgeSwitch_74, KX3_judgeSwitch_84, KX3_judgeSwitch_94, KX3_judgeSwitch_98, KX3_judgeSwitch_112, KX3_judgeSwitch_114, KX3_judgeSwitch_124, lkC, s1C, s2C, dlC, kyC, Nat.beq, Nat.ble, rcd, rno, rsw, Nat.reduceAdd, Nat.reduceBEq, Nat.reduceDiv, List.drop, List.take, List.reverse, List.reverseAux, Int.toNat, Option.toList, List.append, List.cons_append, List.nil_append, zg62, zg68, zg121, zg270, zg271, zg275, zg276, zg279]
            have c156 : (Int32.ofInt 1).toInt = 1 := by decide
            refine hB _ _ _ _ _ (fun m157 hm157 => ?_)
            dsimp only [ucgo, ucwp, ucsC, uqC, uoC, ctC, rfd, KX3_judgeSwitch, KX3_judgeSwitch_0, KX3_judgeSwitch_10, KX3_judgeSwitch_11, KX3_judgeSwitch_25, KX3_judgeSwitch_30, KX3_judgeSwitch_35, KX3_judgeSwitch_39, KX3_judgeSwitch_40, KX3_judgeSwitch_59, KX3_judgeSwitch_64, KX3_judgeSwitch_74, KX3_judgeSwitch_84, KX3_judgeSwitch_94, KX3_judgeSwitch_98, KX3_judgeSwitch_112, KX3_judgeSwitch_114, KX3_judgeSwitch_124, lkC, s1C, s2C, dlC, kyC, Nat.beq, Nat.ble, rcd, rno, rsw, Nat.reduceAdd, Nat.reduceBEq, Nat.reduceDiv, List.drop, List.take, List.reverse, List.reverseAux, Int.toNat, Option.toList, List.append, List.cons_append, List.nil_append, zg62, zg68, zg121, zg270, zg271, zg275, zg276, zg279]
            intro a158 e158 ob158
            cases e158
            have f159 : (fRC σ p1 279) = some (A kx95) := by rw [show (fRC σ p1 279) = opA A (xjS z j) from op.1.2.2.2.2.2.1, hk95, opA_k]
            intro a160 e160 ob160
            obtain rfl : A kx95 = a160 := Option.some.inj (f159.symm.trans e160)
            intro w162 τ162 o162 q162
            obtain ⟨rfl, qq162⟩ := q162 (N, E, A, B, V, z) ⟨_, _, rfl, hNm.1⟩
            rcases qq162 with ⟨qa162, rfl⟩ | ⟨qa162, qb162⟩
            · have qc162 := qa162
              try dsimp only [Option.toList, List.cons_append, List.nil_append, s1C, s2C, dlC, kyC, Nat.beq, lkC, rcd, rno, rsw]
              have c163 : (Int32.ofInt 0).toInt = 0 := by decide
              intro a164 e164 ob164
              cases e164
              have f165 : (fRC σ p1 276) = opA B (bjS z j) := op.1.2.2.1
              rw [f165]
              exact hW _ 59 [(0, .inr (.inr (some (E 3)))), (1, .inr (.inr (some p1))), (2, .inl (fIC σ (A kx95) 68)), (3, .inl (Int32.ofInt 0)), (4, .inr (.inr (opA B (bjS z j))))] _ _ _ (List.forall_mem_cons.2 ⟨List.Mem.tail _ (List.Mem.tail _ (List.Mem.tail _ (List.Mem.head _))), List.forall_mem_cons.2 ⟨List.Mem.tail _ (List.Mem.tail _ (List.Mem.tail _ (List.Mem.tail _ (List.Mem.head _)))), List.forall_mem_cons.2 ⟨List.Mem.tail _ (List.Mem.tail _ (List.Mem.head _)), List.forall_mem_cons.2 ⟨List.Mem.tail _ (List.Mem.head _), List.forall_mem_cons.2 ⟨List.Mem.head _, fun _ h => absurd h List.not_mem_nil⟩⟩⟩⟩⟩) (L59 _ σ (fIC σ (A kx95) 68) (Int32.ofInt 0) kx95 (bjS z j) [] l0 hk95 hw_kx95 hl95 FrE.rf (by have := (hwf j hj).1; omega) rfl hrow (Or.inr ⟨by omega, fun _ q9 => absurd q9 List.not_mem_nil⟩) (Or.inl (by omega)) (show (erC E σ ∨ ¬ swQ z T kx95 l0) ↔ _ from Iff.rfl))
            · have qc162 := qa162
              have hF162 : FrE [217, 218] σ τ162 := FrE.mo o162.2 rfl
              have hSs_162 := SsC.fr hSs hF162 rfl
              have hNm_162 := NmC.fr hNm hF162 rfl
              have op_162 : SlC A B τ162 z j p1 ∧ p1 < cnC τ162 := by rw [hp]; exact hSs_162.1 j hj
              have o98_162 := hSs_162.2.1 kx95 hl95
              try dsimp only [Option.toList, List.cons_append, List.nil_append, s1C, s2C, dlC, kyC, Nat.beq, lkC, rcd, rno, rsw]
              have c166 : (Int32.ofInt 0).toInt = 0 := by decide
              intro a167 e167 ob167
              cases e167
              have f168 : (fRC τ162 p1 276) = opA B (bjS z j) := op_162.1.2.2.1
              rw [f168]
              exact hW _ 59 [(0, .inr (.inr (some (E 3)))), (1, .inr (.inr (some p1))), (2, .inl (fIC σ (A kx95) 68)), (3, .inl (Int32.ofInt 0)), (4, .inr (.inr (opA B (bjS z j))))] _ _ _ (List.forall_mem_cons.2 ⟨List.Mem.tail _ (List.Mem.tail _ (List.Mem.tail _ (List.Mem.head _))), List.forall_mem_cons.2 ⟨List.Mem.tail _ (List.Mem.tail _ (List.Mem.tail _ (List.Mem.tail _ (List.Mem.head _)))), List.forall_mem_cons.2 ⟨List.Mem.tail _ (List.Mem.tail _ (List.Mem.head _)), List.forall_mem_cons.2 ⟨List.Mem.tail _ (List.Mem.head _), List.forall_mem_cons.2 ⟨List.Mem.head _, fun _ h => absurd h List.not_mem_nil⟩⟩⟩⟩⟩) (L59 _ τ162 (fIC σ (A kx95) 68) (Int32.ofInt 0) kx95 (bjS z j) [] l0 hk95 hw_kx95 hl95 hF162 (by have := (hwf j hj).1; omega) rfl hrow (Or.inr ⟨by omega, fun _ q9 => absurd q9 List.not_mem_nil⟩) (Or.inr qb162) (show (erC E σ ∨ ¬ swQ z T kx95 l0) ↔ _ from (iff_of_true (Or.inr (fun q9 => absurd q9.1 (by omega))) (Or.inl qb162))))
    · have g99 := (neI (x := r95) (y := 0) h99 : ¬ (r95 : Int32).toInt = (0 : Int32).toInt)
      have z0_ : (0 : Int32).toInt = 0 := rfl
      exfalso
      omega
theorem wz_judgeSwitch : ∀ (L : Nat) (As : List AvC) (σ : CsC) (w : Option AvC) (τ : CsC), EvF L 81 As σ w τ → Uz_judgeSwitch As σ w τ := by
  intro L
  cases L with
  | zero => exact fun _ _ _ _ h => h.elim
  | succ L => exact fun As σ w τ h y hy => EvF.us (cs := [52, 62, 82, 118]) (pz_judgeSwitch y) rfl (List.forall_mem_cons.2 ⟨wz_isFaulty L, List.forall_mem_cons.2 ⟨wz_isWanted L, List.forall_mem_cons.2 ⟨wz_judgeCase L, List.forall_mem_cons.2 ⟨wz_tell L, fun _ h => absurd h List.not_mem_nil⟩⟩⟩⟩) h hy
abbrev Pz_judgeStatement : ((Int → Int) × (Nat → Nat) × (Nat → Nat) × (Nat → Nat) × (Nat → Nat) × ZS × TbT × MfT × Nat × Nat) → CpC := fun y As σ => match y with
  | (N, E, A, B, V, z, T, ms, nm, j) => ∃ (p1 : Nat), As = [.inr (.inr (some (E 3))), .inr (.inr (some p1))] ∧ (SsC E A B σ z T ms nm) ∧ (NmC N E σ) ∧ (WfS z T) ∧ (j < snM z) ∧ (p1 = B j) ∧ (BiC B z) ∧ (∀ j, j < snM z → kjS z j = 61 → ∃ l, RwZ z (bjS z j) l ∧ l.Nodup) ∧ (∀ j, j < snM z → kjS z j = 66 → 0 ≤ ljS z j ∧ ∃ m, ms (ljS z j).toNat = some m) ∧ (fRC σ p1 281 = none)
abbrev Qz_judgeStatement : ((Int → Int) × (Nat → Nat) × (Nat → Nat) × (Nat → Nat) × (Nat → Nat) × ZS × TbT × MfT × Nat × Nat) → CqC := fun y As σ w τ => match y, As with
  | (N, E, A, B, V, z, T, ms, nm, j), [_, .inr (.inr (some p1))] => w = none ∧ (erC E τ ↔ erC E σ ∨ ¬ skT N z T ms j) ∧ (fRC τ p1 281 = if kjS z j = 64 ∨ kjS z j = 65 then opA B (tjT N z j) else none) ∧ ∀ a, a < cnC σ → a ≠ p1 → fRC τ a 281 = fRC σ a 281
  | _, _ => True
abbrev Uz_judgeStatement : CqC := fun As σ w τ => ∀ y, Pz_judgeStatement y As σ → Qz_judgeStatement y As σ w τ
set_option maxHeartbeats 4000000 in
theorem pz_judgeStatement (y : (Int → Int) × (Nat → Nat) × (Nat → Nat) × (Nat → Nat) × (Nat → Nat) × ZS × TbT × MfT × Nat × Nat) : PbC KX3_judgeStatement [(85, TrP, EqC 85), (52, TrP, EqC 52), (62, TrP, EqC 62), (81, TrP, EqC 81), (83, TrP, EqC 83), (86, TrP, EqC 86), (75, TrP, EqC 75), (18, TrP, EqC 18), (118, TrP, EqC 118)] [(85, Uz_judgeLabel), (52, Uz_isFaulty), (62, Uz_isWanted), (81, Uz_judgeSwitch), (83, Uz_judgeJump), (86, Uz_judgeReturn), (75, Uz_fits), (18, Uz_acts), (118, Uz_tell)] (fun As σ => Pz_judgeStatement y As σ ∧ cnC σ ≤ 1000000 ∧ ∃ w τ, uqC quL 80 As σ w τ) (Qz_judgeStatement y) := by
  obtain ⟨N, E, A, B, V, z, T, ms, nm, j⟩ := y
  rintro As σ ⟨⟨p1, rfl, hSs, hNm, hwf, hj, hp, hBi, hrow, hrt, h281⟩, hcn, _, _, hQ⟩ K hB hW n_
  have op : SlC A B σ z j p1 ∧ p1 < cnC σ := by rw [hp]; exact hSs.1 j hj
  change K n_ 0 [(0, .inr (.inr (some (E 3)))), (1, .inr (.inr (some p1)))] [] σ
  refine hB _ _ _ _ _ (fun m51 hm51 => ?_)
  dsimp only [ucgo, ucwp, ucsC, uqC, uoC, ctC, rfd, KX3_judgeStatement, KX3_judgeStatement_0, KX3_judgeStatement_112, KX3_judgeStatement_122, KX3_judgeStatement_133, KX3_judgeStatement_137, KX3_judgeStatement_138, KX3_judgeStatement_152, KX3_judgeStatement_160, KX3_judgeStatement_168, KX3_judgeStatement_176, KX3_judgeStatement_186, KX3_judgeStatement_209, KX3_judgeStatement_217, KX3_judgeStatement_224, KX3_judgeStatement_234, KX3_judgeStatement_253, lkC, s1C, s2C, dlC, kyC, Nat.beq, Nat.ble, rcd, rno, rsw, Nat.reduceAdd, Nat.reduceBEq, Nat.reduceDiv, List.drop, List.take, List.reverse, List.reverseAux, Int.toNat, Option.toList, List.append, List.cons_append, List.nil_append, zg62, zg68, zg121, zg270, zg279]
  intro a52 e52 ob52
  cases e52
  have f53 : (fIC σ p1 270).toInt = kjS z j := op.1.1.1
  refine ⟨fun h54 => ?_, fun h54 => ?_⟩
  · have g54 : ((fIC σ p1 270) : Int32).toInt = 6 := h54
    refine hB _ _ _ _ _ (fun m55 hm55 => ?_)
    dsimp only [ucgo, ucwp, ucsC, uqC, uoC, ctC, rfd, KX3_judgeStatement, KX3_judgeStatement_0, KX3_judgeStatement_112, KX3_judgeStatement_122, KX3_judgeStatement_133, KX3_judgeStatement_137, KX3_judgeStatement_138, KX3_judgeStatement_152, KX3_judgeStatement_160, KX3_judgeStatement_168, KX3_judgeStatement_176, KX3_judgeStatement_186, KX3_judgeStatement_209, KX3_judgeStatement_217, KX3_judgeStatement_224, KX3_judgeStatement_234, KX3_judgeStatement_253, lkC, s1C, s2C, dlC, kyC, Nat.beq, Nat.ble, rcd, rno, rsw, Nat.reduceAdd, Nat.reduceBEq, Nat.reduceDiv, List.drop, List.take, List.reverse, List.reverseAux, Int.toNat, Option.toList, List.append, List.cons_append, List.nil_append, zg62, zg68, zg121, zg270, zg279]
    intro w56 τ56 o56 q56
    obtain ⟨rfl, hq56⟩ := q56 (N, E, A, B, V, z, T, ms, nm, j) ⟨_, rfl, hSs, hNm, hwf, hj, hp⟩
    have hF56 : FrE [217, 218] σ τ56 := FrE.mo o56.2 rfl
    have hSs_56 := SsC.fr hSs hF56 rfl
    have hNm_56 := NmC.fr hNm hF56 rfl
    have op_56 : SlC A B τ56 z j p1 ∧ p1 < cnC τ56 := by rw [hp]; exact hSs_56.1 j hj
    try dsimp only [Option.toList, List.cons_append, List.nil_append, s1C, s2C, dlC, kyC, Nat.beq, lkC, rcd, rno, rsw]
    refine hB _ _ _ _ _ (fun m57 hm57 => ?_)
    dsimp only [ucgo, ucwp, ucsC, uqC, uoC, ctC, rfd, KX3_judgeStatement, KX3_judgeStatement_0, KX3_judgeStatement_112, KX3_judgeStatement_122, KX3_judgeStatement_133, KX3_judgeStatement_137, KX3_judgeStatement_138, KX3_judgeStatement_152, KX3_judgeStatement_160, KX3_judgeStatement_168, KX3_judgeStatement_176, KX3_judgeStatement_186, KX3_judgeStatement_209, KX3_judgeStatement_217, KX3_judgeStatement_224, KX3_judgeStatement_234, KX3_judgeStatement_253, lkC, s1C, s2C, dlC, kyC, Nat.beq, Nat.ble, rcd, rno, rsw, Nat.reduceAdd, Nat.reduceBEq, Nat.reduceDiv, List.drop, List.take, List.reverse, List.reverseAux, Int.toNat, Option.toList, List.append, List.cons_append, List.nil_append, zg62, zg68, zg121, zg270, zg279]
    try dsimp only [Qz_judgeStatement]
    exact fun τ9 h9 => ⟨rfl, (er_we h9).trans (hq56.trans (or_congr Iff.rfl (not_congr (sk_k (fun q9 => by omega) (fun q9 => by omega) (fun q9 => by omega) (fun q9 => by omega) (fun q9 => by omega) (fun _ => Iff.rfl) (fun q9 => by omega) (fun q1 q2 q3 q4 q5 q6 q7 => by omega))))), (by rw [we_r h9]; exact (s281 (E := E) (A := A) (V := V) hF56 op.2 h281 (by omega)).1), (by rw [we_r h9]; exact (s281 (E := E) (A := A) (V := V) (N := N) (B := B) (z := z) (j := j) hF56 op.2 h281 (by omega)).2)⟩
  have g54 : ¬ ((fIC σ p1 270) : Int32).toInt = 6 := h54
  refine ⟨fun h58 => ?_, fun h58 => ?_⟩
  · have g58 : ((fIC σ p1 270) : Int32).toInt = 56 := h58
    refine hB _ _ _ _ _ (fun m59 hm59 => ?_)
    dsimp only [ucgo, ucwp, ucsC, uqC, uoC, ctC, rfd, KX3_judgeStatement, KX3_judgeStatement_0, KX3_judgeStatement_112, KX3_judgeStatement_122, KX3_judgeStatement_133, KX3_judgeStatement_137, KX3_judgeStatement_138, KX3_judgeStatement_152, KX3_judgeStatement_160, KX3_judgeStatement_168, KX3_judgeStatement_176, KX3_judgeStatement_186, KX3_judgeStatement_209, KX3_judgeStatement_217, KX3_judgeStatement_224, KX3_judgeStatement_234, KX3_judgeStatement_253, lkC, s1C, s2C, dlC, kyC, Nat.beq, Nat.ble, rcd, rno, rsw, Nat.reduceAdd, Nat.reduceBEq, Nat.reduceDiv, List.drop, List.take, List.reverse, List.reverseAux, Int.toNat, Option.toList, List.append, List.cons_append, List.nil_append, zg62, zg68, zg121, zg270, zg279]
    intro a60 e60 ob60
    cases e60
    have f61 : (fRC σ p1 279) = opA A (xjS z j) := op.1.2.2.2.2.2.1
    intro w62 τ62 o62 q62
    obtain ⟨r62, rfl, hr62, rfl⟩ := q62 (N, E, A, B, V, z) ⟨_, rfl⟩
    rcases Int.lt_or_le (xjS z j) 0 with hz62 | hz62
    · have rz62 : r62.toInt = 1 := by
        rcases hr62 with q9 | q9
        · exact q9.1
        · exact absurd (fun a9 q8 => by rw [f61, opA_n hz62] at q8; cases q8) q9.2
      try dsimp only [Option.toList, List.cons_append, List.nil_append, s1C, s2C, dlC, kyC, Nat.beq, lkC, rcd, rno, rsw]
      refine ⟨fun h63 => ?_, fun h63 => ?_⟩
      · have g63 := (neI (x := r62) (y := 0) h63 : ¬ (r62 : Int32).toInt = (0 : Int32).toInt)
        have z0_ : (0 : Int32).toInt = 0 := rfl
        refine hB _ _ _ _ _ (fun m64 hm64 => ?_)
        dsimp only [ucgo, ucwp, ucsC, uqC, uoC, ctC, rfd, KX3_judgeStatement, KX3_judgeStatement_0, KX3_judgeStatement_112, KX3_judgeStatement_122, KX3_judgeStatement_133, KX3_judgeStatement_137, KX3_judgeStatement_138, KX3_judgeStatement_152, KX3_judgeStatement_160, KX3_judgeStatement_168, KX3_judgeStatement_176, KX3_judgeStatement_186, KX3_judgeStatement_209, KX3_judgeStatement_217, KX3_judgeStatement_224, KX3_judgeStatement_234, KX3_judgeStatement_253, lkC, s1C, s2C, dlC, kyC, Nat.beq, Nat.ble, rcd, rno, rsw, Nat.reduceAdd, Nat.reduceBEq, Nat.reduceDiv, List.drop, List.take, List.reverse, List.reverseAux, Int.toNat, Option.toList, List.append, List.cons_append, List.nil_append, zg62, zg68, zg121, zg270, zg279]
        try dsimp only [Qz_judgeStatement]
        exact fun τ9 h9 => ⟨rfl, (er_we h9).trans (iff_e ((sk_k (P := (0 ≤ xjS z j → (T.1 (xjS z j).toNat).1 = 0)) (N := N) (T := T) (ms := ms) (fun _ => Iff.rfl) (fun q9 => by omega) (fun q9 => by omega) (fun q9 => by omega) (fun q9 => by omega) (fun q9 => by omega) (fun q9 => by omega) (fun q1 q2 q3 q4 q5 q6 q7 => by omega)).mp (show (0 ≤ xjS z j → (T.1 (xjS z j).toNat).1 = 0) by exact fun q9 => by omega))).symm, (by rw [we_r h9]; exact (s281 (E := E) (A := A) (V := V) FrE.rf op.2 h281 (by omega)).1), (by rw [we_r h9]; exact (s281 (E := E) (A := A) (V := V) (N := N) (B := B) (z := z) (j := j) FrE.rf op.2 h281 (by omega)).2)⟩
      · have g63 := (eqI (x := r62) (y := 0) h63 : (r62 : Int32).toInt = (0 : Int32).toInt)
        have z0_ : (0 : Int32).toInt = 0 := rfl
        exfalso
        omega
    · obtain ⟨kx62, hk62⟩ : ∃ k : Nat, xjS z j = (k : Int) := ⟨(xjS z j).toNat, by omega⟩
      have hw_kx62 := (hwf j hj).2.1 hz62
      rw [hk62, Int.toNat_natCast] at hw_kx62
      have hl62 : kx62 < xnM z := by omega
      have hv62 : (fRC σ p1 279) = some (A kx62) := by rw [f61, hk62, opA_k]
      have o65 := hSs.2.1 kx62 hl62
      have rz62 : r62.toInt = 0 := by
        rcases hr62 with q9 | q9
        · exact absurd (o65.1.1.1.symm.trans (q9.2 _ hv62)) hw_kx62.2
        · exact q9.1
      try dsimp only [Option.toList, List.cons_append, List.nil_append, s1C, s2C, dlC, kyC, Nat.beq, lkC, rcd, rno, rsw]
      refine ⟨fun h66 => ?_, fun h66 => ?_⟩
      · have g66 := (neI (x := r62) (y := 0) h66 : ¬ (r62 : Int32).toInt = (0 : Int32).toInt)
        have z0_ : (0 : Int32).toInt = 0 := rfl
        exfalso
        omega
      · have g66 := (eqI (x := r62) (y := 0) h66 : (r62 : Int32).toInt = (0 : Int32).toInt)
        have z0_ : (0 : Int32).toInt = 0 := rfl
        refine hB _ _ _ _ _ (fun m67 hm67 => ?_)
        dsimp only [ucgo, ucwp, ucsC, uqC, uoC, ctC, rfd, KX3_judgeStatement, KX3_judgeStatement_0, KX3_judgeStatement_112, KX3_judgeStatement_122, KX3_judgeStatement_133, KX3_judgeStatement_137, KX3_judgeStatement_138, KX3_judgeStatement_152, KX3_judgeStatement_160, KX3_judgeStatement_168, KX3_judgeStatement_176, KX3_judgeStatement_186, KX3_judgeStatement_209, KX3_judgeStatement_217, KX3_judgeStatement_224, KX3_judgeStatement_234, KX3_judgeStatement_253, lkC, s1C, s2C, dlC, kyC, Nat.beq, Nat.ble, rcd, rno, rsw, Nat.reduceAdd, Nat.reduceBEq, Nat.reduceDiv, List.drop, List.take, List.reverse, List.reverseAux, Int.toNat, Option.toList, List.append, List.cons_append, List.nil_append, zg62, zg68, zg121, zg270, zg279]
        intro a68 e68 ob68
        cases e68
        have f69 : (fRC σ p1 279) = some (A kx62) := by rw [show (fRC σ p1 279) = opA A (xjS z j) from op.1.2.2.2.2.2.1, hk62, opA_k]
        intro a70 e70 ob70
        obtain rfl : A kx62 = a70 := Option.some.inj (f69.symm.trans e70)
        have f71 : (fIC σ (A kx62) 68).toInt = (T.1 kx62).1 := o65.1.1.1
        refine ⟨fun h72 => ?_, fun h72 => ?_⟩
        · have g72 := (neI (x := (fIC σ (A kx62) 68)) (y := 0) h72 : ¬ ((fIC σ (A kx62) 68) : Int32).toInt = (0 : Int32).toInt)
          have z0_ : (0 : Int32).toInt = 0 := rfl
          refine hB _ _ _ _ _ (fun m73 hm73 => ?_)
          dsimp only [ucgo, ucwp, ucsC, uqC, uoC, ctC, rfd, KX3_judgeStatement, KX3_judgeStatement_0, KX3_judgeStatement_112, KX3_judgeStatement_122, KX3_judgeStatement_133, KX3_judgeStatement_137, KX3_judgeStatement_138, KX3_judgeStatement_152, KX3_judgeStatement_160, KX3_judgeStatement_168, KX3_judgeStatement_176, KX3_judgeStatement_186, KX3_judgeStatement_209, KX3_judgeStatement_217, KX3_judgeStatement_224, KX3_judgeStatement_234, KX3_judgeStatement_253, lkC, s1C, s2C, dlC, kyC, Nat.beq, Nat.ble, rcd, rno, rsw, Nat.reduceAdd, Nat.reduceBEq, Nat.reduceDiv, List.drop, List.take, List.reverse, List.reverseAux, Int.toNat, Option.toList, List.append, List.cons_append, List.nil_append, zg62, zg68, zg121, zg270, zg279]
          have c74 : (Int32.ofInt 0).toInt = 0 := by decide
          refine hB _ _ _ _ _ (fun m75 hm75 => ?_)
          dsimp only [ucgo, ucwp, ucsC, uqC, uoC, ctC, rfd, KX3_judgeStatement, KX3_judgeStatement_0, KX3_judgeStatement_112, KX3_judgeStatement_122, KX3_judgeStatement_133, KX3_judgeStatement_137, KX3_judgeStatement_138, KX3_judgeStatement_152, KX3_judgeStatement_160, KX3_judgeStatement_168, KX3_judgeStatement_176, KX3_judgeStatement_186, KX3_judgeStatement_209, KX3_judgeStatement_217, KX3_judgeStatement_224, KX3_judgeStatement_234, KX3_judgeStatement_253, lkC, s1C, s2C, dlC, kyC, Nat.beq, Nat.ble, rcd, rno, rsw, Nat.reduceAdd, Nat.reduceBEq, Nat.reduceDiv, List.drop, List.take, List.reverse, List.reverseAux, Int.toNat, Option.toList, List.append, List.cons_append, List.nil_append, zg62, zg68, zg121, zg270, zg279]
          intro a76 e76 ob76
          cases e76
          have f77 : (fRC σ p1 279) = some (A kx62) := by rw [show (fRC σ p1 279) = opA A (xjS z j) from op.1.2.2.2.2.2.1, hk62, opA_k]
          intro a78 e78 ob78
          obtain rfl : A kx62 = a78 := Option.some.inj (f77.symm.trans e78)
          intro w80 τ80 o80 q80
          obtain ⟨rfl, qq80⟩ := q80 (N, E, A, B, V, z) ⟨_, _, rfl, hNm.1⟩
          rcases qq80 with ⟨qa80, rfl⟩ | ⟨qa80, qb80⟩
          · have qc80 := qa80
            try dsimp only [Option.toList, List.cons_append, List.nil_append, s1C, s2C, dlC, kyC, Nat.beq, lkC, rcd, rno, rsw]
            refine hB _ _ _ _ _ (fun m81 hm81 => ?_)
            dsimp only [ucgo, ucwp, ucsC, uqC, uoC, ctC, rfd, KX3_judgeStatement, KX3_judgeStatement_0, KX3_judgeStatement_112, KX3_judgeStatement_122, KX3_judgeStatement_133, KX3_judgeStatement_137, KX3_judgeStatement_138, KX3_judgeStatement_152, KX3_judgeStatement_160, KX3_judgeStatement_168, KX3_judgeStatement_176, KX3_judgeStatement_186, KX3_judgeStatement_209, KX3_judgeStatement_217, KX3_judgeStatement_224, KX3_judgeStatement_234, KX3_judgeStatement_253, lkC, s1C, s2C, dlC, kyC, Nat.beq, Nat.ble, rcd, rno, rsw, Nat.reduceAdd, Nat.reduceBEq, Nat.reduceDiv, List.drop, List.take, List.reverse, List.reverseAux, Int.toNat, Option.toList, List.append, List.cons_append, List.nil_append, zg62, zg68, zg121, zg270, zg279]
            try dsimp only [Qz_judgeStatement]
            exact fun τ9 h9 => ⟨rfl, (er_we h9).trans (iff_e ((sk_k (P := (0 ≤ xjS z j → (T.1 (xjS z j).toNat).1 = 0)) (N := N) (T := T) (ms := ms) (fun _ => Iff.rfl) (fun q9 => by omega) (fun q9 => by omega) (fun q9 => by omega) (fun q9 => by omega) (fun q9 => by omega) (fun q9 => by omega) (fun q1 q2 q3 q4 q5 q6 q7 => by omega)).mp (show (0 ≤ xjS z j → (T.1 (xjS z j).toNat).1 = 0) by rw [hk62, Int.toNat_natCast]; exact fun q9 => by omega))).symm, (by rw [we_r h9]; exact (s281 (E := E) (A := A) (V := V) FrE.rf op.2 h281 (by omega)).1), (by rw [we_r h9]; exact (s281 (E := E) (A := A) (V := V) (N := N) (B := B) (z := z) (j := j) FrE.rf op.2 h281 (by omega)).2)⟩
          · have qc80 := qa80
            have hF80 : FrE [217, 218] σ τ80 := FrE.mo o80.2 rfl
            have hSs_80 := SsC.fr hSs hF80 rfl
            have hNm_80 := NmC.fr hNm hF80 rfl
            have op_80 : SlC A B τ80 z j p1 ∧ p1 < cnC τ80 := by rw [hp]; exact hSs_80.1 j hj
            have o65_80 := hSs_80.2.1 kx62 hl62
            try dsimp only [Option.toList, List.cons_append, List.nil_append, s1C, s2C, dlC, kyC, Nat.beq, lkC, rcd, rno, rsw]
            refine hB _ _ _ _ _ (fun m82 hm82 => ?_)
            dsimp only [ucgo, ucwp, ucsC, uqC, uoC, ctC, rfd, KX3_judgeStatement, KX3_judgeStatement_0, KX3_judgeStatement_112, KX3_judgeStatement_122, KX3_judgeStatement_133, KX3_judgeStatement_137, KX3_judgeStatement_138, KX3_judgeStatement_152, KX3_judgeStatement_160, KX3_judgeStatement_168, KX3_judgeStatement_176, KX3_judgeStatement_186, KX3_judgeStatement_209, KX3_judgeStatement_217, KX3_judgeStatement_224, KX3_judgeStatement_234, KX3_judgeStatement_253, lkC, s1C, s2C, dlC, kyC, Nat.beq, Nat.ble, rcd, rno, rsw, Nat.reduceAdd, Nat.reduceBEq, Nat.reduceDiv, List.drop, List.take, List.reverse, List.reverseAux, Int.toNat, Option.toList, List.append, List.cons_append, List.nil_append, zg62, zg68, zg121, zg270, zg279]
            try dsimp only [Qz_judgeStatement]
            exact fun τ9 h9 => ⟨rfl, (er_we h9).trans ((iff_of_true qb80 (Or.inr (show ¬ (0 ≤ xjS z j → (T.1 (xjS z j).toNat).1 = 0) by rw [hk62, Int.toNat_natCast]; intro q9; have q8 := q9 (by omega); omega))).trans (or_congr Iff.rfl (not_congr (sk_k (P := (0 ≤ xjS z j → (T.1 (xjS z j).toNat).1 = 0)) (N := N) (T := T) (ms := ms) (fun _ => Iff.rfl) (fun q9 => by omega) (fun q9 => by omega) (fun q9 => by omega) (fun q9 => by omega) (fun q9 => by omega) (fun q9 => by omega) (fun q1 q2 q3 q4 q5 q6 q7 => by omega))))), (by rw [we_r h9]; exact (s281 (E := E) (A := A) (V := V) hF80 op.2 h281 (by omega)).1), (by rw [we_r h9]; exact (s281 (E := E) (A := A) (V := V) (N := N) (B := B) (z := z) (j := j) hF80 op.2 h281 (by omega)).2)⟩
        · have g72 := (eqI (x := (fIC σ (A kx62) 68)) (y := 0) h72 : ((fIC σ (A kx62) 68) : Int32).toInt = (0 : Int32).toInt)
          have z0_ : (0 : Int32).toInt = 0 := rfl
          refine hB _ _ _ _ _ (fun m83 hm83 => ?_)
          dsimp only [ucgo, ucwp, ucsC, uqC, uoC, ctC, rfd, KX3_judgeStatement, KX3_judgeStatement_0, KX3_judgeStatement_112, KX3_judgeStatement_122, KX3_judgeStatement_133, KX3_judgeStatement_137, KX3_judgeStatement_138, KX3_judgeStatement_152, KX3_judgeStatement_160, KX3_judgeStatement_168, KX3_judgeStatement_176, KX3_judgeStatement_186, KX3_judgeStatement_209, KX3_judgeStatement_217, KX3_judgeStatement_224, KX3_judgeStatement_234, KX3_judgeStatement_253, lkC, s1C, s2C, dlC, kyC, Nat.beq, Nat.ble, rcd, rno, rsw, Nat.reduceAdd, Nat.reduceBEq, Nat.reduceDiv, List.drop, List.take, List.reverse, List.reverseAux, Int.toNat, Option.toList, List.append, List.cons_append, List.nil_append, zg62, zg68, zg121, zg270, zg279]
          have c84 : (Int32.ofInt 1).toInt = 1 := by decide
          refine hB _ _ _ _ _ (fun m85 hm85 => ?_)
          dsimp only [ucgo, ucwp, ucsC, uqC, uoC, ctC, rfd, KX3_judgeStatement, KX3_judgeStatement_0, KX3_judgeStatement_112, KX3_judgeStatement_122, KX3_judgeStatement_133, KX3_judgeStatement_137, KX3_judgeStatement_138, KX3_judgeStatement_152, KX3_judgeStatement_160, KX3_judgeStatement_168, KX3_judgeStatement_176, KX3_judgeStatement_186, KX3_judgeStatement_209, KX3_judgeStatement_217, KX3_judgeStatement_224, KX3_judgeStatement_234, KX3_judgeStatement_253, lkC, s1C, s2C, dlC, kyC, Nat.beq, Nat.ble, rcd, rno, rsw, Nat.reduceAdd, Nat.reduceBEq, Nat.reduceDiv, List.drop, List.take, List.reverse, List.reverseAux, Int.toNat, Option.toList, List.append, List.cons_append, List.nil_append, zg62, zg68, zg121, zg270, zg279]
          intro a86 e86 ob86
          cases e86
          have f87 : (fRC σ p1 279) = some (A kx62) := by rw [show (fRC σ p1 279) = opA A (xjS z j) from op.1.2.2.2.2.2.1, hk62, opA_k]
          intro a88 e88 ob88
          obtain rfl : A kx62 = a88 := Option.some.inj (f87.symm.trans e88)
          intro w90 τ90 o90 q90
          obtain ⟨rfl, qq90⟩ := q90 (N, E, A, B, V, z) ⟨_, _, rfl, hNm.1⟩
          rcases qq90 with ⟨qa90, rfl⟩ | ⟨qa90, qb90⟩
          · have qc90 := qa90
            try dsimp only [Option.toList, List.cons_append, List.nil_append, s1C, s2C, dlC, kyC, Nat.beq, lkC, rcd, rno, rsw]
            refine hB _ _ _ _ _ (fun m91 hm91 => ?_)
            dsimp only [ucgo, ucwp, ucsC, uqC, uoC, ctC, rfd, KX3_judgeStatement, KX3_judgeStatement_0, KX3_judgeStatement_112, KX3_judgeStatement_122, KX3_judgeStatement_133, KX3_judgeStatement_137, KX3_judgeStatement_138, KX3_judgeStatement_152, KX3_judgeStatement_160, KX3_judgeStatement_168, KX3_judgeStatement_176, KX3_judgeStatement_186, KX3_judgeStatement_209, KX3_judgeStatement_217, KX3_judgeStatement_224, KX3_judgeStatement_234, KX3_judgeStatement_253, lkC, s1C, s2C, dlC, kyC, Nat.beq, Nat.ble, rcd, rno, rsw, Nat.reduceAdd, Nat.reduceBEq, Nat.reduceDiv, List.drop, List.take, List.reverse, List.reverseAux, Int.toNat, Option.toList, List.append, List.cons_append, List.nil_append, zg62, zg68, zg121, zg270, zg279]
            try dsimp only [Qz_judgeStatement]
            exact fun τ9 h9 => ⟨rfl, (er_we h9).trans (iff_e ((sk_k (P := (0 ≤ xjS z j → (T.1 (xjS z j).toNat).1 = 0)) (N := N) (T := T) (ms := ms) (fun _ => Iff.rfl) (fun q9 => by omega) (fun q9 => by omega) (fun q9 => by omega) (fun q9 => by omega) (fun q9 => by omega) (fun q9 => by omega) (fun q1 q2 q3 q4 q5 q6 q7 => by omega)).mp (show (0 ≤ xjS z j → (T.1 (xjS z j).toNat).1 = 0) by rw [hk62, Int.toNat_natCast]; exact fun q9 => by omega))).symm, (by rw [we_r h9]; exact (s281 (E := E) (A := A) (V := V) FrE.rf op.2 h281 (by omega)).1), (by rw [we_r h9]; exact (s281 (E := E) (A := A) (V := V) (N := N) (B := B) (z := z) (j := j) FrE.rf op.2 h281 (by omega)).2)⟩
          · have qc90 := qa90
            have hF90 : FrE [217, 218] σ τ90 := FrE.mo o90.2 rfl
            have hSs_90 := SsC.fr hSs hF90 rfl
            have hNm_90 := NmC.fr hNm hF90 rfl
            have op_90 : SlC A B τ90 z j p1 ∧ p1 < cnC τ90 := by rw [hp]; exact hSs_90.1 j hj
            have o65_90 := hSs_90.2.1 kx62 hl62
            try dsimp only [Option.toList, List.cons_append, List.nil_append, s1C, s2C, dlC, kyC, Nat.beq, lkC, rcd, rno, rsw]
            refine hB _ _ _ _ _ (fun m92 hm92 => ?_)
            dsimp only [ucgo, ucwp, ucsC, uqC, uoC, ctC, rfd, KX3_judgeStatement, KX3_judgeStatement_0, KX3_judgeStatement_112, KX3_judgeStatement_122, KX3_judgeStatement_133, KX3_judgeStatement_137, KX3_judgeStatement_138, KX3_judgeStatement_152, KX3_judgeStatement_160, KX3_judgeStatement_168, KX3_judgeStatement_176, KX3_judgeStatement_186, KX3_judgeStatement_209, KX3_judgeStatement_217, KX3_judgeStatement_224, KX3_judgeStatement_234, KX3_judgeStatement_253, lkC, s1C, s2C, dlC, kyC, Nat.beq, Nat.ble, rcd, rno, rsw, Nat.reduceAdd, Nat.reduceBEq, Nat.reduceDiv, List.drop, List.take, List.reverse, List.reverseAux, Int.toNat, Option.toList, List.append, List.cons_append, List.nil_append, zg62, zg68, zg121, zg270, zg279]
            try dsimp only [Qz_judgeStatement]
            exact fun τ9 h9 => ⟨rfl, (er_we h9).trans ((iff_of_true qb90 (Or.inr (show ¬ (0 ≤ xjS z j → (T.1 (xjS z j).toNat).1 = 0) by rw [hk62, Int.toNat_natCast]; intro q9; have q8 := q9 (by omega); omega))).trans (or_congr Iff.rfl (not_congr (sk_k (P := (0 ≤ xjS z j → (T.1 (xjS z j).toNat).1 = 0)) (N := N) (T := T) (ms := ms) (fun _ => Iff.rfl) (fun q9 => by omega) (fun q9 => by omega) (fun q9 => by omega) (fun q9 => by omega) (fun q9 => by omega) (fun q9 => by omega) (fun q1 q2 q3 q4 q5 q6 q7 => by omega))))), (by rw [we_r h9]; exact (s281 (E := E) (A := A) (V := V) hF90 op.2 h281 (by omega)).1), (by rw [we_r h9]; exact (s281 (E := E) (A := A) (V := V) (N := N) (B := B) (z := z) (j := j) hF90 op.2 h281 (by omega)).2)⟩
  have g58 : ¬ ((fIC σ p1 270) : Int32).toInt = 56 := h58
  refine ⟨fun h93 => ?_, fun h93 => ?_⟩
  · have g93 : ((fIC σ p1 270) : Int32).toInt = 58 := h93
    refine hB _ _ _ _ _ (fun m94 hm94 => ?_)
    dsimp only [ucgo, ucwp, ucsC, uqC, uoC, ctC, rfd, KX3_judgeStatement, KX3_judgeStatement_0, KX3_judgeStatement_112, KX3_judgeStatement_122, KX3_judgeStatement_133, KX3_judgeStatement_137, KX3_judgeStatement_138, KX3_judgeStatement_152, KX3_judgeStatement_160, KX3_judgeStatement_168, KX3_judgeStatement_176, KX3_judgeStatement_186, KX3_judgeStatement_209, KX3_judgeStatement_217, KX3_judgeStatement_224, KX3_judgeStatement_234, KX3_judgeStatement_253, lkC, s1C, s2C, dlC, kyC, Nat.beq, Nat.ble, rcd, rno, rsw, Nat.reduceAdd, Nat.reduceBEq, Nat.reduceDiv, List.drop, List.take, List.reverse, List.reverseAux, Int.toNat, Option.toList, List.append, List.cons_append, List.nil_append, zg62, zg68, zg121, zg270, zg279]
    intro a95 e95 ob95
    cases e95
    have f96 : (fRC σ p1 279) = opA A (xjS z j) := op.1.2.2.2.2.2.1
    intro w97 τ97 o97 q97
    obtain ⟨r97, rfl, hr97, rfl⟩ := q97 (N, E, A, B, V, z) ⟨_, rfl⟩
    rcases Int.lt_or_le (xjS z j) 0 with hz97 | hz97
    · have rz97 : r97.toInt = 1 := by
        rcases hr97 with q9 | q9
        · exact q9.1
        · exact absurd (fun a9 q8 => by rw [f96, opA_n hz97] at q8; cases q8) q9.2
      try dsimp only [Option.toList, List.cons_append, List.nil_append, s1C, s2C, dlC, kyC, Nat.beq, lkC, rcd, rno, rsw]
      refine ⟨fun h98 => ?_, fun h98 => ?_⟩
      · have g98 := (neI (x := r97) (y := 0) h98 : ¬ (r97 : Int32).toInt = (0 : Int32).toInt)
        have z0_ : (0 : Int32).toInt = 0 := rfl
        refine hB _ _ _ _ _ (fun m99 hm99 => ?_)
        dsimp only [ucgo, ucwp, ucsC, uqC, uoC, ctC, rfd, KX3_judgeStatement, KX3_judgeStatement_0, KX3_judgeStatement_112, KX3_judgeStatement_122, KX3_judgeStatement_133, KX3_judgeStatement_137, KX3_judgeStatement_138, KX3_judgeStatement_152, KX3_judgeStatement_160, KX3_judgeStatement_168, KX3_judgeStatement_176, KX3_judgeStatement_186, KX3_judgeStatement_209, KX3_judgeStatement_217, KX3_judgeStatement_224, KX3_judgeStatement_234, KX3_judgeStatement_253, lkC, s1C, s2C, dlC, kyC, Nat.beq, Nat.ble, rcd, rno, rsw, Nat.reduceAdd, Nat.reduceBEq, Nat.reduceDiv, List.drop, List.take, List.reverse, List.reverseAux, Int.toNat, Option.toList, List.append, List.cons_append, List.nil_append, zg62, zg68, zg121, zg270, zg279]
        try dsimp only [Qz_judgeStatement]
        exact fun τ9 h9 => ⟨rfl, (er_we h9).trans (iff_e ((sk_k (P := (0 ≤ xjS z j → (T.1 (xjS z j).toNat).1 = 0)) (N := N) (T := T) (ms := ms) (fun _ => Iff.rfl) (fun q9 => by omega) (fun q9 => by omega) (fun q9 => by omega) (fun q9 => by omega) (fun q9 => by omega) (fun q9 => by omega) (fun q1 q2 q3 q4 q5 q6 q7 => by omega)).mp (show (0 ≤ xjS z j → (T.1 (xjS z j).toNat).1 = 0) by exact fun q9 => by omega))).symm, (by rw [we_r h9]; exact (s281 (E := E) (A := A) (V := V) FrE.rf op.2 h281 (by omega)).1), (by rw [we_r h9]; exact (s281 (E := E) (A := A) (V := V) (N := N) (B := B) (z := z) (j := j) FrE.rf op.2 h281 (by omega)).2)⟩
      · have g98 := (eqI (x := r97) (y := 0) h98 : (r97 : Int32).toInt = (0 : Int32).toInt)
        have z0_ : (0 : Int32).toInt = 0 := rfl
        exfalso
        omega
    · obtain ⟨kx97, hk97⟩ : ∃ k : Nat, xjS z j = (k : Int) := ⟨(xjS z j).toNat, by omega⟩
      have hw_kx97 := (hwf j hj).2.1 hz97
      rw [hk97, Int.toNat_natCast] at hw_kx97
      have hl97 : kx97 < xnM z := by omega
      have hv97 : (fRC σ p1 279) = some (A kx97) := by rw [f96, hk97, opA_k]
      have o100 := hSs.2.1 kx97 hl97
      have rz97 : r97.toInt = 0 := by
        rcases hr97 with q9 | q9
        · exact absurd (o100.1.1.1.symm.trans (q9.2 _ hv97)) hw_kx97.2
        · exact q9.1
      try dsimp only [Option.toList, List.cons_append, List.nil_append, s1C, s2C, dlC, kyC, Nat.beq, lkC, rcd, rno, rsw]
      refine ⟨fun h101 => ?_, fun h101 => ?_⟩
      · have g101 := (neI (x := r97) (y := 0) h101 : ¬ (r97 : Int32).toInt = (0 : Int32).toInt)
        have z0_ : (0 : Int32).toInt = 0 := rfl
        exfalso
        omega
      · have g101 := (eqI (x := r97) (y := 0) h101 : (r97 : Int32).toInt = (0 : Int32).toInt)
        have z0_ : (0 : Int32).toInt = 0 := rfl
        refine hB _ _ _ _ _ (fun m102 hm102 => ?_)
        dsimp only [ucgo, ucwp, ucsC, uqC, uoC, ctC, rfd, KX3_judgeStatement, KX3_judgeStatement_0, KX3_judgeStatement_112, KX3_judgeStatement_122, KX3_judgeStatement_133, KX3_judgeStatement_137, KX3_judgeStatement_138, KX3_judgeStatement_152, KX3_judgeStatement_160, KX3_judgeStatement_168, KX3_judgeStatement_176, KX3_judgeStatement_186, KX3_judgeStatement_209, KX3_judgeStatement_217, KX3_judgeStatement_224, KX3_judgeStatement_234, KX3_judgeStatement_253, lkC, s1C, s2C, dlC, kyC, Nat.beq, Nat.ble, rcd, rno, rsw, Nat.reduceAdd, Nat.reduceBEq, Nat.reduceDiv, List.drop, List.take, List.reverse, List.reverseAux, Int.toNat, Option.toList, List.append, List.cons_append, List.nil_append, zg62, zg68, zg121, zg270, zg279]
        intro a103 e103 ob103
        cases e103
        have f104 : (fRC σ p1 279) = some (A kx97) := by rw [show (fRC σ p1 279) = opA A (xjS z j) from op.1.2.2.2.2.2.1, hk97, opA_k]
        intro a105 e105 ob105
        obtain rfl : A kx97 = a105 := Option.some.inj (f104.symm.trans e105)
        have f106 : (fIC σ (A kx97) 68).toInt = (T.1 kx97).1 := o100.1.1.1
        refine ⟨fun h107 => ?_, fun h107 => ?_⟩
        · have g107 := (neI (x := (fIC σ (A kx97) 68)) (y := 0) h107 : ¬ ((fIC σ (A kx97) 68) : Int32).toInt = (0 : Int32).toInt)
          have z0_ : (0 : Int32).toInt = 0 := rfl
          refine hB _ _ _ _ _ (fun m108 hm108 => ?_)
          dsimp only [ucgo, ucwp, ucsC, uqC, uoC, ctC, rfd, KX3_judgeStatement, KX3_judgeStatement_0, KX3_judgeStatement_112, KX3_judgeStatement_122, KX3_judgeStatement_133, KX3_judgeStatement_137, KX3_judgeStatement_138, KX3_judgeStatement_152, KX3_judgeStatement_160, KX3_judgeStatement_168, KX3_judgeStatement_176, KX3_judgeStatement_186, KX3_judgeStatement_209, KX3_judgeStatement_217, KX3_judgeStatement_224, KX3_judgeStatement_234, KX3_judgeStatement_253, lkC, s1C, s2C, dlC, kyC, Nat.beq, Nat.ble, rcd, rno, rsw, Nat.reduceAdd, Nat.reduceBEq, Nat.reduceDiv, List.drop, List.take, List.reverse, List.reverseAux, Int.toNat, Option.toList, List.append, List.cons_append, List.nil_append, zg62, zg68, zg121, zg270, zg279]
          have c109 : (Int32.ofInt 0).toInt = 0 := by decide
          refine hB _ _ _ _ _ (fun m110 hm110 => ?_)
          dsimp only [ucgo, ucwp, ucsC, uqC, uoC, ctC, rfd, KX3_judgeStatement, KX3_judgeStatement_0, KX3_judgeStatement_112, KX3_judgeStatement_122, KX3_judgeStatement_133, KX3_judgeStatement_137, KX3_judgeStatement_138, KX3_judgeStatement_152, KX3_judgeStatement_160, KX3_judgeStatement_168, KX3_judgeStatement_176, KX3_judgeStatement_186, KX3_judgeStatement_209, KX3_judgeStatement_217, KX3_judgeStatement_224, KX3_judgeStatement_234, KX3_judgeStatement_253, lkC, s1C, s2C, dlC, kyC, Nat.beq, Nat.ble, rcd, rno, rsw, Nat.reduceAdd, Nat.reduceBEq, Nat.reduceDiv, List.drop, List.take, List.reverse, List.reverseAux, Int.toNat, Option.toList, List.append, List.cons_append, List.nil_append, zg62, zg68, zg121, zg270, zg279]
          intro a111 e111 ob111
          cases e111
          have f112 : (fRC σ p1 279) = some (A kx97) := by rw [show (fRC σ p1 279) = opA A (xjS z j) from op.1.2.2.2.2.2.1, hk97, opA_k]
          intro a113 e113 ob113
          obtain rfl : A kx97 = a113 := Option.some.inj (f112.symm.trans e113)
          intro w115 τ115 o115 q115
          obtain ⟨rfl, qq115⟩ := q115 (N, E, A, B, V, z) ⟨_, _, rfl, hNm.1⟩
          rcases qq115 with ⟨qa115, rfl⟩ | ⟨qa115, qb115⟩
          · have qc115 := qa115
            try dsimp only [Option.toList, List.cons_append, List.nil_append, s1C, s2C, dlC, kyC, Nat.beq, lkC, rcd, rno, rsw]
            refine hB _ _ _ _ _ (fun m116 hm116 => ?_)
            dsimp only [ucgo, ucwp, ucsC, uqC, uoC, ctC, rfd, KX3_judgeStatement, KX3_judgeStatement_0, KX3_judgeStatement_112, KX3_judgeStatement_122, KX3_judgeStatement_133, KX3_judgeStatement_137, KX3_judgeStatement_138, KX3_judgeStatement_152, KX3_judgeStatement_160, KX3_judgeStatement_168, KX3_judgeStatement_176, KX3_judgeStatement_186, KX3_judgeStatement_209, KX3_judgeStatement_217, KX3_judgeStatement_224, KX3_judgeStatement_234, KX3_judgeStatement_253, lkC, s1C, s2C, dlC, kyC, Nat.beq, Nat.ble, rcd, rno, rsw, Nat.reduceAdd, Nat.reduceBEq, Nat.reduceDiv, List.drop, List.take, List.reverse, List.reverseAux, Int.toNat, Option.toList, List.append, List.cons_append, List.nil_append, zg62, zg68, zg121, zg270, zg279]
            try dsimp only [Qz_judgeStatement]
            exact fun τ9 h9 => ⟨rfl, (er_we h9).trans (iff_e ((sk_k (P := (0 ≤ xjS z j → (T.1 (xjS z j).toNat).1 = 0)) (N := N) (T := T) (ms := ms) (fun _ => Iff.rfl) (fun q9 => by omega) (fun q9 => by omega) (fun q9 => by omega) (fun q9 => by omega) (fun q9 => by omega) (fun q9 => by omega) (fun q1 q2 q3 q4 q5 q6 q7 => by omega)).mp (show (0 ≤ xjS z j → (T.1 (xjS z j).toNat).1 = 0) by rw [hk97, Int.toNat_natCast]; exact fun q9 => by omega))).symm, (by rw [we_r h9]; exact (s281 (E := E) (A := A) (V := V) FrE.rf op.2 h281 (by omega)).1), (by rw [we_r h9]; exact (s281 (E := E) (A := A) (V := V) (N := N) (B := B) (z := z) (j := j) FrE.rf op.2 h281 (by omega)).2)⟩
          · have qc115 := qa115
            have hF115 : FrE [217, 218] σ τ115 := FrE.mo o115.2 rfl
            have hSs_115 := SsC.fr hSs hF115 rfl
            have hNm_115 := NmC.fr hNm hF115 rfl
            have op_115 : SlC A B τ115 z j p1 ∧ p1 < cnC τ115 := by rw [hp]; exact hSs_115.1 j hj
            have o100_115 := hSs_115.2.1 kx97 hl97
            try dsimp only [Option.toList, List.cons_append, List.nil_append, s1C, s2C, dlC, kyC, Nat.beq, lkC, rcd, rno, rsw]
            refine hB _ _ _ _ _ (fun m117 hm117 => ?_)
            dsimp only [ucgo, ucwp, ucsC, uqC, uoC, ctC, rfd, KX3_judgeStatement, KX3_judgeStatement_0, KX3_judgeStatement_112, KX3_judgeStatement_122, KX3_judgeStatement_133, KX3_judgeStatement_137, KX3_judgeStatement_138, KX3_judgeStatement_152, KX3_judgeStatement_160, KX3_judgeStatement_168, KX3_judgeStatement_176, KX3_judgeStatement_186, KX3_judgeStatement_209, KX3_judgeStatement_217, KX3_judgeStatement_224, KX3_judgeStatement_234, KX3_judgeStatement_253, lkC, s1C, s2C, dlC, kyC, Nat.beq, Nat.ble, rcd, rno, rsw, Nat.reduceAdd, Nat.reduceBEq, Nat.reduceDiv, List.drop, List.take, List.reverse, List.reverseAux, Int.toNat, Option.toList, List.append, List.cons_append, List.nil_append, zg62, zg68, zg121, zg270, zg279]
            try dsimp only [Qz_judgeStatement]
            exact fun τ9 h9 => ⟨rfl, (er_we h9).trans ((iff_of_true qb115 (Or.inr (show ¬ (0 ≤ xjS z j → (T.1 (xjS z j).toNat).1 = 0) by rw [hk97, Int.toNat_natCast]; intro q9; have q8 := q9 (by omega); omega))).trans (or_congr Iff.rfl (not_congr (sk_k (P := (0 ≤ xjS z j → (T.1 (xjS z j).toNat).1 = 0)) (N := N) (T := T) (ms := ms) (fun _ => Iff.rfl) (fun q9 => by omega) (fun q9 => by omega) (fun q9 => by omega) (fun q9 => by omega) (fun q9 => by omega) (fun q9 => by omega) (fun q1 q2 q3 q4 q5 q6 q7 => by omega))))), (by rw [we_r h9]; exact (s281 (E := E) (A := A) (V := V) hF115 op.2 h281 (by omega)).1), (by rw [we_r h9]; exact (s281 (E := E) (A := A) (V := V) (N := N) (B := B) (z := z) (j := j) hF115 op.2 h281 (by omega)).2)⟩
        · have g107 := (eqI (x := (fIC σ (A kx97) 68)) (y := 0) h107 : ((fIC σ (A kx97) 68) : Int32).toInt = (0 : Int32).toInt)
          have z0_ : (0 : Int32).toInt = 0 := rfl
          refine hB _ _ _ _ _ (fun m118 hm118 => ?_)
          dsimp only [ucgo, ucwp, ucsC, uqC, uoC, ctC, rfd, KX3_judgeStatement, KX3_judgeStatement_0, KX3_judgeStatement_112, KX3_judgeStatement_122, KX3_judgeStatement_133, KX3_judgeStatement_137, KX3_judgeStatement_138, KX3_judgeStatement_152, KX3_judgeStatement_160, KX3_judgeStatement_168, KX3_judgeStatement_176, KX3_judgeStatement_186, KX3_judgeStatement_209, KX3_judgeStatement_217, KX3_judgeStatement_224, KX3_judgeStatement_234, KX3_judgeStatement_253, lkC, s1C, s2C, dlC, kyC, Nat.beq, Nat.ble, rcd, rno, rsw, Nat.reduceAdd, Nat.reduceBEq, Nat.reduceDiv, List.drop, List.take, List.reverse, List.reverseAux, Int.toNat, Option.toList, List.append, List.cons_append, List.nil_append, zg62, zg68, zg121, zg270, zg279]
          have c119 : (Int32.ofInt 1).toInt = 1 := by decide
          refine hB _ _ _ _ _ (fun m120 hm120 => ?_)
          dsimp only [ucgo, ucwp, ucsC, uqC, uoC, ctC, rfd, KX3_judgeStatement, KX3_judgeStatement_0, KX3_judgeStatement_112, KX3_judgeStatement_122, KX3_judgeStatement_133, KX3_judgeStatement_137, KX3_judgeStatement_138, KX3_judgeStatement_152, KX3_judgeStatement_160, KX3_judgeStatement_168, KX3_judgeStatement_176, KX3_judgeStatement_186, KX3_judgeStatement_209, KX3_judgeStatement_217, KX3_judgeStatement_224, KX3_judgeStatement_234, KX3_judgeStatement_253, lkC, s1C, s2C, dlC, kyC, Nat.beq, Nat.ble, rcd, rno, rsw, Nat.reduceAdd, Nat.reduceBEq, Nat.reduceDiv, List.drop, List.take, List.reverse, List.reverseAux, Int.toNat, Option.toList, List.append, List.cons_append, List.nil_append, zg62, zg68, zg121, zg270, zg279]
          intro a121 e121 ob121
          cases e121
          have f122 : (fRC σ p1 279) = some (A kx97) := by rw [show (fRC σ p1 279) = opA A (xjS z j) from op.1.2.2.2.2.2.1, hk97, opA_k]
          intro a123 e123 ob123
          obtain rfl : A kx97 = a123 := Option.some.inj (f122.symm.trans e123)
          intro w125 τ125 o125 q125
          obtain ⟨rfl, qq125⟩ := q125 (N, E, A, B, V, z) ⟨_, _, rfl, hNm.1⟩
          rcases qq125 with ⟨qa125, rfl⟩ | ⟨qa125, qb125⟩
          · have qc125 := qa125
            try dsimp only [Option.toList, List.cons_append, List.nil_append, s1C, s2C, dlC, kyC, Nat.beq, lkC, rcd, rno, rsw]
            refine hB _ _ _ _ _ (fun m126 hm126 => ?_)
            dsimp only [ucgo, ucwp, ucsC, uqC, uoC, ctC, rfd, KX3_judgeStatement, KX3_judgeStatement_0, KX3_judgeStatement_112, KX3_judgeStatement_122, KX3_judgeStatement_133, KX3_judgeStatement_137, KX3_judgeStatement_138, KX3_judgeStatement_152, KX3_judgeStatement_160, KX3_judgeStatement_168, KX3_judgeStatement_176, KX3_judgeStatement_186, KX3_judgeStatement_209, KX3_judgeStatement_217, KX3_judgeStatement_224, KX3_judgeStatement_234, KX3_judgeStatement_253, lkC, s1C, s2C, dlC, kyC, Nat.beq, Nat.ble, rcd, rno, rsw, Nat.reduceAdd, Nat.reduceBEq, Nat.reduceDiv, List.drop, List.take, List.reverse, List.reverseAux, Int.toNat, Option.toList, List.append, List.cons_append, List.nil_append, zg62, zg68, zg121, zg270, zg279]
            try dsimp only [Qz_judgeStatement]
            exact fun τ9 h9 => ⟨rfl, (er_we h9).trans (iff_e ((sk_k (P := (0 ≤ xjS z j → (T.1 (xjS z j).toNat).1 = 0)) (N := N) (T := T) (ms := ms) (fun _ => Iff.rfl) (fun q9 => by omega) (fun q9 => by omega) (fun q9 => by omega) (fun q9 => by omega) (fun q9 => by omega) (fun q9 => by omega) (fun q1 q2 q3 q4 q5 q6 q7 => by omega)).mp (show (0 ≤ xjS z j → (T.1 (xjS z j).toNat).1 = 0) by rw [hk97, Int.toNat_natCast]; exact fun q9 => by omega))).symm, (by rw [we_r h9]; exact (s281 (E := E) (A := A) (V := V) FrE.rf op.2 h281 (by omega)).1), (by rw [we_r h9]; exact (s281 (E := E) (A := A) (V := V) (N := N) (B := B) (z := z) (j := j) FrE.rf op.2 h281 (by omega)).2)⟩
          · have qc125 := qa125
            have hF125 : FrE [217, 218] σ τ125 := FrE.mo o125.2 rfl
            have hSs_125 := SsC.fr hSs hF125 rfl
            have hNm_125 := NmC.fr hNm hF125 rfl
            have op_125 : SlC A B τ125 z j p1 ∧ p1 < cnC τ125 := by rw [hp]; exact hSs_125.1 j hj
            have o100_125 := hSs_125.2.1 kx97 hl97
            try dsimp only [Option.toList, List.cons_append, List.nil_append, s1C, s2C, dlC, kyC, Nat.beq, lkC, rcd, rno, rsw]
            refine hB _ _ _ _ _ (fun m127 hm127 => ?_)
            dsimp only [ucgo, ucwp, ucsC, uqC, uoC, ctC, rfd, KX3_judgeStatement, KX3_judgeStatement_0, KX3_judgeStatement_112, KX3_judgeStatement_122, KX3_judgeStatement_133, KX3_judgeStatement_137, KX3_judgeStatement_138, KX3_judgeStatement_152, KX3_judgeStatement_160, KX3_judgeStatement_168, KX3_judgeStatement_176, KX3_judgeStatement_186, KX3_judgeStatement_209, KX3_judgeStatement_217, KX3_judgeStatement_224, KX3_judgeStatement_234, KX3_judgeStatement_253, lkC, s1C, s2C, dlC, kyC, Nat.beq, Nat.ble, rcd, rno, rsw, Nat.reduceAdd, Nat.reduceBEq, Nat.reduceDiv, List.drop, List.take, List.reverse, List.reverseAux, Int.toNat, Option.toList, List.append, List.cons_append, List.nil_append, zg62, zg68, zg121, zg270, zg279]
            try dsimp only [Qz_judgeStatement]
            exact fun τ9 h9 => ⟨rfl, (er_we h9).trans ((iff_of_true qb125 (Or.inr (show ¬ (0 ≤ xjS z j → (T.1 (xjS z j).toNat).1 = 0) by rw [hk97, Int.toNat_natCast]; intro q9; have q8 := q9 (by omega); omega))).trans (or_congr Iff.rfl (not_congr (sk_k (P := (0 ≤ xjS z j → (T.1 (xjS z j).toNat).1 = 0)) (N := N) (T := T) (ms := ms) (fun _ => Iff.rfl) (fun q9 => by omega) (fun q9 => by omega) (fun q9 => by omega) (fun q9 => by omega) (fun q9 => by omega) (fun q9 => by omega) (fun q1 q2 q3 q4 q5 q6 q7 => by omega))))), (by rw [we_r h9]; exact (s281 (E := E) (A := A) (V := V) hF125 op.2 h281 (by omega)).1), (by rw [we_r h9]; exact (s281 (E := E) (A := A) (V := V) (N := N) (B := B) (z := z) (j := j) hF125 op.2 h281 (by omega)).2)⟩
  have g93 : ¬ ((fIC σ p1 270) : Int32).toInt = 58 := h93
  refine ⟨fun h128 => ?_, fun h128 => ?_⟩
  · have g128 : ((fIC σ p1 270) : Int32).toInt = 59 := h128
    refine hB _ _ _ _ _ (fun m129 hm129 => ?_)
    dsimp only [ucgo, ucwp, ucsC, uqC, uoC, ctC, rfd, KX3_judgeStatement, KX3_judgeStatement_0, KX3_judgeStatement_112, KX3_judgeStatement_122, KX3_judgeStatement_133, KX3_judgeStatement_137, KX3_judgeStatement_138, KX3_judgeStatement_152, KX3_judgeStatement_160, KX3_judgeStatement_168, KX3_judgeStatement_176, KX3_judgeStatement_186, KX3_judgeStatement_209, KX3_judgeStatement_217, KX3_judgeStatement_224, KX3_judgeStatement_234, KX3_judgeStatement_253, lkC, s1C, s2C, dlC, kyC, Nat.beq, Nat.ble, rcd, rno, rsw, Nat.reduceAdd, Nat.reduceBEq, Nat.reduceDiv, List.drop, List.take, List.reverse, List.reverseAux, Int.toNat, Option.toList, List.append, List.cons_append, List.nil_append, zg62, zg68, zg121, zg270, zg279]
    intro a130 e130 ob130
    cases e130
    have f131 : (fRC σ p1 279) = opA A (xjS z j) := op.1.2.2.2.2.2.1
    intro w132 τ132 o132 q132
    obtain ⟨r132, rfl, hr132, rfl⟩ := q132 (N, E, A, B, V, z) ⟨_, rfl⟩
    rcases Int.lt_or_le (xjS z j) 0 with hz132 | hz132
    · have rz132 : r132.toInt = 1 := by
        rcases hr132 with q9 | q9
        · exact q9.1
        · exact absurd (fun a9 q8 => by rw [f131, opA_n hz132] at q8; cases q8) q9.2
      try dsimp only [Option.toList, List.cons_append, List.nil_append, s1C, s2C, dlC, kyC, Nat.beq, lkC, rcd, rno, rsw]
      refine ⟨fun h133 => ?_, fun h133 => ?_⟩
      · have g133 := (neI (x := r132) (y := 0) h133 : ¬ (r132 : Int32).toInt = (0 : Int32).toInt)
        have z0_ : (0 : Int32).toInt = 0 := rfl
        refine hB _ _ _ _ _ (fun m134 hm134 => ?_)
        dsimp only [ucgo, ucwp, ucsC, uqC, uoC, ctC, rfd, KX3_judgeStatement, KX3_judgeStatement_0, KX3_judgeStatement_112, KX3_judgeStatement_122, KX3_judgeStatement_133, KX3_judgeStatement_137, KX3_judgeStatement_138, KX3_judgeStatement_152, KX3_judgeStatement_160, KX3_judgeStatement_168, KX3_judgeStatement_176, KX3_judgeStatement_186, KX3_judgeStatement_209, KX3_judgeStatement_217, KX3_judgeStatement_224, KX3_judgeStatement_234, KX3_judgeStatement_253, lkC, s1C, s2C, dlC, kyC, Nat.beq, Nat.ble, rcd, rno, rsw, Nat.reduceAdd, Nat.reduceBEq, Nat.reduceDiv, List.drop, List.take, List.reverse, List.reverseAux, Int.toNat, Option.toList, List.append, List.cons_append, List.nil_append, zg62, zg68, zg121, zg270, zg279]
        try dsimp only [Qz_judgeStatement]
        exact fun τ9 h9 => ⟨rfl, (er_we h9).trans (iff_e ((sk_k (P := (0 ≤ xjS z j → (T.1 (xjS z j).toNat).1 = 0)) (N := N) (T := T) (ms := ms) (fun _ => Iff.rfl) (fun q9 => by omega) (fun q9 => by omega) (fun q9 => by omega) (fun q9 => by omega) (fun q9 => by omega) (fun q9 => by omega) (fun q1 q2 q3 q4 q5 q6 q7 => by omega)).mp (show (0 ≤ xjS z j → (T.1 (xjS z j).toNat).1 = 0) by exact fun q9 => by omega))).symm, (by rw [we_r h9]; exact (s281 (E := E) (A := A) (V := V) FrE.rf op.2 h281 (by omega)).1), (by rw [we_r h9]; exact (s281 (E := E) (A := A) (V := V) (N := N) (B := B) (z := z) (j := j) FrE.rf op.2 h281 (by omega)).2)⟩
      · have g133 := (eqI (x := r132) (y := 0) h133 : (r132 : Int32).toInt = (0 : Int32).toInt)
        have z0_ : (0 : Int32).toInt = 0 := rfl
        exfalso
        omega
    · obtain ⟨kx132, hk132⟩ : ∃ k : Nat, xjS z j = (k : Int) := ⟨(xjS z j).toNat, by omega⟩
      have hw_kx132 := (hwf j hj).2.1 hz132
      rw [hk132, Int.toNat_natCast] at hw_kx132
      have hl132 : kx132 < xnM z := by omega
      have hv132 : (fRC σ p1 279) = some (A kx132) := by rw [f131, hk132, opA_k]
      have o135 := hSs.2.1 kx132 hl132
      have rz132 : r132.toInt = 0 := by
        rcases hr132 with q9 | q9
        · exact absurd (o135.1.1.1.symm.trans (q9.2 _ hv132)) hw_kx132.2
        · exact q9.1
      try dsimp only [Option.toList, List.cons_append, List.nil_append, s1C, s2C, dlC, kyC, Nat.beq, lkC, rcd, rno, rsw]
      refine ⟨fun h136 => ?_, fun h136 => ?_⟩
      · have g136 := (neI (x := r132) (y := 0) h136 : ¬ (r132 : Int32).toInt = (0 : Int32).toInt)
        have z0_ : (0 : Int32).toInt = 0 := rfl
        exfalso
        omega
      · have g136 := (eqI (x := r132) (y := 0) h136 : (r132 : Int32).toInt = (0 : Int32).toInt)
        have z0_ : (0 : Int32).toInt = 0 := rfl
        refine hB _ _ _ _ _ (fun m137 hm137 => ?_)
        dsimp only [ucgo, ucwp, ucsC, uqC, uoC, ctC, rfd, KX3_judgeStatement, KX3_judgeStatement_0, KX3_judgeStatement_112, KX3_judgeStatement_122, KX3_judgeStatement_133, KX3_judgeStatement_137, KX3_judgeStatement_138, KX3_judgeStatement_152, KX3_judgeStatement_160, KX3_judgeStatement_168, KX3_judgeStatement_176, KX3_judgeStatement_186, KX3_judgeStatement_209, KX3_judgeStatement_217, KX3_judgeStatement_224, KX3_judgeStatement_234, KX3_judgeStatement_253, lkC, s1C, s2C, dlC, kyC, Nat.beq, Nat.ble, rcd, rno, rsw, Nat.reduceAdd, Nat.reduceBEq, Nat.reduceDiv, List.drop, List.take, List.reverse, List.reverseAux, Int.toNat, Option.toList, List.append, List.cons_append, List.nil_append, zg62, zg68, zg121, zg270, zg279]
        intro a138 e138 ob138
        cases e138
        have f139 : (fRC σ p1 279) = some (A kx132) := by rw [show (fRC σ p1 279) = opA A (xjS z j) from op.1.2.2.2.2.2.1, hk132, opA_k]
        intro a140 e140 ob140
        obtain rfl : A kx132 = a140 := Option.some.inj (f139.symm.trans e140)
        have f141 : (fIC σ (A kx132) 68).toInt = (T.1 kx132).1 := o135.1.1.1
        refine ⟨fun h142 => ?_, fun h142 => ?_⟩
        · have g142 := (neI (x := (fIC σ (A kx132) 68)) (y := 0) h142 : ¬ ((fIC σ (A kx132) 68) : Int32).toInt = (0 : Int32).toInt)
          have z0_ : (0 : Int32).toInt = 0 := rfl
          refine hB _ _ _ _ _ (fun m143 hm143 => ?_)
          dsimp only [ucgo, ucwp, ucsC, uqC, uoC, ctC, rfd, KX3_judgeStatement, KX3_judgeStatement_0, KX3_judgeStatement_112, KX3_judgeStatement_122, KX3_judgeStatement_133, KX3_judgeStatement_137, KX3_judgeStatement_138, KX3_judgeStatement_152, KX3_judgeStatement_160, KX3_judgeStatement_168, KX3_judgeStatement_176, KX3_judgeStatement_186, KX3_judgeStatement_209, KX3_judgeStatement_217, KX3_judgeStatement_224, KX3_judgeStatement_234, KX3_judgeStatement_253, lkC, s1C, s2C, dlC, kyC, Nat.beq, Nat.ble, rcd, rno, rsw, Nat.reduceAdd, Nat.reduceBEq, Nat.reduceDiv, List.drop, List.take, List.reverse, List.reverseAux, Int.toNat, Option.toList, List.append, List.cons_append, List.nil_append, zg62, zg68, zg121, zg270, zg279]
          have c144 : (Int32.ofInt 0).toInt = 0 := by decide
          refine hB _ _ _ _ _ (fun m145 hm145 => ?_)
          dsimp only [ucgo, ucwp, ucsC, uqC, uoC, ctC, rfd, KX3_judgeStatement, KX3_judgeStatement_0, KX3_judgeStatement_112, KX3_judgeStatement_122, KX3_judgeStatement_133, KX3_judgeStatement_137, KX3_judgeStatement_138, KX3_judgeStatement_152, KX3_judgeStatement_160, KX3_judgeStatement_168, KX3_judgeStatement_176, KX3_judgeStatement_186, KX3_judgeStatement_209, KX3_judgeStatement_217, KX3_judgeStatement_224, KX3_judgeStatement_234, KX3_judgeStatement_253, lkC, s1C, s2C, dlC, kyC, Nat.beq, Nat.ble, rcd, rno, rsw, Nat.reduceAdd, Nat.reduceBEq, Nat.reduceDiv, List.drop, List.take, List.reverse, List.reverseAux, Int.toNat, Option.toList, List.append, List.cons_append, List.nil_append, zg62, zg68, zg121, zg270, zg279]
          intro a146 e146 ob146
          cases e146
          have f147 : (fRC σ p1 279) = some (A kx132) := by rw [show (fRC σ p1 279) = opA A (xjS z j) from op.1.2.2.2.2.2.1, hk132, opA_k]
          intro a148 e148 ob148
          obtain rfl : A kx132 = a148 := Option.some.inj (f147.symm.trans e148)
          intro w150 τ150 o150 q150
          obtain ⟨rfl, qq150⟩ := q150 (N, E, A, B, V, z) ⟨_, _, rfl, hNm.1⟩
          rcases qq150 with ⟨qa150, rfl⟩ | ⟨qa150, qb150⟩
          · have qc150 := qa150
            try dsimp only [Option.toList, List.cons_append, List.nil_append, s1C, s2C, dlC, kyC, Nat.beq, lkC, rcd, rno, rsw]
            refine hB _ _ _ _ _ (fun m151 hm151 => ?_)
            dsimp only [ucgo, ucwp, ucsC, uqC, uoC, ctC, rfd, KX3_judgeStatement, KX3_judgeStatement_0, KX3_judgeStatement_112, KX3_judgeStatement_122, KX3_judgeStatement_133, KX3_judgeStatement_137, KX3_judgeStatement_138, KX3_judgeStatement_152, KX3_judgeStatement_160, KX3_judgeStatement_168, KX3_judgeStatement_176, KX3_judgeStatement_186, KX3_judgeStatement_209, KX3_judgeStatement_217, KX3_judgeStatement_224, KX3_judgeStatement_234, KX3_judgeStatement_253, lkC, s1C, s2C, dlC, kyC, Nat.beq, Nat.ble, rcd, rno, rsw, Nat.reduceAdd, Nat.reduceBEq, Nat.reduceDiv, List.drop, List.take, List.reverse, List.reverseAux, Int.toNat, Option.toList, List.append, List.cons_append, List.nil_append, zg62, zg68, zg121, zg270, zg279]
            try dsimp only [Qz_judgeStatement]
            exact fun τ9 h9 => ⟨rfl, (er_we h9).trans (iff_e ((sk_k (P := (0 ≤ xjS z j → (T.1 (xjS z j).toNat).1 = 0)) (N := N) (T := T) (ms := ms) (fun _ => Iff.rfl) (fun q9 => by omega) (fun q9 => by omega) (fun q9 => by omega) (fun q9 => by omega) (fun q9 => by omega) (fun q9 => by omega) (fun q1 q2 q3 q4 q5 q6 q7 => by omega)).mp (show (0 ≤ xjS z j → (T.1 (xjS z j).toNat).1 = 0) by rw [hk132, Int.toNat_natCast]; exact fun q9 => by omega))).symm, (by rw [we_r h9]; exact (s281 (E := E) (A := A) (V := V) FrE.rf op.2 h281 (by omega)).1), (by rw [we_r h9]; exact (s281 (E := E) (A := A) (V := V) (N := N) (B := B) (z := z) (j := j) FrE.rf op.2 h281 (by omega)).2)⟩
          · have qc150 := qa150
            have hF150 : FrE [217, 218] σ τ150 := FrE.mo o150.2 rfl
            have hSs_150 := SsC.fr hSs hF150 rfl
            have hNm_150 := NmC.fr hNm hF150 rfl
            have op_150 : SlC A B τ150 z j p1 ∧ p1 < cnC τ150 := by rw [hp]; exact hSs_150.1 j hj
            have o135_150 := hSs_150.2.1 kx132 hl132
            try dsimp only [Option.toList, List.cons_append, List.nil_append, s1C, s2C, dlC, kyC, Nat.beq, lkC, rcd, rno, rsw]
            refine hB _ _ _ _ _ (fun m152 hm152 => ?_)
            dsimp only [ucgo, ucwp, ucsC, uqC, uoC, ctC, rfd, KX3_judgeStatement, KX3_judgeStatement_0, KX3_judgeStatement_112, KX3_judgeStatement_122, KX3_judgeStatement_133, KX3_judgeStatement_137, KX3_judgeStatement_138, KX3_judgeStatement_152, KX3_judgeStatement_160, KX3_judgeStatement_168, KX3_judgeStatement_176, KX3_judgeStatement_186, KX3_judgeStatement_209, KX3_judgeStatement_217, KX3_judgeStatement_224, KX3_judgeStatement_234, KX3_judgeStatement_253, lkC, s1C, s2C, dlC, kyC, Nat.beq, Nat.ble, rcd, rno, rsw, Nat.reduceAdd, Nat.reduceBEq, Nat.reduceDiv, List.drop, List.take, List.reverse, List.reverseAux, Int.toNat, Option.toList, List.append, List.cons_append, List.nil_append, zg62, zg68, zg121, zg270, zg279]
            try dsimp only [Qz_judgeStatement]
            exact fun τ9 h9 => ⟨rfl, (er_we h9).trans ((iff_of_true qb150 (Or.inr (show ¬ (0 ≤ xjS z j → (T.1 (xjS z j).toNat).1 = 0) by rw [hk132, Int.toNat_natCast]; intro q9; have q8 := q9 (by omega); omega))).trans (or_congr Iff.rfl (not_congr (sk_k (P := (0 ≤ xjS z j → (T.1 (xjS z j).toNat).1 = 0)) (N := N) (T := T) (ms := ms) (fun _ => Iff.rfl) (fun q9 => by omega) (fun q9 => by omega) (fun q9 => by omega) (fun q9 => by omega) (fun q9 => by omega) (fun q9 => by omega) (fun q1 q2 q3 q4 q5 q6 q7 => by omega))))), (by rw [we_r h9]; exact (s281 (E := E) (A := A) (V := V) hF150 op.2 h281 (by omega)).1), (by rw [we_r h9]; exact (s281 (E := E) (A := A) (V := V) (N := N) (B := B) (z := z) (j := j) hF150 op.2 h281 (by omega)).2)⟩
        · have g142 := (eqI (x := (fIC σ (A kx132) 68)) (y := 0) h142 : ((fIC σ (A kx132) 68) : Int32).toInt = (0 : Int32).toInt)
          have z0_ : (0 : Int32).toInt = 0 := rfl
          refine hB _ _ _ _ _ (fun m153 hm153 => ?_)
          dsimp only [ucgo, ucwp, ucsC, uqC, uoC, ctC, rfd, KX3_judgeStatement, KX3_judgeStatement_0, KX3_judgeStatement_112, KX3_judgeStatement_122, KX3_judgeStatement_133, KX3_judgeStatement_137, KX3_judgeStatement_138, KX3_judgeStatement_152, KX3_judgeStatement_160, KX3_judgeStatement_168, KX3_judgeStatement_176, KX3_judgeStatement_186, KX3_judgeStatement_209, KX3_judgeStatement_217, KX3_judgeStatement_224, KX3_judgeStatement_234, KX3_judgeStatement_253, lkC, s1C, s2C, dlC, kyC, Nat.beq, Nat.ble, rcd, rno, rsw, Nat.reduceAdd, Nat.reduceBEq, Nat.reduceDiv, List.drop, List.take, List.reverse, List.reverseAux, Int.toNat, Option.toList, List.append, List.cons_append, List.nil_append, zg62, zg68, zg121, zg270, zg279]
          have c154 : (Int32.ofInt 1).toInt = 1 := by decide
          refine hB _ _ _ _ _ (fun m155 hm155 => ?_)
          dsimp only [ucgo, ucwp, ucsC, uqC, uoC, ctC, rfd, KX3_judgeStatement, KX3_judgeStatement_0, KX3_judgeStatement_112, KX3_judgeStatement_122, KX3_judgeStatement_133, KX3_judgeStatement_137, KX3_judgeStatement_138, KX3_judgeStatement_152, KX3_judgeStatement_160, KX3_judgeStatement_168, KX3_judgeStatement_176, KX3_judgeStatement_186, KX3_judgeStatement_209, KX3_judgeStatement_217, KX3_judgeStatement_224, KX3_judgeStatement_234, KX3_judgeStatement_253, lkC, s1C, s2C, dlC, kyC, Nat.beq, Nat.ble, rcd, rno, rsw, Nat.reduceAdd, Nat.reduceBEq, Nat.reduceDiv, List.drop, List.take, List.reverse, List.reverseAux, Int.toNat, Option.toList, List.append, List.cons_append, List.nil_append, zg62, zg68, zg121, zg270, zg279]
          intro a156 e156 ob156
          cases e156
          have f157 : (fRC σ p1 279) = some (A kx132) := by rw [show (fRC σ p1 279) = opA A (xjS z j) from op.1.2.2.2.2.2.1, hk132, opA_k]
          intro a158 e158 ob158
          obtain rfl : A kx132 = a158 := Option.some.inj (f157.symm.trans e158)
          intro w160 τ160 o160 q160
          obtain ⟨rfl, qq160⟩ := q160 (N, E, A, B, V, z) ⟨_, _, rfl, hNm.1⟩
          rcases qq160 with ⟨qa160, rfl⟩ | ⟨qa160, qb160⟩
          · have qc160 := qa160
            try dsimp only [Option.toList, List.cons_append, List.nil_append, s1C, s2C, dlC, kyC, Nat.beq, lkC, rcd, rno, rsw]
            refine hB _ _ _ _ _ (fun m161 hm161 => ?_)
            dsimp only [ucgo, ucwp, ucsC, uqC, uoC, ctC, rfd, KX3_judgeStatement, KX3_judgeStatement_0, KX3_judgeStatement_112, KX3_judgeStatement_122, KX3_judgeStatement_133, KX3_judgeStatement_137, KX3_judgeStatement_138, KX3_judgeStatement_152, KX3_judgeStatement_160, KX3_judgeStatement_168, KX3_judgeStatement_176, KX3_judgeStatement_186, KX3_judgeStatement_209, KX3_judgeStatement_217, KX3_judgeStatement_224, KX3_judgeStatement_234, KX3_judgeStatement_253, lkC, s1C, s2C, dlC, kyC, Nat.beq, Nat.ble, rcd, rno, rsw, Nat.reduceAdd, Nat.reduceBEq, Nat.reduceDiv, List.drop, List.take, List.reverse, List.reverseAux, Int.toNat, Option.toList, List.append, List.cons_append, List.nil_append, zg62, zg68, zg121, zg270, zg279]
            try dsimp only [Qz_judgeStatement]
            exact fun τ9 h9 => ⟨rfl, (er_we h9).trans (iff_e ((sk_k (P := (0 ≤ xjS z j → (T.1 (xjS z j).toNat).1 = 0)) (N := N) (T := T) (ms := ms) (fun _ => Iff.rfl) (fun q9 => by omega) (fun q9 => by omega) (fun q9 => by omega) (fun q9 => by omega) (fun q9 => by omega) (fun q9 => by omega) (fun q1 q2 q3 q4 q5 q6 q7 => by omega)).mp (show (0 ≤ xjS z j → (T.1 (xjS z j).toNat).1 = 0) by rw [hk132, Int.toNat_natCast]; exact fun q9 => by omega))).symm, (by rw [we_r h9]; exact (s281 (E := E) (A := A) (V := V) FrE.rf op.2 h281 (by omega)).1), (by rw [we_r h9]; exact (s281 (E := E) (A := A) (V := V) (N := N) (B := B) (z := z) (j := j) FrE.rf op.2 h281 (by omega)).2)⟩
          · have qc160 := qa160
            have hF160 : FrE [217, 218] σ τ160 := FrE.mo o160.2 rfl
            have hSs_160 := SsC.fr hSs hF160 rfl
            have hNm_160 := NmC.fr hNm hF160 rfl
            have op_160 : SlC A B τ160 z j p1 ∧ p1 < cnC τ160 := by rw [hp]; exact hSs_160.1 j hj
            have o135_160 := hSs_160.2.1 kx132 hl132
            try dsimp only [Option.toList, List.cons_append, List.nil_append, s1C, s2C, dlC, kyC, Nat.beq, lkC, rcd, rno, rsw]
            refine hB _ _ _ _ _ (fun m162 hm162 => ?_)
            dsimp only [ucgo, ucwp, ucsC, uqC, uoC, ctC, rfd, KX3_judgeStatement, KX3_judgeStatement_0, KX3_judgeStatement_112, KX3_judgeStatement_122, KX3_judgeStatement_133, KX3_judgeStatement_137, KX3_judgeStatement_138, KX3_judgeStatement_152, KX3_judgeStatement_160, KX3_judgeStatement_168, KX3_judgeStatement_176, KX3_judgeStatement_186, KX3_judgeStatement_209, KX3_judgeStatement_217, KX3_judgeStatement_224, KX3_judgeStatement_234, KX3_judgeStatement_253, lkC, s1C, s2C, dlC, kyC, Nat.beq, Nat.ble, rcd, rno, rsw, Nat.reduceAdd, Nat.reduceBEq, Nat.reduceDiv, List.drop, List.take, List.reverse, List.reverseAux, Int.toNat, Option.toList, List.append, List.cons_append, List.nil_append, zg62, zg68, zg121, zg270, zg279]
            try dsimp only [Qz_judgeStatement]
            exact fun τ9 h9 => ⟨rfl, (er_we h9).trans ((iff_of_true qb160 (Or.inr (show ¬ (0 ≤ xjS z j → (T.1 (xjS z j).toNat).1 = 0) by rw [hk132, Int.toNat_natCast]; intro q9; have q8 := q9 (by omega); omega))).trans (or_congr Iff.rfl (not_congr (sk_k (P := (0 ≤ xjS z j → (T.1 (xjS z j).toNat).1 = 0)) (N := N) (T := T) (ms := ms) (fun _ => Iff.rfl) (fun q9 => by omega) (fun q9 => by omega) (fun q9 => by omega) (fun q9 => by omega) (fun q9 => by omega) (fun q9 => by omega) (fun q1 q2 q3 q4 q5 q6 q7 => by omega))))), (by rw [we_r h9]; exact (s281 (E := E) (A := A) (V := V) hF160 op.2 h281 (by omega)).1), (by rw [we_r h9]; exact (s281 (E := E) (A := A) (V := V) (N := N) (B := B) (z := z) (j := j) hF160 op.2 h281 (by omega)).2)⟩
  have g128 : ¬ ((fIC σ p1 270) : Int32).toInt = 59 := h128
  refine ⟨fun h163 => ?_, fun h163 => ?_⟩
  · have g163 : ((fIC σ p1 270) : Int32).toInt = 60 := h163
    refine hB _ _ _ _ _ (fun m164 hm164 => ?_)
    dsimp only [ucgo, ucwp, ucsC, uqC, uoC, ctC, rfd, KX3_judgeStatement, KX3_judgeStatement_0, KX3_judgeStatement_112, KX3_judgeStatement_122, KX3_judgeStatement_133, KX3_judgeStatement_137, KX3_judgeStatement_138, KX3_judgeStatement_152, KX3_judgeStatement_160, KX3_judgeStatement_168, KX3_judgeStatement_176, KX3_judgeStatement_186, KX3_judgeStatement_209, KX3_judgeStatement_217, KX3_judgeStatement_224, KX3_judgeStatement_234, KX3_judgeStatement_253, lkC, s1C, s2C, dlC, kyC, Nat.beq, Nat.ble, rcd, rno, rsw, Nat.reduceAdd, Nat.reduceBEq, Nat.reduceDiv, List.drop, List.take, List.reverse, List.reverseAux, Int.toNat, Option.toList, List.append, List.cons_append, List.nil_append, zg62, zg68, zg121, zg270, zg279]
    intro a165 e165 ob165
    cases e165
    have f166 : (fRC σ p1 279) = opA A (xjS z j) := op.1.2.2.2.2.2.1
    intro w167 τ167 o167 q167
    obtain ⟨r167, rfl, hr167, rfl⟩ := q167 (N, E, A, B, V, z) ⟨_, rfl⟩
    rcases Int.lt_or_le (xjS z j) 0 with hz167 | hz167
    · have rz167 : r167.toInt = 1 := by
        rcases hr167 with q9 | q9
        · exact q9.1
        · exact absurd (fun a9 q8 => by rw [f166, opA_n hz167] at q8; cases q8) q9.2
      try dsimp only [Option.toList, List.cons_append, List.nil_append, s1C, s2C, dlC, kyC, Nat.beq, lkC, rcd, rno, rsw]
      refine ⟨fun h168 => ?_, fun h168 => ?_⟩
      · have g168 := (neI (x := r167) (y := 0) h168 : ¬ (r167 : Int32).toInt = (0 : Int32).toInt)
        have z0_ : (0 : Int32).toInt = 0 := rfl
        refine hB _ _ _ _ _ (fun m169 hm169 => ?_)
        dsimp only [ucgo, ucwp, ucsC, uqC, uoC, ctC, rfd, KX3_judgeStatement, KX3_judgeStatement_0, KX3_judgeStatement_112, KX3_judgeStatement_122, KX3_judgeStatement_133, KX3_judgeStatement_137, KX3_judgeStatement_138, KX3_judgeStatement_152, KX3_judgeStatement_160, KX3_judgeStatement_168, KX3_judgeStatement_176, KX3_judgeStatement_186, KX3_judgeStatement_209, KX3_judgeStatement_217, KX3_judgeStatement_224, KX3_judgeStatement_234, KX3_judgeStatement_253, lkC, s1C, s2C, dlC, kyC, Nat.beq, Nat.ble, rcd, rno, rsw, Nat.reduceAdd, Nat.reduceBEq, Nat.reduceDiv, List.drop, List.take, List.reverse, List.reverseAux, Int.toNat, Option.toList, List.append, List.cons_append, List.nil_append, zg62, zg68, zg121, zg270, zg279]
        try dsimp only [Qz_judgeStatement]
        exact fun τ9 h9 => ⟨rfl, (er_we h9).trans (iff_e ((sk_k (P := (0 ≤ xjS z j → (T.1 (xjS z j).toNat).1 = 0)) (N := N) (T := T) (ms := ms) (fun _ => Iff.rfl) (fun q9 => by omega) (fun q9 => by omega) (fun q9 => by omega) (fun q9 => by omega) (fun q9 => by omega) (fun q9 => by omega) (fun q1 q2 q3 q4 q5 q6 q7 => by omega)).mp (show (0 ≤ xjS z j → (T.1 (xjS z j).toNat).1 = 0) by exact fun q9 => by omega))).symm, (by rw [we_r h9]; exact (s281 (E := E) (A := A) (V := V) FrE.rf op.2 h281 (by omega)).1), (by rw [we_r h9]; exact (s281 (E := E) (A := A) (V := V) (N := N) (B := B) (z := z) (j := j) FrE.rf op.2 h281 (by omega)).2)⟩
      · have g168 := (eqI (x := r167) (y := 0) h168 : (r167 : Int32).toInt = (0 : Int32).toInt)
        have z0_ : (0 : Int32).toInt = 0 := rfl
        exfalso
        omega
    · obtain ⟨kx167, hk167⟩ : ∃ k : Nat, xjS z j = (k : Int) := ⟨(xjS z j).toNat, by omega⟩
      have hw_kx167 := (hwf j hj).2.1 hz167
      rw [hk167, Int.toNat_natCast] at hw_kx167
      have hl167 : kx167 < xnM z := by omega
      have hv167 : (fRC σ p1 279) = some (A kx167) := by rw [f166, hk167, opA_k]
      have o170 := hSs.2.1 kx167 hl167
      have rz167 : r167.toInt = 0 := by
        rcases hr167 with q9 | q9
        · exact absurd (o170.1.1.1.symm.trans (q9.2 _ hv167)) hw_kx167.2
        · exact q9.1
      try dsimp only [Option.toList, List.cons_append, List.nil_append, s1C, s2C, dlC, kyC, Nat.beq, lkC, rcd, rno, rsw]
      refine ⟨fun h171 => ?_, fun h171 => ?_⟩
      · have g171 := (neI (x := r167) (y := 0) h171 : ¬ (r167 : Int32).toInt = (0 : Int32).toInt)
        have z0_ : (0 : Int32).toInt = 0 := rfl
        exfalso
        omega
      · have g171 := (eqI (x := r167) (y := 0) h171 : (r167 : Int32).toInt = (0 : Int32).toInt)
        have z0_ : (0 : Int32).toInt = 0 := rfl
        refine hB _ _ _ _ _ (fun m172 hm172 => ?_)
        dsimp only [ucgo, ucwp, ucsC, uqC, uoC, ctC, rfd, KX3_judgeStatement, KX3_judgeStatement_0, KX3_judgeStatement_112, KX3_judgeStatement_122, KX3_judgeStatement_133, KX3_judgeStatement_137, KX3_judgeStatement_138, KX3_judgeStatement_152, KX3_judgeStatement_160, KX3_judgeStatement_168, KX3_judgeStatement_176, KX3_judgeStatement_186, KX3_judgeStatement_209, KX3_judgeStatement_217, KX3_judgeStatement_224, KX3_judgeStatement_234, KX3_judgeStatement_253, lkC, s1C, s2C, dlC, kyC, Nat.beq, Nat.ble, rcd, rno, rsw, Nat.reduceAdd, Nat.reduceBEq, Nat.reduceDiv, List.drop, List.take, List.reverse, List.reverseAux, Int.toNat, Option.toList, List.append, List.cons_append, List.nil_append, zg62, zg68, zg121, zg270, zg279]
        intro a173 e173 ob173
        cases e173
        have f174 : (fRC σ p1 279) = some (A kx167) := by rw [show (fRC σ p1 279) = opA A (xjS z j) from op.1.2.2.2.2.2.1, hk167, opA_k]
        intro a175 e175 ob175
        obtain rfl : A kx167 = a175 := Option.some.inj (f174.symm.trans e175)
        have f176 : (fIC σ (A kx167) 68).toInt = (T.1 kx167).1 := o170.1.1.1
        refine ⟨fun h177 => ?_, fun h177 => ?_⟩
        · have g177 := (neI (x := (fIC σ (A kx167) 68)) (y := 0) h177 : ¬ ((fIC σ (A kx167) 68) : Int32).toInt = (0 : Int32).toInt)
          have z0_ : (0 : Int32).toInt = 0 := rfl
          refine hB _ _ _ _ _ (fun m178 hm178 => ?_)
          dsimp only [ucgo, ucwp, ucsC, uqC, uoC, ctC, rfd, KX3_judgeStatement, KX3_judgeStatement_0, KX3_judgeStatement_112, KX3_judgeStatement_122, KX3_judgeStatement_133, KX3_judgeStatement_137, KX3_judgeStatement_138, KX3_judgeStatement_152, KX3_judgeStatement_160, KX3_judgeStatement_168, KX3_judgeStatement_176, KX3_judgeStatement_186, KX3_judgeStatement_209, KX3_judgeStatement_217, KX3_judgeStatement_224, KX3_judgeStatement_234, KX3_judgeStatement_253, lkC, s1C, s2C, dlC, kyC, Nat.beq, Nat.ble, rcd, rno, rsw, Nat.reduceAdd, Nat.reduceBEq, Nat.reduceDiv, List.drop, List.take, List.reverse, List.reverseAux, Int.toNat, Option.toList, List.append, List.cons_append, List.nil_append, zg62, zg68, zg121, zg270, zg279]
          have c179 : (Int32.ofInt 0).toInt = 0 := by decide
          refine hB _ _ _ _ _ (fun m180 hm180 => ?_)
          dsimp only [ucgo, ucwp, ucsC, uqC, uoC, ctC, rfd, KX3_judgeStatement, KX3_judgeStatement_0, KX3_judgeStatement_112, KX3_judgeStatement_122, KX3_judgeStatement_133, KX3_judgeStatement_137, KX3_judgeStatement_138, KX3_judgeStatement_152, KX3_judgeStatement_160, KX3_judgeStatement_168, KX3_judgeStatement_176, KX3_judgeStatement_186, KX3_judgeStatement_209, KX3_judgeStatement_217, KX3_judgeStatement_224, KX3_judgeStatement_234, KX3_judgeStatement_253, lkC, s1C, s2C, dlC, kyC, Nat.beq, Nat.ble, rcd, rno, rsw, Nat.reduceAdd, Nat.reduceBEq, Nat.reduceDiv, List.drop, List.take, List.reverse, List.reverseAux, Int.toNat, Option.toList, List.append, List.cons_append, List.nil_append, zg62, zg68, zg121, zg270, zg279]
          intro a181 e181 ob181
          cases e181
          have f182 : (fRC σ p1 279) = some (A kx167) := by rw [show (fRC σ p1 279) = opA A (xjS z j) from op.1.2.2.2.2.2.1, hk167, opA_k]
          intro a183 e183 ob183
          obtain rfl : A kx167 = a183 := Option.some.inj (f182.symm.trans e183)
          intro w185 τ185 o185 q185
          obtain ⟨rfl, qq185⟩ := q185 (N, E, A, B, V, z) ⟨_, _, rfl, hNm.1⟩
          rcases qq185 with ⟨qa185, rfl⟩ | ⟨qa185, qb185⟩
          · have qc185 := qa185
            try dsimp only [Option.toList, List.cons_append, List.nil_append, s1C, s2C, dlC, kyC, Nat.beq, lkC, rcd, rno, rsw]
            refine hB _ _ _ _ _ (fun m186 hm186 => ?_)
            dsimp only [ucgo, ucwp, ucsC, uqC, uoC, ctC, rfd, KX3_judgeStatement, KX3_judgeStatement_0, KX3_judgeStatement_112, KX3_judgeStatement_122, KX3_judgeStatement_133, KX3_judgeStatement_137, KX3_judgeStatement_138, KX3_judgeStatement_152, KX3_judgeStatement_160, KX3_judgeStatement_168, KX3_judgeStatement_176, KX3_judgeStatement_186, KX3_judgeStatement_209, KX3_judgeStatement_217, KX3_judgeStatement_224, KX3_judgeStatement_234, KX3_judgeStatement_253, lkC, s1C, s2C, dlC, kyC, Nat.beq, Nat.ble, rcd, rno, rsw, Nat.reduceAdd, Nat.reduceBEq, Nat.reduceDiv, List.drop, List.take, List.reverse, List.reverseAux, Int.toNat, Option.toList, List.append, List.cons_append, List.nil_append, zg62, zg68, zg121, zg270, zg279]
            try dsimp only [Qz_judgeStatement]
            exact fun τ9 h9 => ⟨rfl, (er_we h9).trans (iff_e ((sk_k (P := (0 ≤ xjS z j → (T.1 (xjS z j).toNat).1 = 0)) (N := N) (T := T) (ms := ms) (fun _ => Iff.rfl) (fun q9 => by omega) (fun q9 => by omega) (fun q9 => by omega) (fun q9 => by omega) (fun q9 => by omega) (fun q9 => by omega) (fun q1 q2 q3 q4 q5 q6 q7 => by omega)).mp (show (0 ≤ xjS z j → (T.1 (xjS z j).toNat).1 = 0) by rw [hk167, Int.toNat_natCast]; exact fun q9 => by omega))).symm, (by rw [we_r h9]; exact (s281 (E := E) (A := A) (V := V) FrE.rf op.2 h281 (by omega)).1), (by rw [we_r h9]; exact (s281 (E := E) (A := A) (V := V) (N := N) (B := B) (z := z) (j := j) FrE.rf op.2 h281 (by omega)).2)⟩
          · have qc185 := qa185
            have hF185 : FrE [217, 218] σ τ185 := FrE.mo o185.2 rfl
            have hSs_185 := SsC.fr hSs hF185 rfl
            have hNm_185 := NmC.fr hNm hF185 rfl
            have op_185 : SlC A B τ185 z j p1 ∧ p1 < cnC τ185 := by rw [hp]; exact hSs_185.1 j hj
            have o170_185 := hSs_185.2.1 kx167 hl167
            try dsimp only [Option.toList, List.cons_append, List.nil_append, s1C, s2C, dlC, kyC, Nat.beq, lkC, rcd, rno, rsw]
            refine hB _ _ _ _ _ (fun m187 hm187 => ?_)
            dsimp only [ucgo, ucwp, ucsC, uqC, uoC, ctC, rfd, KX3_judgeStatement, KX3_judgeStatement_0, KX3_judgeStatement_112, KX3_judgeStatement_122, KX3_judgeStatement_133, KX3_judgeStatement_137, KX3_judgeStatement_138, KX3_judgeStatement_152, KX3_judgeStatement_160, KX3_judgeStatement_168, KX3_judgeStatement_176, KX3_judgeStatement_186, KX3_judgeStatement_209, KX3_judgeStatement_217, KX3_judgeStatement_224, KX3_judgeStatement_234, KX3_judgeStatement_253, lkC, s1C, s2C, dlC, kyC, Nat.beq, Nat.ble, rcd, rno, rsw, Nat.reduceAdd, Nat.reduceBEq, Nat.reduceDiv, List.drop, List.take, List.reverse, List.reverseAux, Int.toNat, Option.toList, List.append, List.cons_append, List.nil_append, zg62, zg68, zg121, zg270, zg279]
            try dsimp only [Qz_judgeStatement]
            exact fun τ9 h9 => ⟨rfl, (er_we h9).trans ((iff_of_true qb185 (Or.inr (show ¬ (0 ≤ xjS z j → (T.1 (xjS z j).toNat).1 = 0) by rw [hk167, Int.toNat_natCast]; intro q9; have q8 := q9 (by omega); omega))).trans (or_congr Iff.rfl (not_congr (sk_k (P := (0 ≤ xjS z j → (T.1 (xjS z j).toNat).1 = 0)) (N := N) (T := T) (ms := ms) (fun _ => Iff.rfl) (fun q9 => by omega) (fun q9 => by omega) (fun q9 => by omega) (fun q9 => by omega) (fun q9 => by omega) (fun q9 => by omega) (fun q1 q2 q3 q4 q5 q6 q7 => by omega))))), (by rw [we_r h9]; exact (s281 (E := E) (A := A) (V := V) hF185 op.2 h281 (by omega)).1), (by rw [we_r h9]; exact (s281 (E := E) (A := A) (V := V) (N := N) (B := B) (z := z) (j := j) hF185 op.2 h281 (by omega)).2)⟩
        · have g177 := (eqI (x := (fIC σ (A kx167) 68)) (y := 0) h177 : ((fIC σ (A kx167) 68) : Int32).toInt = (0 : Int32).toInt)
          have z0_ : (0 : Int32).toInt = 0 := rfl
          refine hB _ _ _ _ _ (fun m188 hm188 => ?_)
          dsimp only [ucgo, ucwp, ucsC, uqC, uoC, ctC, rfd, KX3_judgeStatement, KX3_judgeStatement_0, KX3_judgeStatement_112, KX3_judgeStatement_122, KX3_judgeStatement_133, KX3_judgeStatement_137, KX3_judgeStatement_138, KX3_judgeStatement_152, KX3_judgeStatement_160, KX3_judgeStatement_168, KX3_judgeStatement_176, KX3_judgeStatement_186, KX3_judgeStatement_209, KX3_judgeStatement_217, KX3_judgeStatement_224, KX3_judgeStatement_234, KX3_judgeStatement_253, lkC, s1C, s2C, dlC, kyC, Nat.beq, Nat.ble, rcd, rno, rsw, Nat.reduceAdd, Nat.reduceBEq, Nat.reduceDiv, List.drop, List.take, List.reverse, List.reverseAux, Int.toNat, Option.toList, List.append, List.cons_append, List.nil_append, zg62, zg68, zg121, zg270, zg279]
          have c189 : (Int32.ofInt 1).toInt = 1 := by decide
          refine hB _ _ _ _ _ (fun m190 hm190 => ?_)
          dsimp only [ucgo, ucwp, ucsC, uqC, uoC, ctC, rfd, KX3_judgeStatement, KX3_judgeStatement_0, KX3_judgeStatement_112, KX3_judgeStatement_122, KX3_judgeStatement_133, KX3_judgeStatement_137, KX3_judgeStatement_138, KX3_judgeStatement_152, KX3_judgeStatement_160, KX3_judgeStatement_168, KX3_judgeStatement_176, KX3_judgeStatement_186, KX3_judgeStatement_209, KX3_judgeStatement_217, KX3_judgeStatement_224, KX3_judgeStatement_234, KX3_judgeStatement_253, lkC, s1C, s2C, dlC, kyC, Nat.beq, Nat.ble, rcd, rno, rsw, Nat.reduceAdd, Nat.reduceBEq, Nat.reduceDiv, List.drop, List.take, List.reverse, List.reverseAux, Int.toNat, Option.toList, List.append, List.cons_append, List.nil_append, zg62, zg68, zg121, zg270, zg279]
          intro a191 e191 ob191
          cases e191
          have f192 : (fRC σ p1 279) = some (A kx167) := by rw [show (fRC σ p1 279) = opA A (xjS z j) from op.1.2.2.2.2.2.1, hk167, opA_k]
          intro a193 e193 ob193
          obtain rfl : A kx167 = a193 := Option.some.inj (f192.symm.trans e193)
          intro w195 τ195 o195 q195
          obtain ⟨rfl, qq195⟩ := q195 (N, E, A, B, V, z) ⟨_, _, rfl, hNm.1⟩
          rcases qq195 with ⟨qa195, rfl⟩ | ⟨qa195, qb195⟩
          · have qc195 := qa195
            try dsimp only [Option.toList, List.cons_append, List.nil_append, s1C, s2C, dlC, kyC, Nat.beq, lkC, rcd, rno, rsw]
            refine hB _ _ _ _ _ (fun m196 hm196 => ?_)
            dsimp only [ucgo, ucwp, ucsC, uqC, uoC, ctC, rfd, KX3_judgeStatement, KX3_judgeStatement_0, KX3_judgeStatement_112, KX3_judgeStatement_122, KX3_judgeStatement_133, KX3_judgeStatement_137, KX3_judgeStatement_138, KX3_judgeStatement_152, KX3_judgeStatement_160, KX3_judgeStatement_168, KX3_judgeStatement_176, KX3_judgeStatement_186, KX3_judgeStatement_209, KX3_judgeStatement_217, KX3_judgeStatement_224, KX3_judgeStatement_234, KX3_judgeStatement_253, lkC, s1C, s2C, dlC, kyC, Nat.beq, Nat.ble, rcd, rno, rsw, Nat.reduceAdd, Nat.reduceBEq, Nat.reduceDiv, List.drop, List.take, List.reverse, List.reverseAux, Int.toNat, Option.toList, List.append, List.cons_append, List.nil_append, zg62, zg68, zg121, zg270, zg279]
            try dsimp only [Qz_judgeStatement]
            exact fun τ9 h9 => ⟨rfl, (er_we h9).trans (iff_e ((sk_k (P := (0 ≤ xjS z j → (T.1 (xjS z j).toNat).1 = 0)) (N := N) (T := T) (ms := ms) (fun _ => Iff.rfl) (fun q9 => by omega) (fun q9 => by omega) (fun q9 => by omega) (fun q9 => by omega) (fun q9 => by omega) (fun q9 => by omega) (fun q1 q2 q3 q4 q5 q6 q7 => by omega)).mp (show (0 ≤ xjS z j → (T.1 (xjS z j).toNat).1 = 0) by rw [hk167, Int.toNat_natCast]; exact fun q9 => by omega))).symm, (by rw [we_r h9]; exact (s281 (E := E) (A := A) (V := V) FrE.rf op.2 h281 (by omega)).1), (by rw [we_r h9]; exact (s281 (E := E) (A := A) (V := V) (N := N) (B := B) (z := z) (j := j) FrE.rf op.2 h281 (by omega)).2)⟩
          · have qc195 := qa195
            have hF195 : FrE [217, 218] σ τ195 := FrE.mo o195.2 rfl
            have hSs_195 := SsC.fr hSs hF195 rfl
            have hNm_195 := NmC.fr hNm hF195 rfl
            have op_195 : SlC A B τ195 z j p1 ∧ p1 < cnC τ195 := by rw [hp]; exact hSs_195.1 j hj
            have o170_195 := hSs_195.2.1 kx167 hl167
            try dsimp only [Option.toList, List.cons_append, List.nil_append, s1C, s2C, dlC, kyC, Nat.beq, lkC, rcd, rno, rsw]
            refine hB _ _ _ _ _ (fun m197 hm197 => ?_)
            dsimp only [ucgo, ucwp, ucsC, uqC, uoC, ctC, rfd, KX3_judgeStatement, KX3_judgeStatement_0, KX3_judgeStatement_112, KX3_judgeStatement_122, KX3_judgeStatement_133, KX3_judgeStatement_137, KX3_judgeStatement_138, KX3_judgeStatement_152, KX3_judgeStatement_160, KX3_judgeStatement_168, KX3_judgeStatement_176, KX3_judgeStatement_186, KX3_judgeStatement_209, KX3_judgeStatement_217, KX3_judgeStatement_224, KX3_judgeStatement_234, KX3_judgeStatement_253, lkC, s1C, s2C, dlC, kyC, Nat.beq, Nat.ble, rcd, rno, rsw, Nat.reduceAdd, Nat.reduceBEq, Nat.reduceDiv, List.drop, List.take, List.reverse, List.reverseAux, Int.toNat, Option.toList, List.append, List.cons_append, List.nil_append, zg62, zg68, zg121, zg270, zg279]
            try dsimp only [Qz_judgeStatement]
            exact fun τ9 h9 => ⟨rfl, (er_we h9).trans ((iff_of_true qb195 (Or.inr (show ¬ (0 ≤ xjS z j → (T.1 (xjS z j).toNat).1 = 0) by rw [hk167, Int.toNat_natCast]; intro q9; have q8 := q9 (by omega); omega))).trans (or_congr Iff.rfl (not_congr (sk_k (P := (0 ≤ xjS z j → (T.1 (xjS z j).toNat).1 = 0)) (N := N) (T := T) (ms := ms) (fun _ => Iff.rfl) (fun q9 => by omega) (fun q9 => by omega) (fun q9 => by omega) (fun q9 => by omega) (fun q9 => by omega) (fun q9 => by omega) (fun q1 q2 q3 q4 q5 q6 q7 => by omega))))), (by rw [we_r h9]; exact (s281 (E := E) (A := A) (V := V) hF195 op.2 h281 (by omega)).1), (by rw [we_r h9]; exact (s281 (E := E) (A := A) (V := V) (N := N) (B := B) (z := z) (j := j) hF195 op.2 h281 (by omega)).2)⟩
  have g163 : ¬ ((fIC σ p1 270) : Int32).toInt = 60 := h163
  refine ⟨fun h198 => ?_, fun h198 => ?_⟩
  · have g198 : ((fIC σ p1 270) : Int32).toInt = 61 := h198
    refine hB _ _ _ _ _ (fun m199 hm199 => ?_)
    dsimp only [ucgo, ucwp, ucsC, uqC, uoC, ctC, rfd, KX3_judgeStatement, KX3_judgeStatement_0, KX3_judgeStatement_112, KX3_judgeStatement_122, KX3_judgeStatement_133, KX3_judgeStatement_137, KX3_judgeStatement_138, KX3_judgeStatement_152, KX3_judgeStatement_160, KX3_judgeStatement_168, KX3_judgeStatement_176, KX3_judgeStatement_186, KX3_judgeStatement_209, KX3_judgeStatement_217, KX3_judgeStatement_224, KX3_judgeStatement_234, KX3_judgeStatement_253, lkC, s1C, s2C, dlC, kyC, Nat.beq, Nat.ble, rcd, rno, rsw, Nat.reduceAdd, Nat.reduceBEq, Nat.reduceDiv, List.drop, List.take, List.reverse, List.reverseAux, Int.toNat, Option.toList, List.append, List.cons_append, List.nil_append, zg62, zg68, zg121, zg270, zg279]
    intro w200 τ200 o200 q200
    obtain ⟨l0, hl0, hnd0⟩ := hrow j hj (by omega)
    obtain ⟨rfl, hq200⟩ := q200 (N, E, A, B, V, z, T, ms, nm, j, l0) ⟨_, rfl, hSs, hNm, hwf, hj, hp, hBi, hl0, hnd0⟩
    have hF200 : FrE [217, 218] σ τ200 := FrE.mo o200.2 rfl
    have hSs_200 := SsC.fr hSs hF200 rfl
    have hNm_200 := NmC.fr hNm hF200 rfl
    have op_200 : SlC A B τ200 z j p1 ∧ p1 < cnC τ200 := by rw [hp]; exact hSs_200.1 j hj
    try dsimp only [Option.toList, List.cons_append, List.nil_append, s1C, s2C, dlC, kyC, Nat.beq, lkC, rcd, rno, rsw]
    refine hB _ _ _ _ _ (fun m201 hm201 => ?_)
    dsimp only [ucgo, ucwp, ucsC, uqC, uoC, ctC, rfd, KX3_judgeStatement, KX3_judgeStatement_0, KX3_judgeStatement_112, KX3_judgeStatement_122, KX3_judgeStatement_133, KX3_judgeStatement_137, KX3_judgeStatement_138, KX3_judgeStatement_152, KX3_judgeStatement_160, KX3_judgeStatement_168, KX3_judgeStatement_176, KX3_judgeStatement_186, KX3_judgeStatement_209, KX3_judgeStatement_217, KX3_judgeStatement_224, KX3_judgeStatement_234, KX3_judgeStatement_253, lkC, s1C, s2C, dlC, kyC, Nat.beq, Nat.ble, rcd, rno, rsw, Nat.reduceAdd, Nat.reduceBEq, Nat.reduceDiv, List.drop, List.take, List.reverse, List.reverseAux, Int.toNat, Option.toList, List.append, List.cons_append, List.nil_append, zg62, zg68, zg121, zg270, zg279]
    try dsimp only [Qz_judgeStatement]
    exact fun τ9 h9 => ⟨rfl, (er_we h9).trans (hq200.trans (or_congr Iff.rfl (not_congr (sk_k (fun q9 => by omega) (fun _ => Iff.rfl) (fun q9 => by omega) (fun q9 => by omega) (fun q9 => by omega) (fun q9 => by omega) (fun q9 => by omega) (fun q1 q2 q3 q4 q5 q6 q7 => by omega))))), (by rw [we_r h9]; exact (s281 (E := E) (A := A) (V := V) hF200 op.2 h281 (by omega)).1), (by rw [we_r h9]; exact (s281 (E := E) (A := A) (V := V) (N := N) (B := B) (z := z) (j := j) hF200 op.2 h281 (by omega)).2)⟩
  have g198 : ¬ ((fIC σ p1 270) : Int32).toInt = 61 := h198
  refine ⟨fun h202 => ?_, fun h202 => ?_⟩
  · have g202 : ((fIC σ p1 270) : Int32).toInt = 64 := h202
    refine hB _ _ _ _ _ (fun m203 hm203 => ?_)
    dsimp only [ucgo, ucwp, ucsC, uqC, uoC, ctC, rfd, KX3_judgeStatement, KX3_judgeStatement_0, KX3_judgeStatement_112, KX3_judgeStatement_122, KX3_judgeStatement_133, KX3_judgeStatement_137, KX3_judgeStatement_138, KX3_judgeStatement_152, KX3_judgeStatement_160, KX3_judgeStatement_168, KX3_judgeStatement_176, KX3_judgeStatement_186, KX3_judgeStatement_209, KX3_judgeStatement_217, KX3_judgeStatement_224, KX3_judgeStatement_234, KX3_judgeStatement_253, lkC, s1C, s2C, dlC, kyC, Nat.beq, Nat.ble, rcd, rno, rsw, Nat.reduceAdd, Nat.reduceBEq, Nat.reduceDiv, List.drop, List.take, List.reverse, List.reverseAux, Int.toNat, Option.toList, List.append, List.cons_append, List.nil_append, zg62, zg68, zg121, zg270, zg279]
    intro w204 τ204 o204 q204
    obtain ⟨rfl, hq204⟩ := q204 (N, E, A, B, V, z, T, ms, nm, j) ⟨_, rfl, hSs, hNm, hwf, hj, hp, h281, by omega⟩
    try dsimp only [Option.toList, List.cons_append, List.nil_append, s1C, s2C, dlC, kyC, Nat.beq, lkC, rcd, rno, rsw]
    refine hB _ _ _ _ _ (fun m205 hm205 => ?_)
    dsimp only [ucgo, ucwp, ucsC, uqC, uoC, ctC, rfd, KX3_judgeStatement, KX3_judgeStatement_0, KX3_judgeStatement_112, KX3_judgeStatement_122, KX3_judgeStatement_133, KX3_judgeStatement_137, KX3_judgeStatement_138, KX3_judgeStatement_152, KX3_judgeStatement_160, KX3_judgeStatement_168, KX3_judgeStatement_176, KX3_judgeStatement_186, KX3_judgeStatement_209, KX3_judgeStatement_217, KX3_judgeStatement_224, KX3_judgeStatement_234, KX3_judgeStatement_253, lkC, s1C, s2C, dlC, kyC, Nat.beq, Nat.ble, rcd, rno, rsw, Nat.reduceAdd, Nat.reduceBEq, Nat.reduceDiv, List.drop, List.take, List.reverse, List.reverseAux, Int.toNat, Option.toList, List.append, List.cons_append, List.nil_append, zg62, zg68, zg121, zg270, zg279]
    try dsimp only [Qz_judgeStatement]
    exact fun τ9 h9 => ⟨rfl, (er_we h9).trans (hq204.1.trans (or_congr Iff.rfl (by rw [← sk_k (P := 0 ≤ tjT N z j) (N := N) (T := T) (ms := ms) (fun q9 => by omega) (fun q9 => by omega) (fun _ => Iff.rfl) (fun q9 => by omega) (fun q9 => by omega) (fun q9 => by omega) (fun q9 => by omega) (fun q1 q2 q3 q4 q5 q6 q7 => by omega)]; exact ⟨fun q9 q8 => by omega, fun q9 => by omega⟩))), by rw [we_r h9, if_pos (by omega)]; exact hq204.2.1, by rw [we_r h9]; exact hq204.2.2⟩
  have g202 : ¬ ((fIC σ p1 270) : Int32).toInt = 64 := h202
  refine ⟨fun h206 => ?_, fun h206 => ?_⟩
  · have g206 : ((fIC σ p1 270) : Int32).toInt = 65 := h206
    refine hB _ _ _ _ _ (fun m207 hm207 => ?_)
    dsimp only [ucgo, ucwp, ucsC, uqC, uoC, ctC, rfd, KX3_judgeStatement, KX3_judgeStatement_0, KX3_judgeStatement_112, KX3_judgeStatement_122, KX3_judgeStatement_133, KX3_judgeStatement_137, KX3_judgeStatement_138, KX3_judgeStatement_152, KX3_judgeStatement_160, KX3_judgeStatement_168, KX3_judgeStatement_176, KX3_judgeStatement_186, KX3_judgeStatement_209, KX3_judgeStatement_217, KX3_judgeStatement_224, KX3_judgeStatement_234, KX3_judgeStatement_253, lkC, s1C, s2C, dlC, kyC, Nat.beq, Nat.ble, rcd, rno, rsw, Nat.reduceAdd, Nat.reduceBEq, Nat.reduceDiv, List.drop, List.take, List.reverse, List.reverseAux, Int.toNat, Option.toList, List.append, List.cons_append, List.nil_append, zg62, zg68, zg121, zg270, zg279]
    intro w208 τ208 o208 q208
    obtain ⟨rfl, hq208⟩ := q208 (N, E, A, B, V, z, T, ms, nm, j) ⟨_, rfl, hSs, hNm, hwf, hj, hp, h281, by omega⟩
    try dsimp only [Option.toList, List.cons_append, List.nil_append, s1C, s2C, dlC, kyC, Nat.beq, lkC, rcd, rno, rsw]
    refine hB _ _ _ _ _ (fun m209 hm209 => ?_)
    dsimp only [ucgo, ucwp, ucsC, uqC, uoC, ctC, rfd, KX3_judgeStatement, KX3_judgeStatement_0, KX3_judgeStatement_112, KX3_judgeStatement_122, KX3_judgeStatement_133, KX3_judgeStatement_137, KX3_judgeStatement_138, KX3_judgeStatement_152, KX3_judgeStatement_160, KX3_judgeStatement_168, KX3_judgeStatement_176, KX3_judgeStatement_186, KX3_judgeStatement_209, KX3_judgeStatement_217, KX3_judgeStatement_224, KX3_judgeStatement_234, KX3_judgeStatement_253, lkC, s1C, s2C, dlC, kyC, Nat.beq, Nat.ble, rcd, rno, rsw, Nat.reduceAdd, Nat.reduceBEq, Nat.reduceDiv, List.drop, List.take, List.reverse, List.reverseAux, Int.toNat, Option.toList, List.append, List.cons_append, List.nil_append, zg62, zg68, zg121, zg270, zg279]
    try dsimp only [Qz_judgeStatement]
    exact fun τ9 h9 => ⟨rfl, (er_we h9).trans (hq208.1.trans (or_congr Iff.rfl (by rw [← sk_k (P := 0 ≤ tjT N z j) (N := N) (T := T) (ms := ms) (fun q9 => by omega) (fun q9 => by omega) (fun _ => Iff.rfl) (fun q9 => by omega) (fun q9 => by omega) (fun q9 => by omega) (fun q9 => by omega) (fun q1 q2 q3 q4 q5 q6 q7 => by omega)]; exact ⟨fun q9 q8 => by omega, fun q9 => by omega⟩))), by rw [we_r h9, if_pos (by omega)]; exact hq208.2.1, by rw [we_r h9]; exact hq208.2.2⟩
  have g206 : ¬ ((fIC σ p1 270) : Int32).toInt = 65 := h206
  refine ⟨fun h210 => ?_, fun h210 => ?_⟩
  · have g210 : ((fIC σ p1 270) : Int32).toInt = 66 := h210
    refine hB _ _ _ _ _ (fun m211 hm211 => ?_)
    dsimp only [ucgo, ucwp, ucsC, uqC, uoC, ctC, rfd, KX3_judgeStatement, KX3_judgeStatement_0, KX3_judgeStatement_112, KX3_judgeStatement_122, KX3_judgeStatement_133, KX3_judgeStatement_137, KX3_judgeStatement_138, KX3_judgeStatement_152, KX3_judgeStatement_160, KX3_judgeStatement_168, KX3_judgeStatement_176, KX3_judgeStatement_186, KX3_judgeStatement_209, KX3_judgeStatement_217, KX3_judgeStatement_224, KX3_judgeStatement_234, KX3_judgeStatement_253, lkC, s1C, s2C, dlC, kyC, Nat.beq, Nat.ble, rcd, rno, rsw, Nat.reduceAdd, Nat.reduceBEq, Nat.reduceDiv, List.drop, List.take, List.reverse, List.reverseAux, Int.toNat, Option.toList, List.append, List.cons_append, List.nil_append, zg62, zg68, zg121, zg270, zg279]
    intro w212 τ212 o212 q212
    obtain ⟨hlk9, m9, hmm9⟩ := hrt j hj (by omega)
    have hm9 : 0 ≤ ljS z j ∧ ms (ljS z j).toNat = some m9 := ⟨hlk9, hmm9⟩
    obtain ⟨rfl, hq212⟩ := q212 (N, E, A, B, V, z, T, ms, nm, j, m9) ⟨_, rfl, hSs, hNm, hwf, hj, hp, hm9⟩
    have hF212 : FrE [217, 218] σ τ212 := FrE.mo o212.2 rfl
    have hSs_212 := SsC.fr hSs hF212 rfl
    have hNm_212 := NmC.fr hNm hF212 rfl
    have op_212 : SlC A B τ212 z j p1 ∧ p1 < cnC τ212 := by rw [hp]; exact hSs_212.1 j hj
    try dsimp only [Option.toList, List.cons_append, List.nil_append, s1C, s2C, dlC, kyC, Nat.beq, lkC, rcd, rno, rsw]
    refine hB _ _ _ _ _ (fun m213 hm213 => ?_)
    dsimp only [ucgo, ucwp, ucsC, uqC, uoC, ctC, rfd, KX3_judgeStatement, KX3_judgeStatement_0, KX3_judgeStatement_112, KX3_judgeStatement_122, KX3_judgeStatement_133, KX3_judgeStatement_137, KX3_judgeStatement_138, KX3_judgeStatement_152, KX3_judgeStatement_160, KX3_judgeStatement_168, KX3_judgeStatement_176, KX3_judgeStatement_186, KX3_judgeStatement_209, KX3_judgeStatement_217, KX3_judgeStatement_224, KX3_judgeStatement_234, KX3_judgeStatement_253, lkC, s1C, s2C, dlC, kyC, Nat.beq, Nat.ble, rcd, rno, rsw, Nat.reduceAdd, Nat.reduceBEq, Nat.reduceDiv, List.drop, List.take, List.reverse, List.reverseAux, Int.toNat, Option.toList, List.append, List.cons_append, List.nil_append, zg62, zg68, zg121, zg270, zg279]
    try dsimp only [Qz_judgeStatement]
    exact fun τ9 h9 => ⟨rfl, (er_we h9).trans (hq212.trans (or_congr Iff.rfl (not_congr (sk_k (fun q9 => by omega) (fun q9 => by omega) (fun q9 => by omega) (fun _ => ⟨fun q9 m9 q8 => by cases hm9.2.symm.trans q8; exact q9, fun q9 => q9 m9 hm9.2⟩) (fun q9 => by omega) (fun q9 => by omega) (fun q9 => by omega) (fun q1 q2 q3 q4 q5 q6 q7 => by omega))))), (by rw [we_r h9]; exact (s281 (E := E) (A := A) (V := V) hF212 op.2 h281 (by omega)).1), (by rw [we_r h9]; exact (s281 (E := E) (A := A) (V := V) (N := N) (B := B) (z := z) (j := j) hF212 op.2 h281 (by omega)).2)⟩
  have g210 : ¬ ((fIC σ p1 270) : Int32).toInt = 66 := h210
  refine ⟨fun h214 => ?_, fun h214 => ?_⟩
  · have g214 : ((fIC σ p1 270) : Int32).toInt = 67 := h214
    refine hB _ _ _ _ _ (fun m215 hm215 => ?_)
    dsimp only [ucgo, ucwp, ucsC, uqC, uoC, ctC, rfd, KX3_judgeStatement, KX3_judgeStatement_0, KX3_judgeStatement_112, KX3_judgeStatement_122, KX3_judgeStatement_133, KX3_judgeStatement_137, KX3_judgeStatement_138, KX3_judgeStatement_152, KX3_judgeStatement_160, KX3_judgeStatement_168, KX3_judgeStatement_176, KX3_judgeStatement_186, KX3_judgeStatement_209, KX3_judgeStatement_217, KX3_judgeStatement_224, KX3_judgeStatement_234, KX3_judgeStatement_253, lkC, s1C, s2C, dlC, kyC, Nat.beq, Nat.ble, rcd, rno, rsw, Nat.reduceAdd, Nat.reduceBEq, Nat.reduceDiv, List.drop, List.take, List.reverse, List.reverseAux, Int.toNat, Option.toList, List.append, List.cons_append, List.nil_append, zg62, zg68, zg121, zg270, zg279]
    intro a216 e216 ob216
    cases e216
    have f217 : (fRC σ p1 279) = opA A (xjS z j) := op.1.2.2.2.2.2.1
    intro w218 τ218 o218 q218
    obtain ⟨r218, rfl, hr218, rfl⟩ := q218 (N, E, A, B, V, z) ⟨_, rfl⟩
    rcases Int.lt_or_le (xjS z j) 0 with hz218 | hz218
    · have rz218 : r218.toInt = 1 := by
        rcases hr218 with q9 | q9
        · exact q9.1
        · exact absurd (fun a9 q8 => by rw [f217, opA_n hz218] at q8; cases q8) q9.2
      try dsimp only [Option.toList, List.cons_append, List.nil_append, s1C, s2C, dlC, kyC, Nat.beq, lkC, rcd, rno, rsw]
      refine ⟨fun h219 => ?_, fun h219 => ?_⟩
      · have g219 := (neI (x := r218) (y := 0) h219 : ¬ (r218 : Int32).toInt = (0 : Int32).toInt)
        have z0_ : (0 : Int32).toInt = 0 := rfl
        refine hB _ _ _ _ _ (fun m220 hm220 => ?_)
        dsimp only [ucgo, ucwp, ucsC, uqC, uoC, ctC, rfd, KX3_judgeStatement, KX3_judgeStatement_0, KX3_judgeStatement_112, KX3_judgeStatement_122, KX3_judgeStatement_133, KX3_judgeStatement_137, KX3_judgeStatement_138, KX3_judgeStatement_152, KX3_judgeStatement_160, KX3_judgeStatement_168, KX3_judgeStatement_176, KX3_judgeStatement_186, KX3_judgeStatement_209, KX3_judgeStatement_217, KX3_judgeStatement_224, KX3_judgeStatement_234, KX3_judgeStatement_253, lkC, s1C, s2C, dlC, kyC, Nat.beq, Nat.ble, rcd, rno, rsw, Nat.reduceAdd, Nat.reduceBEq, Nat.reduceDiv, List.drop, List.take, List.reverse, List.reverseAux, Int.toNat, Option.toList, List.append, List.cons_append, List.nil_append, zg62, zg68, zg121, zg270, zg279]
        try dsimp only [Qz_judgeStatement]
        exact fun τ9 h9 => ⟨rfl, (er_we h9).trans (iff_e ((sk_k (P := (0 ≤ xjS z j → ftT (T.1 (xjS z j).toNat) 3)) (N := N) (T := T) (ms := ms) (fun q9 => by omega) (fun q9 => by omega) (fun q9 => by omega) (fun q9 => by omega) (fun _ => Iff.rfl) (fun q9 => by omega) (fun q9 => by omega) (fun q1 q2 q3 q4 q5 q6 q7 => by omega)).mp (show (0 ≤ xjS z j → ftT (T.1 (xjS z j).toNat) 3) by exact fun q9 => by omega))).symm, (by rw [we_r h9]; exact (s281 (E := E) (A := A) (V := V) FrE.rf op.2 h281 (by omega)).1), (by rw [we_r h9]; exact (s281 (E := E) (A := A) (V := V) (N := N) (B := B) (z := z) (j := j) FrE.rf op.2 h281 (by omega)).2)⟩
      · have g219 := (eqI (x := r218) (y := 0) h219 : (r218 : Int32).toInt = (0 : Int32).toInt)
        have z0_ : (0 : Int32).toInt = 0 := rfl
        exfalso
        omega
    · obtain ⟨kx218, hk218⟩ : ∃ k : Nat, xjS z j = (k : Int) := ⟨(xjS z j).toNat, by omega⟩
      have hw_kx218 := (hwf j hj).2.1 hz218
      rw [hk218, Int.toNat_natCast] at hw_kx218
      have hl218 : kx218 < xnM z := by omega
      have hv218 : (fRC σ p1 279) = some (A kx218) := by rw [f217, hk218, opA_k]
      have o221 := hSs.2.1 kx218 hl218
      have rz218 : r218.toInt = 0 := by
        rcases hr218 with q9 | q9
        · exact absurd (o221.1.1.1.symm.trans (q9.2 _ hv218)) hw_kx218.2
        · exact q9.1
      try dsimp only [Option.toList, List.cons_append, List.nil_append, s1C, s2C, dlC, kyC, Nat.beq, lkC, rcd, rno, rsw]
      refine ⟨fun h222 => ?_, fun h222 => ?_⟩
      · have g222 := (neI (x := r218) (y := 0) h222 : ¬ (r218 : Int32).toInt = (0 : Int32).toInt)
        have z0_ : (0 : Int32).toInt = 0 := rfl
        exfalso
        omega
      · have g222 := (eqI (x := r218) (y := 0) h222 : (r218 : Int32).toInt = (0 : Int32).toInt)
        have z0_ : (0 : Int32).toInt = 0 := rfl
        refine hB _ _ _ _ _ (fun m223 hm223 => ?_)
        dsimp only [ucgo, ucwp, ucsC, uqC, uoC, ctC, rfd, KX3_judgeStatement, KX3_judgeStatement_0, KX3_judgeStatement_112, KX3_judgeStatement_122, KX3_judgeStatement_133, KX3_judgeStatement_137, KX3_judgeStatement_138, KX3_judgeStatement_152, KX3_judgeStatement_160, KX3_judgeStatement_168, KX3_judgeStatement_176, KX3_judgeStatement_186, KX3_judgeStatement_209, KX3_judgeStatement_217, KX3_judgeStatement_224, KX3_judgeStatement_234, KX3_judgeStatement_253, lkC, s1C, s2C, dlC, kyC, Nat.beq, Nat.ble, rcd, rno, rsw, Nat.reduceAdd, Nat.reduceBEq, Nat.reduceDiv, List.drop, List.take, List.reverse, List.reverseAux, Int.toNat, Option.toList, List.append, List.cons_append, List.nil_append, zg62, zg68, zg121, zg270, zg279]
        intro a224 e224 ob224
        cases e224
        have f225 : (fRC σ p1 279) = some (A kx218) := by rw [show (fRC σ p1 279) = opA A (xjS z j) from op.1.2.2.2.2.2.1, hk218, opA_k]
        have c226 : (Int32.ofInt 3).toInt = 3 := by decide
        intro w227 τ227 o227 q227
        rw [f225] at q227 o227
        obtain ⟨r227, rfl, hr227, rfl⟩ := q227 (N, E, A, B, V, z) ⟨_, _, rfl⟩
        rw [show ((Int32.ofInt 3) : Int32).toInt = 3 by omega, ft_c (a := tvC σ (A kx218)) (b := T.1 kx218) o221.1.1.1 o221.1.1.2.1 o221.1.1.2.2 _] at hr227
        try dsimp only [Option.toList, List.cons_append, List.nil_append, s1C, s2C, dlC, kyC, Nat.beq, lkC, rcd, rno, rsw]
        intro a228 e228 ob228
        cases e228
        have f229 : (fRC σ p1 279) = some (A kx218) := by rw [show (fRC σ p1 279) = opA A (xjS z j) from op.1.2.2.2.2.2.1, hk218, opA_k]
        intro a230 e230 ob230
        obtain rfl : A kx218 = a230 := Option.some.inj (f229.symm.trans e230)
        intro w232 τ232 o232 q232
        obtain ⟨rfl, qq232⟩ := q232 (N, E, A, B, V, z) ⟨_, _, rfl, hNm.1⟩
        rcases qq232 with ⟨qa232, rfl⟩ | ⟨qa232, qb232⟩
        · have qc232 := qa232
          try dsimp only [Option.toList, List.cons_append, List.nil_append, s1C, s2C, dlC, kyC, Nat.beq, lkC, rcd, rno, rsw]
          refine hB _ _ _ _ _ (fun m233 hm233 => ?_)
          dsimp only [ucgo, ucwp, ucsC, uqC, uoC, ctC, rfd, KX3_judgeStatement, KX3_judgeStatement_0, KX3_judgeStatement_112, KX3_judgeStatement_122, KX3_judgeStatement_133, KX3_judgeStatement_137, KX3_judgeStatement_138, KX3_judgeStatement_152, KX3_judgeStatement_160, KX3_judgeStatement_168, KX3_judgeStatement_176, KX3_judgeStatement_186, KX3_judgeStatement_209, KX3_judgeStatement_217, KX3_judgeStatement_224, KX3_judgeStatement_234, KX3_judgeStatement_253, lkC, s1C, s2C, dlC, kyC, Nat.beq, Nat.ble, rcd, rno, rsw, Nat.reduceAdd, Nat.reduceBEq, Nat.reduceDiv, List.drop, List.take, List.reverse, List.reverseAux, Int.toNat, Option.toList, List.append, List.cons_append, List.nil_append, zg62, zg68, zg121, zg270, zg279]
          try dsimp only [Qz_judgeStatement]
          exact fun τ9 h9 => ⟨rfl, (er_we h9).trans (iff_e ((sk_k (P := (0 ≤ xjS z j → ftT (T.1 (xjS z j).toNat) 3)) (N := N) (T := T) (ms := ms) (fun q9 => by omega) (fun q9 => by omega) (fun q9 => by omega) (fun q9 => by omega) (fun _ => Iff.rfl) (fun q9 => by omega) (fun q9 => by omega) (fun q1 q2 q3 q4 q5 q6 q7 => by omega)).mp (show (0 ≤ xjS z j → ftT (T.1 (xjS z j).toNat) 3) by rw [hk218, Int.toNat_natCast]; exact fun q9 => by rcases hr227 with q7 | q7; exact q7.2; exact absurd q7.1 (by omega)))).symm, (by rw [we_r h9]; exact (s281 (E := E) (A := A) (V := V) FrE.rf op.2 h281 (by omega)).1), (by rw [we_r h9]; exact (s281 (E := E) (A := A) (V := V) (N := N) (B := B) (z := z) (j := j) FrE.rf op.2 h281 (by omega)).2)⟩
        · have qc232 := qa232
          have hF232 : FrE [217, 218] σ τ232 := FrE.mo o232.2 rfl
          have hSs_232 := SsC.fr hSs hF232 rfl
          have hNm_232 := NmC.fr hNm hF232 rfl
          have op_232 : SlC A B τ232 z j p1 ∧ p1 < cnC τ232 := by rw [hp]; exact hSs_232.1 j hj
          have o221_232 := hSs_232.2.1 kx218 hl218
          try dsimp only [Option.toList, List.cons_append, List.nil_append, s1C, s2C, dlC, kyC, Nat.beq, lkC, rcd, rno, rsw]
          refine hB _ _ _ _ _ (fun m234 hm234 => ?_)
          dsimp only [ucgo, ucwp, ucsC, uqC, uoC, ctC, rfd, KX3_judgeStatement, KX3_judgeStatement_0, KX3_judgeStatement_112, KX3_judgeStatement_122, KX3_judgeStatement_133, KX3_judgeStatement_137, KX3_judgeStatement_138, KX3_judgeStatement_152, KX3_judgeStatement_160, KX3_judgeStatement_168, KX3_judgeStatement_176, KX3_judgeStatement_186, KX3_judgeStatement_209, KX3_judgeStatement_217, KX3_judgeStatement_224, KX3_judgeStatement_234, KX3_judgeStatement_253, lkC, s1C, s2C, dlC, kyC, Nat.beq, Nat.ble, rcd, rno, rsw, Nat.reduceAdd, Nat.reduceBEq, Nat.reduceDiv, List.drop, List.take, List.reverse, List.reverseAux, Int.toNat, Option.toList, List.append, List.cons_append, List.nil_append, zg62, zg68, zg121, zg270, zg279]
          try dsimp only [Qz_judgeStatement]
          exact fun τ9 h9 => ⟨rfl, (er_we h9).trans ((iff_of_true qb232 (Or.inr (show ¬ (0 ≤ xjS z j → ftT (T.1 (xjS z j).toNat) 3) by rw [hk218, Int.toNat_natCast]; intro q9; rcases hr227 with q7 | q7; exact absurd q7.1 (by omega); exact q7.2 (q9 (by omega))))).trans (or_congr Iff.rfl (not_congr (sk_k (P := (0 ≤ xjS z j → ftT (T.1 (xjS z j).toNat) 3)) (N := N) (T := T) (ms := ms) (fun q9 => by omega) (fun q9 => by omega) (fun q9 => by omega) (fun q9 => by omega) (fun _ => Iff.rfl) (fun q9 => by omega) (fun q9 => by omega) (fun q1 q2 q3 q4 q5 q6 q7 => by omega))))), (by rw [we_r h9]; exact (s281 (E := E) (A := A) (V := V) hF232 op.2 h281 (by omega)).1), (by rw [we_r h9]; exact (s281 (E := E) (A := A) (V := V) (N := N) (B := B) (z := z) (j := j) hF232 op.2 h281 (by omega)).2)⟩
  have g214 : ¬ ((fIC σ p1 270) : Int32).toInt = 67 := h214
  refine ⟨fun h235 => ?_, fun h235 => ?_⟩
  · have g235 : ((fIC σ p1 270) : Int32).toInt = 90 := h235
    refine hB _ _ _ _ _ (fun m236 hm236 => ?_)
    dsimp only [ucgo, ucwp, ucsC, uqC, uoC, ctC, rfd, KX3_judgeStatement, KX3_judgeStatement_0, KX3_judgeStatement_112, KX3_judgeStatement_122, KX3_judgeStatement_133, KX3_judgeStatement_137, KX3_judgeStatement_138, KX3_judgeStatement_152, KX3_judgeStatement_160, KX3_judgeStatement_168, KX3_judgeStatement_176, KX3_judgeStatement_186, KX3_judgeStatement_209, KX3_judgeStatement_217, KX3_judgeStatement_224, KX3_judgeStatement_234, KX3_judgeStatement_253, lkC, s1C, s2C, dlC, kyC, Nat.beq, Nat.ble, rcd, rno, rsw, Nat.reduceAdd, Nat.reduceBEq, Nat.reduceDiv, List.drop, List.take, List.reverse, List.reverseAux, Int.toNat, Option.toList, List.append, List.cons_append, List.nil_append, zg62, zg68, zg121, zg270, zg279]
    intro a237 e237 ob237
    cases e237
    have f238 : (fRC σ p1 279) = opA A (xjS z j) := op.1.2.2.2.2.2.1
    refine ⟨fun h239 => ?_, fun b239 h239 => ?_⟩
    · have hx239 := opA_nn (f238.symm.trans h239)
      refine hB _ _ _ _ _ (fun m240 hm240 => ?_)
      dsimp only [ucgo, ucwp, ucsC, uqC, uoC, ctC, rfd, KX3_judgeStatement, KX3_judgeStatement_0, KX3_judgeStatement_112, KX3_judgeStatement_122, KX3_judgeStatement_133, KX3_judgeStatement_137, KX3_judgeStatement_138, KX3_judgeStatement_152, KX3_judgeStatement_160, KX3_judgeStatement_168, KX3_judgeStatement_176, KX3_judgeStatement_186, KX3_judgeStatement_209, KX3_judgeStatement_217, KX3_judgeStatement_224, KX3_judgeStatement_234, KX3_judgeStatement_253, lkC, s1C, s2C, dlC, kyC, Nat.beq, Nat.ble, rcd, rno, rsw, Nat.reduceAdd, Nat.reduceBEq, Nat.reduceDiv, List.drop, List.take, List.reverse, List.reverseAux, Int.toNat, Option.toList, List.append, List.cons_append, List.nil_append, zg62, zg68, zg121, zg270, zg279]
      try dsimp only [Qz_judgeStatement]
      exact fun τ9 h9 => ⟨rfl, (er_we h9).trans (iff_e ((sk_k (P := (0 ≤ xjS z j → (xth z (xjS z j).toNat).1.1 = 9 ∨ (xth z (xjS z j).toNat).1.1 = 6 ∨ (xth z (xjS z j).toNat).1.1 = 10)) (N := N) (T := T) (ms := ms) (fun q9 => by omega) (fun q9 => by omega) (fun q9 => by omega) (fun q9 => by omega) (fun q9 => by omega) (fun q9 => by omega) (fun _ => Iff.rfl) (fun q1 q2 q3 q4 q5 q6 q7 => by omega)).mp (show (0 ≤ xjS z j → (xth z (xjS z j).toNat).1.1 = 9 ∨ (xth z (xjS z j).toNat).1.1 = 6 ∨ (xth z (xjS z j).toNat).1.1 = 10) by exact fun q9 => by omega))).symm, (by rw [we_r h9]; exact (s281 (E := E) (A := A) (V := V) FrE.rf op.2 h281 (by omega)).1), (by rw [we_r h9]; exact (s281 (E := E) (A := A) (V := V) (N := N) (B := B) (z := z) (j := j) FrE.rf op.2 h281 (by omega)).2)⟩
    · obtain ⟨kx239, hk239, hb239⟩ := opA_j (f238.symm.trans h239)
      have hw_kx239 := (hwf j hj).2.1 (by omega)
      rw [hk239, Int.toNat_natCast] at hw_kx239
      have hl239 : kx239 < xnM z := by omega
      have o241 := hSs.2.1 kx239 hl239
      refine hB _ _ _ _ _ (fun m242 hm242 => ?_)
      dsimp only [ucgo, ucwp, ucsC, uqC, uoC, ctC, rfd, KX3_judgeStatement, KX3_judgeStatement_0, KX3_judgeStatement_112, KX3_judgeStatement_122, KX3_judgeStatement_133, KX3_judgeStatement_137, KX3_judgeStatement_138, KX3_judgeStatement_152, KX3_judgeStatement_160, KX3_judgeStatement_168, KX3_judgeStatement_176, KX3_judgeStatement_186, KX3_judgeStatement_209, KX3_judgeStatement_217, KX3_judgeStatement_224, KX3_judgeStatement_234, KX3_judgeStatement_253, lkC, s1C, s2C, dlC, kyC, Nat.beq, Nat.ble, rcd, rno, rsw, Nat.reduceAdd, Nat.reduceBEq, Nat.reduceDiv, List.drop, List.take, List.reverse, List.reverseAux, Int.toNat, Option.toList, List.append, List.cons_append, List.nil_append, zg62, zg68, zg121, zg270, zg279]
      intro a243 e243 ob243
      cases e243
      have f244 : (fRC σ p1 279) = some (A kx239) := by rw [show (fRC σ p1 279) = opA A (xjS z j) from op.1.2.2.2.2.2.1, hk239, opA_k]
      rw [f244]
      try dsimp only
      intro w245 τ245 o245 q245
      obtain ⟨r245, rfl, hr245, rfl⟩ := q245 (N, E, A, B, V, z) ⟨_, rfl⟩
      rw [o241.1.2.1.1] at hr245
      try dsimp only [Option.toList, List.cons_append, List.nil_append, s1C, s2C, dlC, kyC, Nat.beq, lkC, rcd, rno, rsw]
      refine ⟨fun h246 => ?_, fun h246 => ?_⟩
      · have g246 := (neI (x := r245) (y := 0) h246 : ¬ (r245 : Int32).toInt = (0 : Int32).toInt)
        have z0_ : (0 : Int32).toInt = 0 := rfl
        refine hB _ _ _ _ _ (fun m247 hm247 => ?_)
        dsimp only [ucgo, ucwp, ucsC, uqC, uoC, ctC, rfd, KX3_judgeStatement, KX3_judgeStatement_0, KX3_judgeStatement_112, KX3_judgeStatement_122, KX3_judgeStatement_133, KX3_judgeStatement_137, KX3_judgeStatement_138, KX3_judgeStatement_152, KX3_judgeStatement_160, KX3_judgeStatement_168, KX3_judgeStatement_176, KX3_judgeStatement_186, KX3_judgeStatement_209, KX3_judgeStatement_217, KX3_judgeStatement_224, KX3_judgeStatement_234, KX3_judgeStatement_253, lkC, s1C, s2C, dlC, kyC, Nat.beq, Nat.ble, rcd, rno, rsw, Nat.reduceAdd, Nat.reduceBEq, Nat.reduceDiv, List.drop, List.take, List.reverse, List.reverseAux, Int.toNat, Option.toList, List.append, List.cons_append, List.nil_append, zg62, zg68, zg121, zg270, zg279]
        try dsimp only [Qz_judgeStatement]
        exact fun τ9 h9 => ⟨rfl, (er_we h9).trans (iff_e ((sk_k (P := (0 ≤ xjS z j → (xth z (xjS z j).toNat).1.1 = 9 ∨ (xth z (xjS z j).toNat).1.1 = 6 ∨ (xth z (xjS z j).toNat).1.1 = 10)) (N := N) (T := T) (ms := ms) (fun q9 => by omega) (fun q9 => by omega) (fun q9 => by omega) (fun q9 => by omega) (fun q9 => by omega) (fun q9 => by omega) (fun _ => Iff.rfl) (fun q1 q2 q3 q4 q5 q6 q7 => by omega)).mp (show (0 ≤ xjS z j → (xth z (xjS z j).toNat).1.1 = 9 ∨ (xth z (xjS z j).toNat).1.1 = 6 ∨ (xth z (xjS z j).toNat).1.1 = 10) by rw [hk239, Int.toNat_natCast]; exact fun q9 => by omega))).symm, (by rw [we_r h9]; exact (s281 (E := E) (A := A) (V := V) FrE.rf op.2 h281 (by omega)).1), (by rw [we_r h9]; exact (s281 (E := E) (A := A) (V := V) (N := N) (B := B) (z := z) (j := j) FrE.rf op.2 h281 (by omega)).2)⟩
      · have g246 := (eqI (x := r245) (y := 0) h246 : (r245 : Int32).toInt = (0 : Int32).toInt)
        have z0_ : (0 : Int32).toInt = 0 := rfl
        refine hB _ _ _ _ _ (fun m248 hm248 => ?_)
        dsimp only [ucgo, ucwp, ucsC, uqC, uoC, ctC, rfd, KX3_judgeStatement, KX3_judgeStatement_0, KX3_judgeStatement_112, KX3_judgeStatement_122, KX3_judgeStatement_133, KX3_judgeStatement_137, KX3_judgeStatement_138, KX3_judgeStatement_152, KX3_judgeStatement_160, KX3_judgeStatement_168, KX3_judgeStatement_176, KX3_judgeStatement_186, KX3_judgeStatement_209, KX3_judgeStatement_217, KX3_judgeStatement_224, KX3_judgeStatement_234, KX3_judgeStatement_253, lkC, s1C, s2C, dlC, kyC, Nat.beq, Nat.ble, rcd, rno, rsw, Nat.reduceAdd, Nat.reduceBEq, Nat.reduceDiv, List.drop, List.take, List.reverse, List.reverseAux, Int.toNat, Option.toList, List.append, List.cons_append, List.nil_append, zg62, zg68, zg121, zg270, zg279]
        intro a249 e249 ob249
        cases e249
        have c251 : (Int32.ofInt 12).toInt = 12 := by decide
        intro a252 e252 ob252
        cases e252
        have f253 : (fRC σ p1 279) = some (A kx239) := by rw [show (fRC σ p1 279) = opA A (xjS z j) from op.1.2.2.2.2.2.1, hk239, opA_k]
        intro a254 e254 ob254
        obtain rfl : A kx239 = a254 := Option.some.inj (f253.symm.trans e254)
        rw [hNm.1.1]
        try dsimp only
        intro w256 τ256 o256 q256
        obtain ⟨rfl, hb256⟩ := q256 (N, E, A, B, V, z) ⟨_, _, rfl, by omega⟩
        have hF256 : FrE [217, 218] σ τ256 := FrE.mo o256.2 rfl
        have hSs_256 := SsC.fr hSs hF256 rfl
        have hNm_256 := NmC.fr hNm hF256 rfl
        have op_256 : SlC A B τ256 z j p1 ∧ p1 < cnC τ256 := by rw [hp]; exact hSs_256.1 j hj
        have o241_256 := hSs_256.2.1 kx239 hl239
        try dsimp only [Option.toList, List.cons_append, List.nil_append, s1C, s2C, dlC, kyC, Nat.beq, lkC, rcd, rno, rsw]
        refine hB _ _ _ _ _ (fun m257 hm257 => ?_)
        dsimp only [ucgo, ucwp, ucsC, uqC, uoC, ctC, rfd, KX3_judgeStatement, KX3_judgeStatement_0, KX3_judgeStatement_112, KX3_judgeStatement_122, KX3_judgeStatement_133, KX3_judgeStatement_137, KX3_judgeStatement_138, KX3_judgeStatement_152, KX3_judgeStatement_160, KX3_judgeStatement_168, KX3_judgeStatement_176, KX3_judgeStatement_186, KX3_judgeStatement_209, KX3_judgeStatement_217, KX3_judgeStatement_224, KX3_judgeStatement_234, KX3_judgeStatement_253, lkC, s1C, s2C, dlC, kyC, Nat.beq, Nat.ble, rcd, rno, rsw, Nat.reduceAdd, Nat.reduceBEq, Nat.reduceDiv, List.drop, List.take, List.reverse, List.reverseAux, Int.toNat, Option.toList, List.append, List.cons_append, List.nil_append, zg62, zg68, zg121, zg270, zg279]
        try dsimp only [Qz_judgeStatement]
        exact fun τ9 h9 => ⟨rfl, (er_we h9).trans ((iff_of_true hb256 (Or.inr (show ¬ (0 ≤ xjS z j → (xth z (xjS z j).toNat).1.1 = 9 ∨ (xth z (xjS z j).toNat).1.1 = 6 ∨ (xth z (xjS z j).toNat).1.1 = 10) by rw [hk239, Int.toNat_natCast]; intro q9; have q8 := q9 (by omega); omega))).trans (or_congr Iff.rfl (not_congr (sk_k (P := (0 ≤ xjS z j → (xth z (xjS z j).toNat).1.1 = 9 ∨ (xth z (xjS z j).toNat).1.1 = 6 ∨ (xth z (xjS z j).toNat).1.1 = 10)) (N := N) (T := T) (ms := ms) (fun q9 => by omega) (fun q9 => by omega) (fun q9 => by omega) (fun q9 => by omega) (fun q9 => by omega) (fun q9 => by omega) (fun _ => Iff.rfl) (fun q1 q2 q3 q4 q5 q6 q7 => by omega))))), (by rw [we_r h9]; exact (s281 (E := E) (A := A) (V := V) hF256 op.2 h281 (by omega)).1), (by rw [we_r h9]; exact (s281 (E := E) (A := A) (V := V) (N := N) (B := B) (z := z) (j := j) hF256 op.2 h281 (by omega)).2)⟩
  have g235 : ¬ ((fIC σ p1 270) : Int32).toInt = 90 := h235
  refine ⟨fun h258 => ?_, fun h258 => ?_⟩
  · have g258 : ((fIC σ p1 270) : Int32).toInt = 94 := h258
    refine hB _ _ _ _ _ (fun m259 hm259 => ?_)
    dsimp only [ucgo, ucwp, ucsC, uqC, uoC, ctC, rfd, KX3_judgeStatement, KX3_judgeStatement_0, KX3_judgeStatement_112, KX3_judgeStatement_122, KX3_judgeStatement_133, KX3_judgeStatement_137, KX3_judgeStatement_138, KX3_judgeStatement_152, KX3_judgeStatement_160, KX3_judgeStatement_168, KX3_judgeStatement_176, KX3_judgeStatement_186, KX3_judgeStatement_209, KX3_judgeStatement_217, KX3_judgeStatement_224, KX3_judgeStatement_234, KX3_judgeStatement_253, lkC, s1C, s2C, dlC, kyC, Nat.beq, Nat.ble, rcd, rno, rsw, Nat.reduceAdd, Nat.reduceBEq, Nat.reduceDiv, List.drop, List.take, List.reverse, List.reverseAux, Int.toNat, Option.toList, List.append, List.cons_append, List.nil_append, zg62, zg68, zg121, zg270, zg279]
    intro a260 e260 ob260
    cases e260
    have f261 : (fRC σ p1 279) = opA A (xjS z j) := op.1.2.2.2.2.2.1
    refine ⟨fun h262 => ?_, fun b262 h262 => ?_⟩
    · have hx262 := opA_nn (f261.symm.trans h262)
      refine hB _ _ _ _ _ (fun m263 hm263 => ?_)
      dsimp only [ucgo, ucwp, ucsC, uqC, uoC, ctC, rfd, KX3_judgeStatement, KX3_judgeStatement_0, KX3_judgeStatement_112, KX3_judgeStatement_122, KX3_judgeStatement_133, KX3_judgeStatement_137, KX3_judgeStatement_138, KX3_judgeStatement_152, KX3_judgeStatement_160, KX3_judgeStatement_168, KX3_judgeStatement_176, KX3_judgeStatement_186, KX3_judgeStatement_209, KX3_judgeStatement_217, KX3_judgeStatement_224, KX3_judgeStatement_234, KX3_judgeStatement_253, lkC, s1C, s2C, dlC, kyC, Nat.beq, Nat.ble, rcd, rno, rsw, Nat.reduceAdd, Nat.reduceBEq, Nat.reduceDiv, List.drop, List.take, List.reverse, List.reverseAux, Int.toNat, Option.toList, List.append, List.cons_append, List.nil_append, zg62, zg68, zg121, zg270, zg279]
      try dsimp only [Qz_judgeStatement]
      exact fun τ9 h9 => ⟨rfl, (er_we h9).trans (iff_e ((sk_k (P := (0 ≤ xjS z j → (xth z (xjS z j).toNat).1.1 = 9 ∨ (xth z (xjS z j).toNat).1.1 = 6 ∨ (xth z (xjS z j).toNat).1.1 = 10)) (N := N) (T := T) (ms := ms) (fun q9 => by omega) (fun q9 => by omega) (fun q9 => by omega) (fun q9 => by omega) (fun q9 => by omega) (fun q9 => by omega) (fun _ => Iff.rfl) (fun q1 q2 q3 q4 q5 q6 q7 => by omega)).mp (show (0 ≤ xjS z j → (xth z (xjS z j).toNat).1.1 = 9 ∨ (xth z (xjS z j).toNat).1.1 = 6 ∨ (xth z (xjS z j).toNat).1.1 = 10) by exact fun q9 => by omega))).symm, (by rw [we_r h9]; exact (s281 (E := E) (A := A) (V := V) FrE.rf op.2 h281 (by omega)).1), (by rw [we_r h9]; exact (s281 (E := E) (A := A) (V := V) (N := N) (B := B) (z := z) (j := j) FrE.rf op.2 h281 (by omega)).2)⟩
    · obtain ⟨kx262, hk262, hb262⟩ := opA_j (f261.symm.trans h262)
      have hw_kx262 := (hwf j hj).2.1 (by omega)
      rw [hk262, Int.toNat_natCast] at hw_kx262
      have hl262 : kx262 < xnM z := by omega
      have o264 := hSs.2.1 kx262 hl262
      refine hB _ _ _ _ _ (fun m265 hm265 => ?_)
      dsimp only [ucgo, ucwp, ucsC, uqC, uoC, ctC, rfd, KX3_judgeStatement, KX3_judgeStatement_0, KX3_judgeStatement_112, KX3_judgeStatement_122, KX3_judgeStatement_133, KX3_judgeStatement_137, KX3_judgeStatement_138, KX3_judgeStatement_152, KX3_judgeStatement_160, KX3_judgeStatement_168, KX3_judgeStatement_176, KX3_judgeStatement_186, KX3_judgeStatement_209, KX3_judgeStatement_217, KX3_judgeStatement_224, KX3_judgeStatement_234, KX3_judgeStatement_253, lkC, s1C, s2C, dlC, kyC, Nat.beq, Nat.ble, rcd, rno, rsw, Nat.reduceAdd, Nat.reduceBEq, Nat.reduceDiv, List.drop, List.take, List.reverse, List.reverseAux, Int.toNat, Option.toList, List.append, List.cons_append, List.nil_append, zg62, zg68, zg121, zg270, zg279]
      intro a266 e266 ob266
      cases e266
      have f267 : (fRC σ p1 279) = some (A kx262) := by rw [show (fRC σ p1 279) = opA A (xjS z j) from op.1.2.2.2.2.2.1, hk262, opA_k]
      rw [f267]
      try dsimp only
      intro w268 τ268 o268 q268
      obtain ⟨r268, rfl, hr268, rfl⟩ := q268 (N, E, A, B, V, z) ⟨_, rfl⟩
      rw [o264.1.2.1.1] at hr268
      try dsimp only [Option.toList, List.cons_append, List.nil_append, s1C, s2C, dlC, kyC, Nat.beq, lkC, rcd, rno, rsw]
      refine ⟨fun h269 => ?_, fun h269 => ?_⟩
      · have g269 := (neI (x := r268) (y := 0) h269 : ¬ (r268 : Int32).toInt = (0 : Int32).toInt)
        have z0_ : (0 : Int32).toInt = 0 := rfl
        refine hB _ _ _ _ _ (fun m270 hm270 => ?_)
        dsimp only [ucgo, ucwp, ucsC, uqC, uoC, ctC, rfd, KX3_judgeStatement, KX3_judgeStatement_0, KX3_judgeStatement_112, KX3_judgeStatement_122, KX3_judgeStatement_133, KX3_judgeStatement_137, KX3_judgeStatement_138, KX3_judgeStatement_152, KX3_judgeStatement_160, KX3_judgeStatement_168, KX3_judgeStatement_176, KX3_judgeStatement_186, KX3_judgeStatement_209, KX3_judgeStatement_217, KX3_judgeStatement_224, KX3_judgeStatement_234, KX3_judgeStatement_253, lkC, s1C, s2C, dlC, kyC, Nat.beq, Nat.ble, rcd, rno, rsw, Nat.reduceAdd, Nat.reduceBEq, Nat.reduceDiv, List.drop, List.take, List.reverse, List.reverseAux, Int.toNat, Option.toList, List.append, List.cons_append, List.nil_append, zg62, zg68, zg121, zg270, zg279]
        try dsimp only [Qz_judgeStatement]
        exact fun τ9 h9 => ⟨rfl, (er_we h9).trans (iff_e ((sk_k (P := (0 ≤ xjS z j → (xth z (xjS z j).toNat).1.1 = 9 ∨ (xth z (xjS z j).toNat).1.1 = 6 ∨ (xth z (xjS z j).toNat).1.1 = 10)) (N := N) (T := T) (ms := ms) (fun q9 => by omega) (fun q9 => by omega) (fun q9 => by omega) (fun q9 => by omega) (fun q9 => by omega) (fun q9 => by omega) (fun _ => Iff.rfl) (fun q1 q2 q3 q4 q5 q6 q7 => by omega)).mp (show (0 ≤ xjS z j → (xth z (xjS z j).toNat).1.1 = 9 ∨ (xth z (xjS z j).toNat).1.1 = 6 ∨ (xth z (xjS z j).toNat).1.1 = 10) by rw [hk262, Int.toNat_natCast]; exact fun q9 => by omega))).symm, (by rw [we_r h9]; exact (s281 (E := E) (A := A) (V := V) FrE.rf op.2 h281 (by omega)).1), (by rw [we_r h9]; exact (s281 (E := E) (A := A) (V := V) (N := N) (B := B) (z := z) (j := j) FrE.rf op.2 h281 (by omega)).2)⟩
      · have g269 := (eqI (x := r268) (y := 0) h269 : (r268 : Int32).toInt = (0 : Int32).toInt)
        have z0_ : (0 : Int32).toInt = 0 := rfl
        refine hB _ _ _ _ _ (fun m271 hm271 => ?_)
        dsimp only [ucgo, ucwp, ucsC, uqC, uoC, ctC, rfd, KX3_judgeStatement, KX3_judgeStatement_0, KX3_judgeStatement_112, KX3_judgeStatement_122, KX3_judgeStatement_133, KX3_judgeStatement_137, KX3_judgeStatement_138, KX3_judgeStatement_152, KX3_judgeStatement_160, KX3_judgeStatement_168, KX3_judgeStatement_176, KX3_judgeStatement_186, KX3_judgeStatement_209, KX3_judgeStatement_217, KX3_judgeStatement_224, KX3_judgeStatement_234, KX3_judgeStatement_253, lkC, s1C, s2C, dlC, kyC, Nat.beq, Nat.ble, rcd, rno, rsw, Nat.reduceAdd, Nat.reduceBEq, Nat.reduceDiv, List.drop, List.take, List.reverse, List.reverseAux, Int.toNat, Option.toList, List.append, List.cons_append, List.nil_append, zg62, zg68, zg121, zg270, zg279]
        intro a272 e272 ob272
        cases e272
        have c274 : (Int32.ofInt 12).toInt = 12 := by decide
        intro a275 e275 ob275
        cases e275
        have f276 : (fRC σ p1 279) = some (A kx262) := by rw [show (fRC σ p1 279) = opA A (xjS z j) from op.1.2.2.2.2.2.1, hk262, opA_k]
        intro a277 e277 ob277
        obtain rfl : A kx262 = a277 := Option.some.inj (f276.symm.trans e277)
        rw [hNm.1.1]
        try dsimp only
        intro w279 τ279 o279 q279
        obtain ⟨rfl, hb279⟩ := q279 (N, E, A, B, V, z) ⟨_, _, rfl, by omega⟩
        have hF279 : FrE [217, 218] σ τ279 := FrE.mo o279.2 rfl
        have hSs_279 := SsC.fr hSs hF279 rfl
        have hNm_279 := NmC.fr hNm hF279 rfl
        have op_279 : SlC A B τ279 z j p1 ∧ p1 < cnC τ279 := by rw [hp]; exact hSs_279.1 j hj
        have o264_279 := hSs_279.2.1 kx262 hl262
        try dsimp only [Option.toList, List.cons_append, List.nil_append, s1C, s2C, dlC, kyC, Nat.beq, lkC, rcd, rno, rsw]
        refine hB _ _ _ _ _ (fun m280 hm280 => ?_)
        dsimp only [ucgo, ucwp, ucsC, uqC, uoC, ctC, rfd, KX3_judgeStatement, KX3_judgeStatement_0, KX3_judgeStatement_112, KX3_judgeStatement_122, KX3_judgeStatement_133, KX3_judgeStatement_137, KX3_judgeStatement_138, KX3_judgeStatement_152, KX3_judgeStatement_160, KX3_judgeStatement_168, KX3_judgeStatement_176, KX3_judgeStatement_186, KX3_judgeStatement_209, KX3_judgeStatement_217, KX3_judgeStatement_224, KX3_judgeStatement_234, KX3_judgeStatement_253, lkC, s1C, s2C, dlC, kyC, Nat.beq, Nat.ble, rcd, rno, rsw, Nat.reduceAdd, Nat.reduceBEq, Nat.reduceDiv, List.drop, List.take, List.reverse, List.reverseAux, Int.toNat, Option.toList, List.append, List.cons_append, List.nil_append, zg62, zg68, zg121, zg270, zg279]
        try dsimp only [Qz_judgeStatement]
        exact fun τ9 h9 => ⟨rfl, (er_we h9).trans ((iff_of_true hb279 (Or.inr (show ¬ (0 ≤ xjS z j → (xth z (xjS z j).toNat).1.1 = 9 ∨ (xth z (xjS z j).toNat).1.1 = 6 ∨ (xth z (xjS z j).toNat).1.1 = 10) by rw [hk262, Int.toNat_natCast]; intro q9; have q8 := q9 (by omega); omega))).trans (or_congr Iff.rfl (not_congr (sk_k (P := (0 ≤ xjS z j → (xth z (xjS z j).toNat).1.1 = 9 ∨ (xth z (xjS z j).toNat).1.1 = 6 ∨ (xth z (xjS z j).toNat).1.1 = 10)) (N := N) (T := T) (ms := ms) (fun q9 => by omega) (fun q9 => by omega) (fun q9 => by omega) (fun q9 => by omega) (fun q9 => by omega) (fun q9 => by omega) (fun _ => Iff.rfl) (fun q1 q2 q3 q4 q5 q6 q7 => by omega))))), (by rw [we_r h9]; exact (s281 (E := E) (A := A) (V := V) hF279 op.2 h281 (by omega)).1), (by rw [we_r h9]; exact (s281 (E := E) (A := A) (V := V) (N := N) (B := B) (z := z) (j := j) hF279 op.2 h281 (by omega)).2)⟩
  have g258 : ¬ ((fIC σ p1 270) : Int32).toInt = 94 := h258
  refine hB _ _ _ _ _ (fun m281 hm281 => ?_)
  dsimp only [ucgo, ucwp, ucsC, uqC, uoC, ctC, rfd, KX3_judgeStatement, KX3_judgeStatement_0, KX3_judgeStatement_112, KX3_judgeStatement_122, KX3_judgeStatement_133, KX3_judgeStatement_137, KX3_judgeStatement_138, KX3_judgeStatement_152, KX3_judgeStatement_160, KX3_judgeStatement_168, KX3_judgeStatement_176, KX3_judgeStatement_186, KX3_judgeStatement_209, KX3_judgeStatement_217, KX3_judgeStatement_224, KX3_judgeStatement_234, KX3_judgeStatement_253, lkC, s1C, s2C, dlC, kyC, Nat.beq, Nat.ble, rcd, rno, rsw, Nat.reduceAdd, Nat.reduceBEq, Nat.reduceDiv, List.drop, List.take, List.reverse, List.reverseAux, Int.toNat, Option.toList, List.append, List.cons_append, List.nil_append, zg62, zg68, zg121, zg270, zg279]
  try dsimp only [Qz_judgeStatement]
  exact fun τ9 h9 => ⟨rfl, (er_we h9).trans (iff_e ((sk_k (P := True) (N := N) (T := T) (ms := ms) (fun q9 => by omega) (fun q9 => by omega) (fun q9 => by omega) (fun q9 => by omega) (fun q9 => by omega) (fun q9 => by omega) (fun q9 => by omega) (fun q1 q2 q3 q4 q5 q6 q7 => trivial)).mp trivial)).symm, (by rw [we_r h9]; exact (s281 (E := E) (A := A) (V := V) FrE.rf op.2 h281 (by omega)).1), (by rw [we_r h9]; exact (s281 (E := E) (A := A) (V := V) (N := N) (B := B) (z := z) (j := j) FrE.rf op.2 h281 (by omega)).2)⟩
theorem wz_judgeStatement : ∀ (L : Nat) (As : List AvC) (σ : CsC) (w : Option AvC) (τ : CsC), EvF L 80 As σ w τ → Uz_judgeStatement As σ w τ := by
  intro L
  cases L with
  | zero => exact fun _ _ _ _ h => h.elim
  | succ L => exact fun As σ w τ h y hy => EvF.us (cs := [85, 52, 62, 81, 83, 86, 75, 18, 118]) (pz_judgeStatement y) rfl (List.forall_mem_cons.2 ⟨wz_judgeLabel L, List.forall_mem_cons.2 ⟨wz_isFaulty L, List.forall_mem_cons.2 ⟨wz_isWanted L, List.forall_mem_cons.2 ⟨wz_judgeSwitch L, List.forall_mem_cons.2 ⟨wz_judgeJump L, List.forall_mem_cons.2 ⟨wz_judgeReturn L, List.forall_mem_cons.2 ⟨wz_fits L, List.forall_mem_cons.2 ⟨wz_acts L, List.forall_mem_cons.2 ⟨wz_tell L, fun _ h => absurd h List.not_mem_nil⟩⟩⟩⟩⟩⟩⟩⟩⟩) h hy
