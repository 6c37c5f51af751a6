/-! the class's judge: methods, calls -/
/-- the object of a method by its number -/
def MoE (E : Nat → Nat) (i : Nat) : Nat := if i = 10 then E 215 else if i = 11 then E 216 else E (1000 + i)
/-- a method's object -/
def MkC (σ : CsC) (m : MtT) (o : Nat) : Prop := (fLC σ o 181).toInt = m.1 ∧ (fIC σ o 182).toInt = m.2.1 ∧ (fIC σ o 185).toInt = (m.2.2.length : Int) ∧ ∃ r, (fRC σ o 183 = some r ∧ r < cnC σ ∧ m.2.2.length ≤ 6) ∧ ∀ i, i < m.2.2.length → (eIC σ r i).toInt = m.2.2.getD i 0
/-- all of them; n: how many are told -/
def MaC (E : Nat → Nat) (σ : CsC) (ms : MfT) (n : Nat) : Prop := (fRC σ (E 1) 211 = some (E 211) ∧ fRC σ (E 1) 215 = some (E 215) ∧ fRC σ (E 1) 216 = some (E 216)) ∧ LiC σ (E 211) n (fun k => E (1000 + k)) ∧ n ≤ 10 ∧ (∀ i m, ms i = some m → (i < n ∨ i = 10 ∨ i = 11) ∧ MkC σ m (MoE E i)) ∧ ∀ i, ms i = none → ¬ (i < n ∨ i = 10 ∨ i = 11)
/-- arguments, one behind the other, from one that may be none -/
def ArC (σ : CsC) : Option Nat → List Nat → Prop
  | o, [] => o = none
  | o, a :: l => o = some a ∧ ArC σ (fRC σ a 75) l
def agO (σ : CsC) (as : List Nat) : List Int := as.map (fun o => (fIC σ o 68).toInt)
theorem ArC.n {σ : CsC} {as : List Nat} (h : ArC σ none as) : as = [] := by
  cases as with
  | nil => rfl
  | cons a l => exact absurd h.1 (by intro q; cases q)
theorem ArC.s {σ : CsC} {b : Nat} {as : List Nat} (h : ArC σ (some b) as) : ∃ l, as = b :: l ∧ ArC σ (fRC σ b 75) l := by
  cases as with
  | nil => exact absurd h (by intro q; cases q)
  | cons a l =>
    have e : b = a := Option.some.inj h.1
    exact ⟨l, by rw [e], by rw [e]; exact h.2⟩
theorem tk_len : ∀ {a b : List Int}, tkT a b = true → a.length = b.length := by
  intro a
  induction a with
  | nil =>
    intro b h
    cases b with
    | nil => rfl
    | cons y b => cases h
  | cons x a ih =>
    intro b h
    cases b with
    | nil => cases h
    | cons y b =>
      have h : (decide (wdT x y) && tkT a b) = true := h
      rw [Bool.and_eq_true] at h
      rw [List.length_cons, List.length_cons, ih h.2]
theorem tk_c {x y : Int} {a b : List Int} : tkT (x :: a) (y :: b) = true ↔ wdT x y ∧ tkT a b = true := by
  show (decide (wdT x y) && tkT a b) = true ↔ _
  rw [Bool.and_eq_true, decide_eq_true_eq]
/-- one step of a loop over both -/
theorem tk_s {a b : List Int} {i : Nat} (ha : i < a.length) (hb : i < b.length) : tkT (a.drop i) (b.drop i) = true ↔ wdT (a.getD i 0) (b.getD i 0) ∧ tkT (a.drop (i + 1)) (b.drop (i + 1)) = true := by
  rw [List.drop_eq_getElem_cons ha, List.drop_eq_getElem_cons hb, tk_c, List.getD_eq_getElem?_getD, List.getD_eq_getElem?_getD, List.getElem?_eq_getElem ha, List.getElem?_eq_getElem hb]
  exact Iff.rfl
theorem tk_e {a b : List Int} {i : Nat} (ha : a.length ≤ i) (hb : b.length ≤ i) : tkT (a.drop i) (b.drop i) = true := by
  rw [List.drop_eq_nil_of_le ha, List.drop_eq_nil_of_le hb]
  rfl
theorem ta_s {ms : MfT} {key : Int} {as : List Int} {i : Nat} {m : MtT} (h : ms i = some m) : taT ms key as i = true ↔ m.1 = key ∧ tkT as m.2.2 = true := by
  unfold taT
  rw [h]
  show (decide (m.1 = key) && tkT as m.2.2) = true ↔ _
  rw [Bool.and_eq_true, decide_eq_true_eq]
theorem ta_n {ms : MfT} {key : Int} {as : List Int} {i : Nat} (h : ms i = none) : ¬ taT ms key as i = true := by
  unfold taT
  rw [h]
  exact Bool.false_ne_true
theorem na_s {ms : MfT} {key : Int} {as ps : List Int} {k : Nat} : naT ms key as ps (k + 1) = true ↔ naT ms key as ps k = true ∧ ∀ n, ms k = some n → taT ms key as k = true → tkT ps n.2.2 = true := by
  rw [naT, Bool.and_eq_true]
  refine and_congr_right (fun _ => ?_)
  cases h : ms k with
  | none => exact ⟨fun _ n q => (by cases q), fun _ => rfl⟩
  | some m =>
    show (!(taT ms key as k) || tkT ps m.2.2) = true ↔ _
    rw [Bool.or_eq_true, Bool.not_eq_true']
    refine ⟨fun q n e t => ?_, fun q => ?_⟩
    · cases e
      rcases q with q | q
      · rw [q] at t; cases t
      · exact q
    · cases ht : taT ms key as k with
      | false => exact Or.inl rfl
      | true => exact Or.inr (q m rfl ht)
theorem na_no {ms : MfT} {key : Int} {as ps : List Int} {k : Nat} (h : ¬ naT ms key as ps k = true) : ∀ j, k ≤ j → ¬ naT ms key as ps j = true := by
  intro j
  induction j with
  | zero => intro hj; rw [show k = 0 by omega] at h; exact h
  | succ j ih =>
    intro hj
    by_cases e : k = j + 1
    · rw [← e]; exact h
    · exact fun q => ih (by omega) (na_s.mp q).1
theorem aO_c {σ : CsC} {b : Nat} {l : List Nat} : agO σ (b :: l) = (fIC σ b 68).toInt :: agO σ l := rfl
theorem aO_l {σ : CsC} {as : List Nat} : (agO σ as).length = as.length := List.length_map _
theorem rem12 {x : Int32} (h1 : 10 ≤ x.toInt) (h2 : x.toInt ≤ 21) : (x - x / Int32.ofInt 12 * Int32.ofInt 12).toInt = x.toInt % 12 := by
  have e : Int32.ofInt x.toInt = x := Int32.ofInt_toInt x
  rcases (show x.toInt = 10 ∨ x.toInt = 11 ∨ x.toInt = 12 ∨ x.toInt = 13 ∨ x.toInt = 14 ∨ x.toInt = 15 ∨ x.toInt = 16 ∨ x.toInt = 17 ∨ x.toInt = 18 ∨ x.toInt = 19 ∨ x.toInt = 20 ∨ x.toInt = 21 by omega) with h | h | h | h | h | h | h | h | h | h | h | h <;> (rw [h] at e; rw [← e]; decide)
theorem dr_c {l : List Int} {i : Nat} (h : i < l.length) : l.drop i = l.getD i 0 :: l.drop (i + 1) := by
  rw [List.drop_eq_getElem_cons h, List.getD_eq_getElem?_getD, List.getElem?_eq_getElem h]
  rfl
theorem dr_0 (l : List Int) : l.drop 0 = l := rfl
theorem MkC.xu {M : List Nat} {σ τ : CsC} {p o : Nat} {m : MtT} (h : MkC σ m o) (x : XuC M σ τ p) (hM : [181, 182, 183, 185].all (fun k => !M.elem k) = true) : MkC τ m o := by
  have q : ∀ k ∈ [181, 182, 183, 185], M.elem k = false := fun k hk => by
    have := List.all_eq_true.mp hM k hk
    cases e : M.elem k with
    | false => rfl
    | true => rw [e] at this; cases this
  obtain ⟨h1, h2, h3, r, ⟨h4, h5, h6⟩, h7⟩ := h
  refine ⟨?_, ?_, ?_, r, ⟨?_, ?_, h6⟩, ?_⟩
  · rw [(x.1 o 181 (Or.inl (q 181 (by decide)))).2.1]; exact h1
  · rw [(x.1 o 182 (Or.inl (q 182 (by decide)))).1]; exact h2
  · rw [(x.1 o 185 (Or.inl (q 185 (by decide)))).1]; exact h3
  · rw [(x.1 o 183 (Or.inl (q 183 (by decide)))).2.2]; exact h4
  · rw [x.2.2]; exact h5
  · rw [x.2.1.1]; exact h7
theorem MaC.xu {E : Nat → Nat} {M : List Nat} {σ τ : CsC} {p : Nat} {ms : MfT} {n : Nat} (h : MaC E σ ms n) (x : XuC M σ τ p) (hM : [1, 2, 181, 182, 183, 185, 211, 215, 216].all (fun k => !M.elem k) = true) : MaC E τ ms n := by
  have q : ∀ k ∈ [1, 2, 181, 182, 183, 185, 211, 215, 216], M.elem k = false := fun k hk => by
    have := List.all_eq_true.mp hM k hk
    cases e : M.elem k with
    | false => rfl
    | true => rw [e] at this; cases this
  obtain ⟨⟨h1, h2, h3⟩, h4, h5, h6, h7⟩ := h
  refine ⟨⟨?_, ?_, ?_⟩, LiC.cg h4 ?_ x.2.1.2.2 ?_ (Nat.le_of_eq x.2.2.symm), h5, fun i m hm => ⟨(h6 i m hm).1, (h6 i m hm).2.xu x ?_⟩, h7⟩
  · rw [(x.1 (E 1) 211 (Or.inl (q 211 (by decide)))).2.2]; exact h1
  · rw [(x.1 (E 1) 215 (Or.inl (q 215 (by decide)))).2.2]; exact h2
  · rw [(x.1 (E 1) 216 (Or.inl (q 216 (by decide)))).2.2]; exact h3
  · exact (x.1 (E 211) 1 (Or.inl (q 1 (by decide)))).2.2
  · exact (x.1 (E 211) 2 (Or.inl (q 2 (by decide)))).1
  · simp only [List.all_cons, List.all_nil, Bool.and_true, Bool.and_eq_true] at hM ⊢
    exact ⟨hM.2.2.1, hM.2.2.2.1, hM.2.2.2.2.1, hM.2.2.2.2.2.1⟩
abbrev Pz_mtakes : ((Int → Int) × (Nat → Nat) × (Nat → Nat) × (Nat → Nat) × (Nat → Nat) × ZS × MtT × List Nat) → CpC := fun y As σ => match y with
  | (N, E, A, B, V, z, m, as) => ∃ (p0 : Nat) (p1 : Int64) (p2 : Int32) (p3 : Option Nat), As = [.inr (.inr (some p0)), .inr (.inl p1), .inl p2, .inr (.inr p3)] ∧ (MkC σ m p0) ∧ (ArC σ p3 as) ∧ (p2.toInt = (as.length : Int))
abbrev Qz_mtakes : ((Int → Int) × (Nat → Nat) × (Nat → Nat) × (Nat → Nat) × (Nat → Nat) × ZS × MtT × List Nat) → CqC := fun y As σ w τ => match y, As with
  | (N, E, A, B, V, z, m, as), [.inr (.inr (some p0)), .inr (.inl p1), .inl p2, .inr (.inr p3)] => ∃ r, w = some (.inl r) ∧ ((r.toInt = 1 ∧ (m.1 = p1.toInt ∧ tkT (agO σ as) m.2.2 = true)) ∨ (r.toInt = 0 ∧ ¬ (m.1 = p1.toInt ∧ tkT (agO σ as) m.2.2 = true))) ∧ σ = τ
  | _, _ => True
abbrev Uz_mtakes : CqC := fun As σ w τ => ∀ y, Pz_mtakes y As σ → Qz_mtakes y As σ w τ
set_option maxHeartbeats 4000000 in
theorem pz_mtakes (y : (Int → Int) × (Nat → Nat) × (Nat → Nat) × (Nat → Nat) × (Nat → Nat) × ZS × MtT × List Nat) : PbC KX5_takes [(224, TrP, EqC 224)] [(224, Uz_sameOrWidens)] (fun As σ => Pz_mtakes y As σ ∧ cnC σ ≤ 1000000 ∧ ∃ w τ, uqC quL 115 As σ w τ) (Qz_mtakes y) := by
  obtain ⟨N, E, A, B, V, z, m, as⟩ := y
  rintro As σ ⟨⟨p0, p1, p2, p3, rfl, hm, ha, hn⟩, hcn, _, _, hQ⟩ K hB hW n_
  obtain ⟨hm1, hm2, hm3, rr, ⟨hmr, hmc, hm6⟩, hmw⟩ := id hm
  have L26 : ∀ (n : Nat) (e9 : Option Nat) (i : Int32) (l : List Nat), (m.1 = p1.toInt) → (0 ≤ i.toInt) → (i.toInt ≤ 6) → ((l.length : Int) + i.toInt = (m.2.2.length : Int)) → (ArC σ e9 l) → (tkT (agO σ as) m.2.2 = true ↔ tkT (agO σ l) (m.2.2.drop i.toInt.toNat) = true) →  K n 26 [(0, .inr (.inr (some p0))), (1, .inr (.inl p1)), (3, .inl p2), (4, .inr (.inr p3)), (5, .inr (.inr e9)), (6, .inl i)] [] σ := by
    intro n
    induction n using Nat.strongRecOn with
    | _ n ih =>
      intro e9 i l hkey h1 h2 h3 h4 h5
      refine hB _ _ _ _ _ (fun m51 hm51 => ?_)
      dsimp only [ucgo, ucwp, ucsC, uqC, uoC, ctC, rfd, KX5_takes, KX5_takes_0, KX5_takes_9, KX5_takes_17, KX5_takes_19, KX5_takes_26, KX5_takes_35, KX5_takes_40, KX5_takes_58, KX5_takes_60, KX5_takes_73, lkC, s1C, s2C, dlC, kyC, Nat.beq, Nat.ble, rcd, rno, rsw, Nat.reduceAdd, Nat.reduceBEq, Nat.reduceDiv, List.drop, List.take, List.reverse, List.reverseAux, Int.toNat, Option.toList, List.append, List.cons_append, List.nil_append, zg68, zg75, zg181, zg183, zg185]
      intro a52 e52 ob52
      cases e52
      have f53 : (fIC σ p0 185).toInt = (m.2.2.length : Int) := hm3
      refine ⟨fun h54 => ?_, fun h54 => ?_⟩
      · have g54 := leI (x := (fIC σ p0 185)) (y := i) h54
        refine hB _ _ _ _ _ (fun m55 hm55 => ?_)
        dsimp only [ucgo, ucwp, ucsC, uqC, uoC, ctC, rfd, KX5_takes, KX5_takes_0, KX5_takes_9, KX5_takes_17, KX5_takes_19, KX5_takes_26, KX5_takes_35, KX5_takes_40, KX5_takes_58, KX5_takes_60, KX5_takes_73, lkC, s1C, s2C, dlC, kyC, Nat.beq, Nat.ble, rcd, rno, rsw, Nat.reduceAdd, Nat.reduceBEq, Nat.reduceDiv, List.drop, List.take, List.reverse, List.reverseAux, Int.toNat, Option.toList, List.append, List.cons_append, List.nil_append, zg68, zg75, zg181, zg183, zg185]
        have c56 : (Int32.ofInt 1).toInt = 1 := by decide
        try dsimp only [Qz_mtakes]
        refine ⟨_, rfl, Or.inl ⟨by omega, hkey, h5.mpr ?_⟩, rfl⟩
        obtain rfl : l = [] := List.eq_nil_of_length_eq_zero (by omega)
        rw [List.length_nil] at h3
        rw [List.drop_eq_nil_of_le (by omega)]
        rfl
      · have g54 := nleI (x := (fIC σ p0 185)) (y := i) h54
        refine hB _ _ _ _ _ (fun m57 hm57 => ?_)
        dsimp only [ucgo, ucwp, ucsC, uqC, uoC, ctC, rfd, KX5_takes, KX5_takes_0, KX5_takes_9, KX5_takes_17, KX5_takes_19, KX5_takes_26, KX5_takes_35, KX5_takes_40, KX5_takes_58, KX5_takes_60, KX5_takes_73, lkC, s1C, s2C, dlC, kyC, Nat.beq, Nat.ble, rcd, rno, rsw, Nat.reduceAdd, Nat.reduceBEq, Nat.reduceDiv, List.drop, List.take, List.reverse, List.reverseAux, Int.toNat, Option.toList, List.append, List.cons_append, List.nil_append, zg68, zg75, zg181, zg183, zg185]
        refine ⟨fun h58 => ?_, fun b58 h58 => ?_⟩
        · rw [h58] at h4
          obtain rfl := h4.n
          refine hB _ _ _ _ _ (fun m59 hm59 => ?_)
          dsimp only [ucgo, ucwp, ucsC, uqC, uoC, ctC, rfd, KX5_takes, KX5_takes_0, KX5_takes_9, KX5_takes_17, KX5_takes_19, KX5_takes_26, KX5_takes_35, KX5_takes_40, KX5_takes_58, KX5_takes_60, KX5_takes_73, lkC, s1C, s2C, dlC, kyC, Nat.beq, Nat.ble, rcd, rno, rsw, Nat.reduceAdd, Nat.reduceBEq, Nat.reduceDiv, List.drop, List.take, List.reverse, List.reverseAux, Int.toNat, Option.toList, List.append, List.cons_append, List.nil_append, zg68, zg75, zg181, zg183, zg185]
          have c60 : (Int32.ofInt 1).toInt = 1 := by decide
          try dsimp only [Qz_mtakes]
          refine ⟨_, rfl, Or.inl ⟨by omega, hkey, h5.mpr ?_⟩, rfl⟩
          rw [List.length_nil] at h3
          rw [List.drop_eq_nil_of_le (by omega)]
          rfl
        · obtain rfl : e9 = some b58 := h58
          obtain ⟨l9, rfl, hl9⟩ := h4.s
          have hlt : i.toInt.toNat < m.2.2.length := by omega
          have hdr := dr_c hlt
          refine hB _ _ _ _ _ (fun m61 hm61 => ?_)
          dsimp only [ucgo, ucwp, ucsC, uqC, uoC, ctC, rfd, KX5_takes, KX5_takes_0, KX5_takes_9, KX5_takes_17, KX5_takes_19, KX5_takes_26, KX5_takes_35, KX5_takes_40, KX5_takes_58, KX5_takes_60, KX5_takes_73, lkC, s1C, s2C, dlC, kyC, Nat.beq, Nat.ble, rcd, rno, rsw, Nat.reduceAdd, Nat.reduceBEq, Nat.reduceDiv, List.drop, List.take, List.reverse, List.reverseAux, Int.toNat, Option.toList, List.append, List.cons_append, List.nil_append, zg68, zg75, zg181, zg183, zg185]
          intro a62 e62 ob62
          cases e62
          intro a63 e63 ob63
          cases e63
          intro a64 e64
          obtain rfl : rr = a64 := Option.some.inj (hmr.symm.trans e64)
          refine ⟨fun t64 v64 => ?_, fun y64 => absurd y64 (by omega), fun y64 => absurd y64 (by omega)⟩
          intro w65 τ65 o65 q65
          obtain ⟨r65, rfl, hr65, rfl⟩ := q65 (N, E, A, B, V, z) ⟨_, _, rfl⟩
          have hbd : ((eIC σ rr i.toNatClampNeg) : Int32).toInt = m.2.2.getD i.toInt.toNat 0 := by rw [nT_toNat]; exact hmw _ hlt
          try dsimp only [Option.toList, List.cons_append, List.nil_append, s1C, s2C, dlC, kyC, Nat.beq, lkC, rcd, rno, rsw]
          refine ⟨fun h66 => ?_, fun h66 => ?_⟩
          · have g66 := (neI (x := r65) (y := 0) h66 : ¬ (r65 : Int32).toInt = (0 : Int32).toInt)
            have z0_ : (0 : Int32).toInt = 0 := rfl
            refine hB _ _ _ _ _ (fun m67 hm67 => ?_)
            dsimp only [ucgo, ucwp, ucsC, uqC, uoC, ctC, rfd, KX5_takes, KX5_takes_0, KX5_takes_9, KX5_takes_17, KX5_takes_19, KX5_takes_26, KX5_takes_35, KX5_takes_40, KX5_takes_58, KX5_takes_60, KX5_takes_73, lkC, s1C, s2C, dlC, kyC, Nat.beq, Nat.ble, rcd, rno, rsw, Nat.reduceAdd, Nat.reduceBEq, Nat.reduceDiv, List.drop, List.take, List.reverse, List.reverseAux, Int.toNat, Option.toList, List.append, List.cons_append, List.nil_append, zg68, zg75, zg181, zg183, zg185]
            intro a68 e68 ob68
            cases e68
            have c69 : (Int32.ofInt 1).toInt = 1 := by decide
            have u70 := tiC i
            have a70 : (i + (Int32.ofInt 1)).toInt = i.toInt + 1 := addC (by omega) (by omega) (by omega)
            refine hW _ 26 [(0, .inr (.inr (some p0))), (1, .inr (.inl p1)), (3, .inl p2), (4, .inr (.inr p3)), (5, .inr (.inr (fRC σ b58 75))), (6, .inl (i + (Int32.ofInt 1)))] _ _ _ (List.forall_mem_cons.2 ⟨List.Mem.tail _ (List.Mem.tail _ (List.Mem.head _)), List.forall_mem_cons.2 ⟨List.Mem.tail _ (List.Mem.tail _ (List.Mem.tail _ (List.Mem.head _))), List.forall_mem_cons.2 ⟨List.Mem.tail _ (List.Mem.tail _ (List.Mem.tail _ (List.Mem.tail _ (List.Mem.head _)))), List.forall_mem_cons.2 ⟨List.Mem.tail _ (List.Mem.tail _ (List.Mem.tail _ (List.Mem.tail _ (List.Mem.tail _ (List.Mem.head _))))), List.forall_mem_cons.2 ⟨List.Mem.tail _ (List.Mem.head _), List.forall_mem_cons.2 ⟨List.Mem.head _, fun _ h => absurd h List.not_mem_nil⟩⟩⟩⟩⟩⟩) (ih _ (by omega) (fRC σ b58 75) (i + (Int32.ofInt 1)) l9 hkey (by omega) (by omega) (by rw [List.length_cons] at h3; omega) hl9 (h5.trans ?_))
            rw [show ((i + (Int32.ofInt 1)) : Int32).toInt.toNat = i.toInt.toNat + 1 by omega, aO_c, hdr, tk_c]
            refine ⟨fun q9 => q9.2, fun q9 => ⟨?_, q9⟩⟩
            rcases hr65 with q8 | q8
            · rw [hbd] at q8; exact q8.2
            · exact absurd q8.1 (by omega)
          · have g66 := (eqI (x := r65) (y := 0) h66 : (r65 : Int32).toInt = (0 : Int32).toInt)
            have z0_ : (0 : Int32).toInt = 0 := rfl
            refine hB _ _ _ _ _ (fun m71 hm71 => ?_)
            dsimp only [ucgo, ucwp, ucsC, uqC, uoC, ctC, rfd, KX5_takes, KX5_takes_0, KX5_takes_9, KX5_takes_17, KX5_takes_19, KX5_takes_26, KX5_takes_35, KX5_takes_40, KX5_takes_58, KX5_takes_60, KX5_takes_73, lkC, s1C, s2C, dlC, kyC, Nat.beq, Nat.ble, rcd, rno, rsw, Nat.reduceAdd, Nat.reduceBEq, Nat.reduceDiv, List.drop, List.take, List.reverse, List.reverseAux, Int.toNat, Option.toList, List.append, List.cons_append, List.nil_append, zg68, zg75, zg181, zg183, zg185]
            have c72 : (Int32.ofInt 0).toInt = 0 := by decide
            try dsimp only [Qz_mtakes]
            refine ⟨_, rfl, Or.inr ⟨by omega, fun q9 => ?_⟩, rfl⟩
            have q8 := h5.mp q9.2
            rw [aO_c, hdr, tk_c] at q8
            rcases hr65 with q7 | q7
            · omega
            · rw [hbd] at q7; exact q7.2 q8.1
  change K n_ 0 [(0, .inr (.inr (some p0))), (1, .inr (.inl p1)), (3, .inl p2), (4, .inr (.inr p3))] [] σ
  refine hB _ _ _ _ _ (fun m73 hm73 => ?_)
  dsimp only [ucgo, ucwp, ucsC, uqC, uoC, ctC, rfd, KX5_takes, KX5_takes_0, KX5_takes_9, KX5_takes_17, KX5_takes_19, KX5_takes_26, KX5_takes_35, KX5_takes_40, KX5_takes_58, KX5_takes_60, KX5_takes_73, lkC, s1C, s2C, dlC, kyC, Nat.beq, Nat.ble, rcd, rno, rsw, Nat.reduceAdd, Nat.reduceBEq, Nat.reduceDiv, List.drop, List.take, List.reverse, List.reverseAux, Int.toNat, Option.toList, List.append, List.cons_append, List.nil_append, zg68, zg75, zg181, zg183, zg185]
  intro a74 e74 ob74
  cases e74
  have lc75 : (lg_cmp (fLC σ p0 181) p1).toInt = 0 → (fLC σ p0 181) = p1 := lcmpC
  have ld75 : (fLC σ p0 181) = p1 → (lg_cmp (fLC σ p0 181) p1).toInt = 0 := fun e => by rw [e]; exact lcmp0
  refine ⟨fun h76 => ?_, fun h76 => ?_⟩
  · have g76 := (neI (x := (lg_cmp (fLC σ p0 181) p1)) (y := 0) h76 : ¬ ((lg_cmp (fLC σ p0 181) p1) : Int32).toInt = (0 : Int32).toInt)
    have z0_ : (0 : Int32).toInt = 0 := rfl
    refine hB _ _ _ _ _ (fun m77 hm77 => ?_)
    dsimp only [ucgo, ucwp, ucsC, uqC, uoC, ctC, rfd, KX5_takes, KX5_takes_0, KX5_takes_9, KX5_takes_17, KX5_takes_19, KX5_takes_26, KX5_takes_35, KX5_takes_40, KX5_takes_58, KX5_takes_60, KX5_takes_73, lkC, s1C, s2C, dlC, kyC, Nat.beq, Nat.ble, rcd, rno, rsw, Nat.reduceAdd, Nat.reduceBEq, Nat.reduceDiv, List.drop, List.take, List.reverse, List.reverseAux, Int.toNat, Option.toList, List.append, List.cons_append, List.nil_append, zg68, zg75, zg181, zg183, zg185]
    have c78 : (Int32.ofInt 0).toInt = 0 := by decide
    try dsimp only [Qz_mtakes]
    refine ⟨_, rfl, Or.inr ⟨by omega, fun q9 => ?_⟩, rfl⟩
    have hl9 := tk_len q9.2
    rw [aO_l] at hl9
    first
      | omega
      | exact absurd (ld75 (Int64.toInt_inj.mp (hm1.trans q9.1))) (by omega)
  · have g76 := (eqI (x := (lg_cmp (fLC σ p0 181) p1)) (y := 0) h76 : ((lg_cmp (fLC σ p0 181) p1) : Int32).toInt = (0 : Int32).toInt)
    have z0_ : (0 : Int32).toInt = 0 := rfl
    refine hB _ _ _ _ _ (fun m79 hm79 => ?_)
    dsimp only [ucgo, ucwp, ucsC, uqC, uoC, ctC, rfd, KX5_takes, KX5_takes_0, KX5_takes_9, KX5_takes_17, KX5_takes_19, KX5_takes_26, KX5_takes_35, KX5_takes_40, KX5_takes_58, KX5_takes_60, KX5_takes_73, lkC, s1C, s2C, dlC, kyC, Nat.beq, Nat.ble, rcd, rno, rsw, Nat.reduceAdd, Nat.reduceBEq, Nat.reduceDiv, List.drop, List.take, List.reverse, List.reverseAux, Int.toNat, Option.toList, List.append, List.cons_append, List.nil_append, zg68, zg75, zg181, zg183, zg185]
    intro a80 e80 ob80
    cases e80
    have f81 : (fIC σ p0 185).toInt = (m.2.2.length : Int) := hm3
    refine ⟨fun h82 => ?_, fun h82 => ?_⟩
    · have g82 := (eqI (x := (fIC σ p0 185)) (y := p2) h82 : ((fIC σ p0 185) : Int32).toInt = (p2 : Int32).toInt)
      refine hB _ _ _ _ _ (fun m83 hm83 => ?_)
      dsimp only [ucgo, ucwp, ucsC, uqC, uoC, ctC, rfd, KX5_takes, KX5_takes_0, KX5_takes_9, KX5_takes_17, KX5_takes_19, KX5_takes_26, KX5_takes_35, KX5_takes_40, KX5_takes_58, KX5_takes_60, KX5_takes_73, lkC, s1C, s2C, dlC, kyC, Nat.beq, Nat.ble, rcd, rno, rsw, Nat.reduceAdd, Nat.reduceBEq, Nat.reduceDiv, List.drop, List.take, List.reverse, List.reverseAux, Int.toNat, Option.toList, List.append, List.cons_append, List.nil_append, zg68, zg75, zg181, zg183, zg185]
      have c84 : (Int32.ofInt 0).toInt = 0 := by decide
      exact hW _ 26 [(0, .inr (.inr (some p0))), (1, .inr (.inl p1)), (3, .inl p2), (4, .inr (.inr p3)), (5, .inr (.inr p3)), (6, .inl (Int32.ofInt 0))] _ _ _ (List.forall_mem_cons.2 ⟨List.Mem.tail _ (List.Mem.tail _ (List.Mem.head _)), List.forall_mem_cons.2 ⟨List.Mem.tail _ (List.Mem.tail _ (List.Mem.tail _ (List.Mem.head _))), List.forall_mem_cons.2 ⟨List.Mem.tail _ (List.Mem.tail _ (List.Mem.tail _ (List.Mem.tail _ (List.Mem.head _)))), List.forall_mem_cons.2 ⟨List.Mem.tail _ (List.Mem.tail _ (List.Mem.tail _ (List.Mem.tail _ (List.Mem.tail _ (List.Mem.head _))))), List.forall_mem_cons.2 ⟨List.Mem.tail _ (List.Mem.head _), List.forall_mem_cons.2 ⟨List.Mem.head _, fun _ h => absurd h List.not_mem_nil⟩⟩⟩⟩⟩⟩) (L26 _ p3 (Int32.ofInt 0) as (hm1.symm.trans (congrArg Int64.toInt (lc75 (by omega)))) (by omega) (by omega) (by omega) ha (by rw [show ((Int32.ofInt 0) : Int32).toInt.toNat = 0 by omega]; exact Iff.rfl))
    · have g82 := (neI (x := (fIC σ p0 185)) (y := p2) h82 : ¬ ((fIC σ p0 185) : Int32).toInt = (p2 : Int32).toInt)
      refine hB _ _ _ _ _ (fun m85 hm85 => ?_)
      dsimp only [ucgo, ucwp, ucsC, uqC, uoC, ctC, rfd, KX5_takes, KX5_takes_0, KX5_takes_9, KX5_takes_17, KX5_takes_19, KX5_takes_26, KX5_takes_35, KX5_takes_40, KX5_takes_58, KX5_takes_60, KX5_takes_73, lkC, s1C, s2C, dlC, kyC, Nat.beq, Nat.ble, rcd, rno, rsw, Nat.reduceAdd, Nat.reduceBEq, Nat.reduceDiv, List.drop, List.take, List.reverse, List.reverseAux, Int.toNat, Option.toList, List.append, List.cons_append, List.nil_append, zg68, zg75, zg181, zg183, zg185]
      have c86 : (Int32.ofInt 0).toInt = 0 := by decide
      try dsimp only [Qz_mtakes]
      refine ⟨_, rfl, Or.inr ⟨by omega, fun q9 => ?_⟩, rfl⟩
      have hl9 := tk_len q9.2
      rw [aO_l] at hl9
      first
        | omega
        | exact absurd (ld75 (Int64.toInt_inj.mp (hm1.trans q9.1))) (by omega)
theorem wz_mtakes : ∀ (L : Nat) (As : List AvC) (σ : CsC) (w : Option AvC) (τ : CsC), EvF L 115 As σ w τ → Uz_mtakes As σ w τ := by
  intro L
  cases L with
  | zero => exact fun _ _ _ _ h => h.elim
  | succ L => exact fun As σ w τ h y hy => EvF.us (cs := [224]) (pz_mtakes y) rfl (List.forall_mem_cons.2 ⟨wz_sameOrWidens L, fun _ h => absurd h List.not_mem_nil⟩) h hy
abbrev Pz_isAsNarrowAs : ((Int → Int) × (Nat → Nat) × (Nat → Nat) × (Nat → Nat) × (Nat → Nat) × ZS × MtT × MtT) → CpC := fun y As σ => match y with
  | (N, E, A, B, V, z, m, k) => ∃ (p0 : Nat) (p1 : Nat), As = [.inr (.inr (some p0)), .inr (.inr (some p1))] ∧ (MkC σ m p0) ∧ (MkC σ k p1) ∧ (m.2.2.length = k.2.2.length)
abbrev Qz_isAsNarrowAs : ((Int → Int) × (Nat → Nat) × (Nat → Nat) × (Nat → Nat) × (Nat → Nat) × ZS × MtT × MtT) → CqC := fun y As σ w τ => match y, As with
  | (N, E, A, B, V, z, m, k), [.inr (.inr (some p0)), .inr (.inr (some p1))] => ∃ r, w = some (.inl r) ∧ ((r.toInt = 1 ∧ (tkT m.2.2 k.2.2 = true)) ∨ (r.toInt = 0 ∧ ¬ (tkT m.2.2 k.2.2 = true))) ∧ σ = τ
  | _, _ => True
abbrev Uz_isAsNarrowAs : CqC := fun As σ w τ => ∀ y, Pz_isAsNarrowAs y As σ → Qz_isAsNarrowAs y As σ w τ
set_option maxHeartbeats 4000000 in
theorem pz_isAsNarrowAs (y : (Int → Int) × (Nat → Nat) × (Nat → Nat) × (Nat → Nat) × (Nat → Nat) × ZS × MtT × MtT) : PbC KX5_isAsNarrowAs [(224, TrP, EqC 224)] [(224, Uz_sameOrWidens)] (fun As σ => Pz_isAsNarrowAs y As σ ∧ cnC σ ≤ 1000000 ∧ ∃ w τ, uqC quL 114 As σ w τ) (Qz_isAsNarrowAs y) := by
  obtain ⟨N, E, A, B, V, z, m, k⟩ := y
  rintro As σ ⟨⟨p0, p1, rfl, hm, hk, hl0⟩, hcn, _, _, hQ⟩ K hB hW n_
  obtain ⟨hm1, hm2, hm3, rr, ⟨hmr, hmc, hm6⟩, hmw⟩ := id hm
  obtain ⟨hk1, hk2, hk3, rk, ⟨hkr, hkc, hk6⟩, hkw⟩ := id hk
  have L2 : ∀ (n : Nat) (i : Int32), (0 ≤ i.toInt) → (i.toInt ≤ (m.2.2.length : Int)) → (m.2.2.length = k.2.2.length) → (tkT m.2.2 k.2.2 = true ↔ tkT (m.2.2.drop i.toInt.toNat) (k.2.2.drop i.toInt.toNat) = true) →  K n 2 [(0, .inr (.inr (some p0))), (1, .inr (.inr (some p1))), (2, .inl i)] [] σ := by
    intro n
    induction n using Nat.strongRecOn with
    | _ n ih =>
      intro i h1 h2 hln h5
      refine hB _ _ _ _ _ (fun m51 hm51 => ?_)
      dsimp only [ucgo, ucwp, ucsC, uqC, uoC, ctC, rfd, KX5_isAsNarrowAs, KX5_isAsNarrowAs_0, KX5_isAsNarrowAs_2, KX5_isAsNarrowAs_10, KX5_isAsNarrowAs_28, KX5_isAsNarrowAs_30, KX5_isAsNarrowAs_36, lkC, s1C, s2C, dlC, kyC, Nat.beq, Nat.ble, rcd, rno, rsw, Nat.reduceAdd, Nat.reduceBEq, Nat.reduceDiv, List.drop, List.take, List.reverse, List.reverseAux, Int.toNat, Option.toList, List.append, List.cons_append, List.nil_append, zg183, zg185]
      intro a52 e52 ob52
      cases e52
      have f53 : (fIC σ p0 185).toInt = (m.2.2.length : Int) := hm3
      refine ⟨fun h54 => ?_, fun h54 => ?_⟩
      · have g54 := leI (x := (fIC σ p0 185)) (y := i) h54
        refine hB _ _ _ _ _ (fun m55 hm55 => ?_)
        dsimp only [ucgo, ucwp, ucsC, uqC, uoC, ctC, rfd, KX5_isAsNarrowAs, KX5_isAsNarrowAs_0, KX5_isAsNarrowAs_2, KX5_isAsNarrowAs_10, KX5_isAsNarrowAs_28, KX5_isAsNarrowAs_30, KX5_isAsNarrowAs_36, lkC, s1C, s2C, dlC, kyC, Nat.beq, Nat.ble, rcd, rno, rsw, Nat.reduceAdd, Nat.reduceBEq, Nat.reduceDiv, List.drop, List.take, List.reverse, List.reverseAux, Int.toNat, Option.toList, List.append, List.cons_append, List.nil_append, zg183, zg185]
        have c56 : (Int32.ofInt 1).toInt = 1 := by decide
        try dsimp only [Qz_isAsNarrowAs]
        refine ⟨_, rfl, Or.inl ⟨by omega, h5.mpr ?_⟩, rfl⟩
        rw [List.drop_eq_nil_of_le (by omega), List.drop_eq_nil_of_le (by omega)]
        try rfl
      · have g54 := nleI (x := (fIC σ p0 185)) (y := i) h54
        refine hB _ _ _ _ _ (fun m57 hm57 => ?_)
        dsimp only [ucgo, ucwp, ucsC, uqC, uoC, ctC, rfd, KX5_isAsNarrowAs, KX5_isAsNarrowAs_0, KX5_isAsNarrowAs_2, KX5_isAsNarrowAs_10, KX5_isAsNarrowAs_28, KX5_isAsNarrowAs_30, KX5_isAsNarrowAs_36, lkC, s1C, s2C, dlC, kyC, Nat.beq, Nat.ble, rcd, rno, rsw, Nat.reduceAdd, Nat.reduceBEq, Nat.reduceDiv, List.drop, List.take, List.reverse, List.reverseAux, Int.toNat, Option.toList, List.append, List.cons_append, List.nil_append, zg183, zg185]
        intro a58 e58 ob58
        cases e58
        intro a59 e59
        obtain rfl : rr = a59 := Option.some.inj (hmr.symm.trans e59)
        refine ⟨fun t59 v59 => ?_, fun y59 => absurd y59 (by omega), fun y59 => absurd y59 (by omega)⟩
        intro a60 e60 ob60
        cases e60
        intro a61 e61
        obtain rfl : rk = a61 := Option.some.inj (hkr.symm.trans e61)
        refine ⟨fun t61 v61 => ?_, fun y61 => absurd y61 (by omega), fun y61 => absurd y61 (by omega)⟩
        intro w62 τ62 o62 q62
        obtain ⟨r62, rfl, hr62, rfl⟩ := q62 (N, E, A, B, V, z) ⟨_, _, rfl⟩
        try dsimp only [Option.toList, List.cons_append, List.nil_append, s1C, s2C, dlC, kyC, Nat.beq, lkC, rcd, rno, rsw]
        refine ⟨fun h63 => ?_, fun h63 => ?_⟩
        · have g63 := (neI (x := r62) (y := 0) h63 : ¬ (r62 : Int32).toInt = (0 : Int32).toInt)
          have z0_ : (0 : Int32).toInt = 0 := rfl
          refine hB _ _ _ _ _ (fun m64 hm64 => ?_)
          dsimp only [ucgo, ucwp, ucsC, uqC, uoC, ctC, rfd, KX5_isAsNarrowAs, KX5_isAsNarrowAs_0, KX5_isAsNarrowAs_2, KX5_isAsNarrowAs_10, KX5_isAsNarrowAs_28, KX5_isAsNarrowAs_30, KX5_isAsNarrowAs_36, lkC, s1C, s2C, dlC, kyC, Nat.beq, Nat.ble, rcd, rno, rsw, Nat.reduceAdd, Nat.reduceBEq, Nat.reduceDiv, List.drop, List.take, List.reverse, List.reverseAux, Int.toNat, Option.toList, List.append, List.cons_append, List.nil_append, zg183, zg185]
          have c65 : (Int32.ofInt 1).toInt = 1 := by decide
          have u66 := tiC i
          have a66 : (i + (Int32.ofInt 1)).toInt = i.toInt + 1 := addC (by omega) (by omega) (by omega)
          refine hW _ 2 [(0, .inr (.inr (some p0))), (1, .inr (.inr (some p1))), (2, .inl (i + (Int32.ofInt 1)))] _ _ _ (List.forall_mem_cons.2 ⟨List.Mem.tail _ (List.Mem.head _), List.forall_mem_cons.2 ⟨List.Mem.tail _ (List.Mem.tail _ (List.Mem.head _)), List.forall_mem_cons.2 ⟨List.Mem.head _, fun _ h => absurd h List.not_mem_nil⟩⟩⟩) (ih _ (by omega) (i + (Int32.ofInt 1)) (by omega) (by omega) hln (h5.trans ?_))
          have hlt : i.toInt.toNat < m.2.2.length := by omega
          have hlk : i.toInt.toNat < k.2.2.length := by omega
          have ea : (eIC σ rr i.toNatClampNeg).toInt = m.2.2.getD i.toInt.toNat 0 := by rw [nT_toNat]; exact hmw _ hlt
          have eb : (eIC σ rk i.toNatClampNeg).toInt = k.2.2.getD i.toInt.toNat 0 := by rw [nT_toNat]; exact hkw _ hlk
          rw [show ((i + (Int32.ofInt 1)) : Int32).toInt.toNat = i.toInt.toNat + 1 by omega, dr_c hlt, dr_c hlk]
          rw [tk_c]
          refine ⟨fun q9 => q9.2, fun q9 => ⟨?_, q9⟩⟩
          rcases hr62 with q7 | q7
          · rw [ea, eb] at q7; exact q7.2
          · omega
        · have g63 := (eqI (x := r62) (y := 0) h63 : (r62 : Int32).toInt = (0 : Int32).toInt)
          have z0_ : (0 : Int32).toInt = 0 := rfl
          refine hB _ _ _ _ _ (fun m67 hm67 => ?_)
          dsimp only [ucgo, ucwp, ucsC, uqC, uoC, ctC, rfd, KX5_isAsNarrowAs, KX5_isAsNarrowAs_0, KX5_isAsNarrowAs_2, KX5_isAsNarrowAs_10, KX5_isAsNarrowAs_28, KX5_isAsNarrowAs_30, KX5_isAsNarrowAs_36, lkC, s1C, s2C, dlC, kyC, Nat.beq, Nat.ble, rcd, rno, rsw, Nat.reduceAdd, Nat.reduceBEq, Nat.reduceDiv, List.drop, List.take, List.reverse, List.reverseAux, Int.toNat, Option.toList, List.append, List.cons_append, List.nil_append, zg183, zg185]
          have c68 : (Int32.ofInt 0).toInt = 0 := by decide
          try dsimp only [Qz_isAsNarrowAs]
          refine ⟨_, rfl, Or.inr ⟨by omega, fun q9 => ?_⟩, rfl⟩
          have q8 := h5.mp q9
          have hlt : i.toInt.toNat < m.2.2.length := by omega
          have hlk : i.toInt.toNat < k.2.2.length := by omega
          have ea : (eIC σ rr i.toNatClampNeg).toInt = m.2.2.getD i.toInt.toNat 0 := by rw [nT_toNat]; exact hmw _ hlt
          have eb : (eIC σ rk i.toNatClampNeg).toInt = k.2.2.getD i.toInt.toNat 0 := by rw [nT_toNat]; exact hkw _ hlk
          rw [dr_c hlt, dr_c hlk] at q8
          rw [tk_c] at q8
          rcases hr62 with q7 | q7
          · omega
          · rw [ea, eb] at q7; exact q7.2 q8.1
  change K n_ 0 [(0, .inr (.inr (some p0))), (1, .inr (.inr (some p1)))] [] σ
  refine hB _ _ _ _ _ (fun m69 hm69 => ?_)
  dsimp only [ucgo, ucwp, ucsC, uqC, uoC, ctC, rfd, KX5_isAsNarrowAs, KX5_isAsNarrowAs_0, KX5_isAsNarrowAs_2, KX5_isAsNarrowAs_10, KX5_isAsNarrowAs_28, KX5_isAsNarrowAs_30, KX5_isAsNarrowAs_36, lkC, s1C, s2C, dlC, kyC, Nat.beq, Nat.ble, rcd, rno, rsw, Nat.reduceAdd, Nat.reduceBEq, Nat.reduceDiv, List.drop, List.take, List.reverse, List.reverseAux, Int.toNat, Option.toList, List.append, List.cons_append, List.nil_append, zg183, zg185]
  have c70 : (Int32.ofInt 0).toInt = 0 := by decide
  exact hW _ 2 [(0, .inr (.inr (some p0))), (1, .inr (.inr (some p1))), (2, .inl (Int32.ofInt 0))] _ _ _ (List.forall_mem_cons.2 ⟨List.Mem.tail _ (List.Mem.head _), List.forall_mem_cons.2 ⟨List.Mem.tail _ (List.Mem.tail _ (List.Mem.head _)), List.forall_mem_cons.2 ⟨List.Mem.head _, fun _ h => absurd h List.not_mem_nil⟩⟩⟩) (L2 _ (Int32.ofInt 0) (by omega) (by omega) (by omega) (by rw [show ((Int32.ofInt 0) : Int32).toInt.toNat = 0 by omega]; exact Iff.rfl))
theorem wz_isAsNarrowAs : ∀ (L : Nat) (As : List AvC) (σ : CsC) (w : Option AvC) (τ : CsC), EvF L 114 As σ w τ → Uz_isAsNarrowAs As σ w τ := by
  intro L
  cases L with
  | zero => exact fun _ _ _ _ h => h.elim
  | succ L => exact fun As σ w τ h y hy => EvF.us (cs := [224]) (pz_isAsNarrowAs y) rfl (List.forall_mem_cons.2 ⟨wz_sameOrWidens L, fun _ h => absurd h List.not_mem_nil⟩) h hy
abbrev Pz_hasSameParams : ((Int → Int) × (Nat → Nat) × (Nat → Nat) × (Nat → Nat) × (Nat → Nat) × ZS × MtT × MtT) → CpC := fun y As σ => match y with
  | (N, E, A, B, V, z, m, k) => ∃ (p0 : Nat) (p1 : Nat), As = [.inr (.inr (some p0)), .inr (.inr (some p1))] ∧ (MkC σ m p0) ∧ (MkC σ k p1)
abbrev Qz_hasSameParams : ((Int → Int) × (Nat → Nat) × (Nat → Nat) × (Nat → Nat) × (Nat → Nat) × ZS × MtT × MtT) → CqC := fun y As σ w τ => match y, As with
  | (N, E, A, B, V, z, m, k), [.inr (.inr (some p0)), .inr (.inr (some p1))] => ∃ r, w = some (.inl r) ∧ ((r.toInt = 1 ∧ (m.2.2 = k.2.2)) ∨ (r.toInt = 0 ∧ ¬ (m.2.2 = k.2.2))) ∧ σ = τ
  | _, _ => True
abbrev Uz_hasSameParams : CqC := fun As σ w τ => ∀ y, Pz_hasSameParams y As σ → Qz_hasSameParams y As σ w τ
set_option maxHeartbeats 4000000 in
theorem pz_hasSameParams (y : (Int → Int) × (Nat → Nat) × (Nat → Nat) × (Nat → Nat) × (Nat → Nat) × ZS × MtT × MtT) : PbC KX5_hasSameParams [] [] (fun As σ => Pz_hasSameParams y As σ ∧ cnC σ ≤ 1000000 ∧ ∃ w τ, uqC quL 113 As σ w τ) (Qz_hasSameParams y) := by
  obtain ⟨N, E, A, B, V, z, m, k⟩ := y
  rintro As σ ⟨⟨p0, p1, rfl, hm, hk⟩, hcn, _, _, hQ⟩ K hB hW n_
  obtain ⟨hm1, hm2, hm3, rr, ⟨hmr, hmc, hm6⟩, hmw⟩ := id hm
  obtain ⟨hk1, hk2, hk3, rk, ⟨hkr, hkc, hk6⟩, hkw⟩ := id hk
  have L15 : ∀ (n : Nat) (i : Int32), (0 ≤ i.toInt) → (i.toInt ≤ (m.2.2.length : Int)) → (m.2.2.length = k.2.2.length) → (m.2.2 = k.2.2 ↔ (m.2.2.drop i.toInt.toNat) = (k.2.2.drop i.toInt.toNat)) →  K n 15 [(0, .inr (.inr (some p0))), (1, .inr (.inr (some p1))), (2, .inl i)] [] σ := by
    intro n
    induction n using Nat.strongRecOn with
    | _ n ih =>
      intro i h1 h2 hln h5
      refine hB _ _ _ _ _ (fun m51 hm51 => ?_)
      dsimp only [ucgo, ucwp, ucsC, uqC, uoC, ctC, rfd, KX5_hasSameParams, KX5_hasSameParams_0, KX5_hasSameParams_11, KX5_hasSameParams_13, KX5_hasSameParams_15, KX5_hasSameParams_23, KX5_hasSameParams_38, KX5_hasSameParams_40, KX5_hasSameParams_46, lkC, s1C, s2C, dlC, kyC, Nat.beq, Nat.ble, rcd, rno, rsw, Nat.reduceAdd, Nat.reduceBEq, Nat.reduceDiv, List.drop, List.take, List.reverse, List.reverseAux, Int.toNat, Option.toList, List.append, List.cons_append, List.nil_append, zg183, zg185]
      intro a52 e52 ob52
      cases e52
      have f53 : (fIC σ p0 185).toInt = (m.2.2.length : Int) := hm3
      refine ⟨fun h54 => ?_, fun h54 => ?_⟩
      · have g54 := leI (x := (fIC σ p0 185)) (y := i) h54
        refine hB _ _ _ _ _ (fun m55 hm55 => ?_)
        dsimp only [ucgo, ucwp, ucsC, uqC, uoC, ctC, rfd, KX5_hasSameParams, KX5_hasSameParams_0, KX5_hasSameParams_11, KX5_hasSameParams_13, KX5_hasSameParams_15, KX5_hasSameParams_23, KX5_hasSameParams_38, KX5_hasSameParams_40, KX5_hasSameParams_46, lkC, s1C, s2C, dlC, kyC, Nat.beq, Nat.ble, rcd, rno, rsw, Nat.reduceAdd, Nat.reduceBEq, Nat.reduceDiv, List.drop, List.take, List.reverse, List.reverseAux, Int.toNat, Option.toList, List.append, List.cons_append, List.nil_append, zg183, zg185]
        have c56 : (Int32.ofInt 1).toInt = 1 := by decide
        try dsimp only [Qz_hasSameParams]
        refine ⟨_, rfl, Or.inl ⟨by omega, h5.mpr ?_⟩, rfl⟩
        rw [List.drop_eq_nil_of_le (by omega), List.drop_eq_nil_of_le (by omega)]
        try rfl
      · have g54 := nleI (x := (fIC σ p0 185)) (y := i) h54
        refine hB _ _ _ _ _ (fun m57 hm57 => ?_)
        dsimp only [ucgo, ucwp, ucsC, uqC, uoC, ctC, rfd, KX5_hasSameParams, KX5_hasSameParams_0, KX5_hasSameParams_11, KX5_hasSameParams_13, KX5_hasSameParams_15, KX5_hasSameParams_23, KX5_hasSameParams_38, KX5_hasSameParams_40, KX5_hasSameParams_46, lkC, s1C, s2C, dlC, kyC, Nat.beq, Nat.ble, rcd, rno, rsw, Nat.reduceAdd, Nat.reduceBEq, Nat.reduceDiv, List.drop, List.take, List.reverse, List.reverseAux, Int.toNat, Option.toList, List.append, List.cons_append, List.nil_append, zg183, zg185]
        intro a58 e58 ob58
        cases e58
        intro a59 e59
        obtain rfl : rr = a59 := Option.some.inj (hmr.symm.trans e59)
        refine ⟨fun t59 v59 => ?_, fun y59 => absurd y59 (by omega), fun y59 => absurd y59 (by omega)⟩
        intro a60 e60 ob60
        cases e60
        intro a61 e61
        obtain rfl : rk = a61 := Option.some.inj (hkr.symm.trans e61)
        refine ⟨fun t61 v61 => ?_, fun y61 => absurd y61 (by omega), fun y61 => absurd y61 (by omega)⟩
        refine ⟨fun h62 => ?_, fun h62 => ?_⟩
        · have g62 := (eqI (x := (eIC σ rr i.toNatClampNeg)) (y := (eIC σ rk i.toNatClampNeg)) h62 : ((eIC σ rr i.toNatClampNeg) : Int32).toInt = ((eIC σ rk i.toNatClampNeg) : Int32).toInt)
          refine hB _ _ _ _ _ (fun m63 hm63 => ?_)
          dsimp only [ucgo, ucwp, ucsC, uqC, uoC, ctC, rfd, KX5_hasSameParams, KX5_hasSameParams_0, KX5_hasSameParams_11, KX5_hasSameParams_13, KX5_hasSameParams_15, KX5_hasSameParams_23, KX5_hasSameParams_38, KX5_hasSameParams_40, KX5_hasSameParams_46, lkC, s1C, s2C, dlC, kyC, Nat.beq, Nat.ble, rcd, rno, rsw, Nat.reduceAdd, Nat.reduceBEq, Nat.reduceDiv, List.drop, List.take, List.reverse, List.reverseAux, Int.toNat, Option.toList, List.append, List.cons_append, List.nil_append, zg183, zg185]
          have c64 : (Int32.ofInt 1).toInt = 1 := by decide
          have u65 := tiC i
          have a65 : (i + (Int32.ofInt 1)).toInt = i.toInt + 1 := addC (by omega) (by omega) (by omega)
          refine hW _ 15 [(0, .inr (.inr (some p0))), (1, .inr (.inr (some p1))), (2, .inl (i + (Int32.ofInt 1)))] _ _ _ (List.forall_mem_cons.2 ⟨List.Mem.tail _ (List.Mem.head _), List.forall_mem_cons.2 ⟨List.Mem.tail _ (List.Mem.tail _ (List.Mem.head _)), List.forall_mem_cons.2 ⟨List.Mem.head _, fun _ h => absurd h List.not_mem_nil⟩⟩⟩) (ih _ (by omega) (i + (Int32.ofInt 1)) (by omega) (by omega) hln (h5.trans ?_))
          have hlt : i.toInt.toNat < m.2.2.length := by omega
          have hlk : i.toInt.toNat < k.2.2.length := by omega
          have ea : (eIC σ rr i.toNatClampNeg).toInt = m.2.2.getD i.toInt.toNat 0 := by rw [nT_toNat]; exact hmw _ hlt
          have eb : (eIC σ rk i.toNatClampNeg).toInt = k.2.2.getD i.toInt.toNat 0 := by rw [nT_toNat]; exact hkw _ hlk
          rw [show ((i + (Int32.ofInt 1)) : Int32).toInt.toNat = i.toInt.toNat + 1 by omega, dr_c hlt, dr_c hlk]
          rw [List.cons.injEq]
          exact ⟨fun q9 => q9.2, fun q9 => ⟨by omega, q9⟩⟩
        · have g62 := (neI (x := (eIC σ rr i.toNatClampNeg)) (y := (eIC σ rk i.toNatClampNeg)) h62 : ¬ ((eIC σ rr i.toNatClampNeg) : Int32).toInt = ((eIC σ rk i.toNatClampNeg) : Int32).toInt)
          refine hB _ _ _ _ _ (fun m66 hm66 => ?_)
          dsimp only [ucgo, ucwp, ucsC, uqC, uoC, ctC, rfd, KX5_hasSameParams, KX5_hasSameParams_0, KX5_hasSameParams_11, KX5_hasSameParams_13, KX5_hasSameParams_15, KX5_hasSameParams_23, KX5_hasSameParams_38, KX5_hasSameParams_40, KX5_hasSameParams_46, lkC, s1C, s2C, dlC, kyC, Nat.beq, Nat.ble, rcd, rno, rsw, Nat.reduceAdd, Nat.reduceBEq, Nat.reduceDiv, List.drop, List.take, List.reverse, List.reverseAux, Int.toNat, Option.toList, List.append, List.cons_append, List.nil_append, zg183, zg185]
          have c67 : (Int32.ofInt 0).toInt = 0 := by decide
          try dsimp only [Qz_hasSameParams]
          refine ⟨_, rfl, Or.inr ⟨by omega, fun q9 => ?_⟩, rfl⟩
          have q8 := h5.mp q9
          have hlt : i.toInt.toNat < m.2.2.length := by omega
          have hlk : i.toInt.toNat < k.2.2.length := by omega
          have ea : (eIC σ rr i.toNatClampNeg).toInt = m.2.2.getD i.toInt.toNat 0 := by rw [nT_toNat]; exact hmw _ hlt
          have eb : (eIC σ rk i.toNatClampNeg).toInt = k.2.2.getD i.toInt.toNat 0 := by rw [nT_toNat]; exact hkw _ hlk
          rw [dr_c hlt, dr_c hlk] at q8
          rw [List.cons.injEq] at q8
          omega
  change K n_ 0 [(0, .inr (.inr (some p0))), (1, .inr (.inr (some p1)))] [] σ
  refine hB _ _ _ _ _ (fun m68 hm68 => ?_)
  dsimp only [ucgo, ucwp, ucsC, uqC, uoC, ctC, rfd, KX5_hasSameParams, KX5_hasSameParams_0, KX5_hasSameParams_11, KX5_hasSameParams_13, KX5_hasSameParams_15, KX5_hasSameParams_23, KX5_hasSameParams_38, KX5_hasSameParams_40, KX5_hasSameParams_46, lkC, s1C, s2C, dlC, kyC, Nat.beq, Nat.ble, rcd, rno, rsw, Nat.reduceAdd, Nat.reduceBEq, Nat.reduceDiv, List.drop, List.take, List.reverse, List.reverseAux, Int.toNat, Option.toList, List.append, List.cons_append, List.nil_append, zg183, zg185]
  intro a69 e69 ob69
  cases e69
  have f70 : (fIC σ p0 185).toInt = (m.2.2.length : Int) := hm3
  intro a71 e71 ob71
  cases e71
  have f72 : (fIC σ p1 185).toInt = (k.2.2.length : Int) := hk3
  refine ⟨fun h73 => ?_, fun h73 => ?_⟩
  · have g73 := (eqI (x := (fIC σ p0 185)) (y := (fIC σ p1 185)) h73 : ((fIC σ p0 185) : Int32).toInt = ((fIC σ p1 185) : Int32).toInt)
    refine hB _ _ _ _ _ (fun m74 hm74 => ?_)
    dsimp only [ucgo, ucwp, ucsC, uqC, uoC, ctC, rfd, KX5_hasSameParams, KX5_hasSameParams_0, KX5_hasSameParams_11, KX5_hasSameParams_13, KX5_hasSameParams_15, KX5_hasSameParams_23, KX5_hasSameParams_38, KX5_hasSameParams_40, KX5_hasSameParams_46, lkC, s1C, s2C, dlC, kyC, Nat.beq, Nat.ble, rcd, rno, rsw, Nat.reduceAdd, Nat.reduceBEq, Nat.reduceDiv, List.drop, List.take, List.reverse, List.reverseAux, Int.toNat, Option.toList, List.append, List.cons_append, List.nil_append, zg183, zg185]
    have c75 : (Int32.ofInt 0).toInt = 0 := by decide
    exact hW _ 15 [(0, .inr (.inr (some p0))), (1, .inr (.inr (some p1))), (2, .inl (Int32.ofInt 0))] _ _ _ (List.forall_mem_cons.2 ⟨List.Mem.tail _ (List.Mem.head _), List.forall_mem_cons.2 ⟨List.Mem.tail _ (List.Mem.tail _ (List.Mem.head _)), List.forall_mem_cons.2 ⟨List.Mem.head _, fun _ h => absurd h List.not_mem_nil⟩⟩⟩) (L15 _ (Int32.ofInt 0) (by omega) (by omega) (by omega) (by rw [show ((Int32.ofInt 0) : Int32).toInt.toNat = 0 by omega]; exact Iff.rfl))
  · have g73 := (neI (x := (fIC σ p0 185)) (y := (fIC σ p1 185)) h73 : ¬ ((fIC σ p0 185) : Int32).toInt = ((fIC σ p1 185) : Int32).toInt)
    refine hB _ _ _ _ _ (fun m76 hm76 => ?_)
    dsimp only [ucgo, ucwp, ucsC, uqC, uoC, ctC, rfd, KX5_hasSameParams, KX5_hasSameParams_0, KX5_hasSameParams_11, KX5_hasSameParams_13, KX5_hasSameParams_15, KX5_hasSameParams_23, KX5_hasSameParams_38, KX5_hasSameParams_40, KX5_hasSameParams_46, lkC, s1C, s2C, dlC, kyC, Nat.beq, Nat.ble, rcd, rno, rsw, Nat.reduceAdd, Nat.reduceBEq, Nat.reduceDiv, List.drop, List.take, List.reverse, List.reverseAux, Int.toNat, Option.toList, List.append, List.cons_append, List.nil_append, zg183, zg185]
    have c77 : (Int32.ofInt 0).toInt = 0 := by decide
    try dsimp only [Qz_hasSameParams]
    exact ⟨_, rfl, Or.inr ⟨by omega, fun q9 => by have := congrArg List.length q9; omega⟩, rfl⟩
theorem wz_hasSameParams : ∀ (L : Nat) (As : List AvC) (σ : CsC) (w : Option AvC) (τ : CsC), EvF L 113 As σ w τ → Uz_hasSameParams As σ w τ := by
  intro L
  cases L with
  | zero => exact fun _ _ _ _ h => h.elim
  | succ L => exact fun As σ w τ h y hy => EvF.us (cs := []) (pz_hasSameParams y) rfl (fun _ h => absurd h List.not_mem_nil) h hy
abbrev Pz_methodOf : ((Int → Int) × (Nat → Nat) × (Nat → Nat) × (Nat → Nat) × (Nat → Nat) × ZS × MfT × Nat) → CpC := fun y As σ => match y with
  | (N, E, A, B, V, z, ms, nm) => ∃ (p1 : Int32), As = [.inr (.inr (some (E 1))), .inl p1] ∧ (MaC E σ ms nm)
abbrev Qz_methodOf : ((Int → Int) × (Nat → Nat) × (Nat → Nat) × (Nat → Nat) × (Nat → Nat) × ZS × MfT × Nat) → CqC := fun y As σ w τ => match y, As with
  | (N, E, A, B, V, z, ms, nm), [_, .inl p1] => σ = τ ∧ ((∃ m, 0 ≤ p1.toInt ∧ ms p1.toInt.toNat = some m ∧ w = some (.inr (.inr (some (MoE E p1.toInt.toNat))))) ∨ ((0 ≤ p1.toInt → ms p1.toInt.toNat = none) ∧ w = some (.inr (.inr none))))
  | _, _ => True
abbrev Uz_methodOf : CqC := fun As σ w τ => ∀ y, Pz_methodOf y As σ → Qz_methodOf y As σ w τ
set_option maxHeartbeats 4000000 in
theorem pz_methodOf (y : (Int → Int) × (Nat → Nat) × (Nat → Nat) × (Nat → Nat) × (Nat → Nat) × ZS × MfT × Nat) : PbC KX6_methodOf [(234, TrP, EqC 234), (235, TrP, EqC 235)] [] (fun As σ => Pz_methodOf y As σ ∧ cnC σ ≤ 1000000 ∧ ∃ w τ, uqC quL 119 As σ w τ) (Qz_methodOf y) := by
  obtain ⟨N, E, A, B, V, z, ms, nm⟩ := y
  rintro As σ ⟨⟨p1, rfl, hM⟩, hcn, _, _, hQ⟩ K hB hW n_
  have hnm : nm ≤ 10 := hM.2.2.1
  change K n_ 0 [(0, .inr (.inr (some (E 1)))), (1, .inl p1)] [] σ
  refine hB _ _ _ _ _ (fun m51 hm51 => ?_)
  dsimp only [ucgo, ucwp, ucsC, uqC, uoC, ctC, rfd, KX6_methodOf, KX6_methodOf_0, KX6_methodOf_6, KX6_methodOf_11, KX6_methodOf_17, KX6_methodOf_22, KX6_methodOf_26, KX6_methodOf_37, KX6_methodOf_51, KX6_methodOf_52, lkC, s1C, s2C, dlC, kyC, Nat.beq, Nat.ble, rcd, rno, rsw, Nat.reduceAdd, Nat.reduceBEq, Nat.reduceDiv, List.drop, List.take, List.reverse, List.reverseAux, Int.toNat, Option.toList, List.append, List.cons_append, List.nil_append, zg211, zg215, zg216]
  have c52 : (Int32.ofInt 10).toInt = 10 := by decide
  refine ⟨fun h53 => ?_, fun h53 => ?_⟩
  · have g53 := (neI (x := p1) (y := (Int32.ofInt 10)) h53 : ¬ (p1 : Int32).toInt = ((Int32.ofInt 10) : Int32).toInt)
    refine hB _ _ _ _ _ (fun m54 hm54 => ?_)
    dsimp only [ucgo, ucwp, ucsC, uqC, uoC, ctC, rfd, KX6_methodOf, KX6_methodOf_0, KX6_methodOf_6, KX6_methodOf_11, KX6_methodOf_17, KX6_methodOf_22, KX6_methodOf_26, KX6_methodOf_37, KX6_methodOf_51, KX6_methodOf_52, lkC, s1C, s2C, dlC, kyC, Nat.beq, Nat.ble, rcd, rno, rsw, Nat.reduceAdd, Nat.reduceBEq, Nat.reduceDiv, List.drop, List.take, List.reverse, List.reverseAux, Int.toNat, Option.toList, List.append, List.cons_append, List.nil_append, zg211, zg215, zg216]
    have c55 : (Int32.ofInt 11).toInt = 11 := by decide
    refine ⟨fun h56 => ?_, fun h56 => ?_⟩
    · have g56 := (neI (x := p1) (y := (Int32.ofInt 11)) h56 : ¬ (p1 : Int32).toInt = ((Int32.ofInt 11) : Int32).toInt)
      refine hB _ _ _ _ _ (fun m57 hm57 => ?_)
      dsimp only [ucgo, ucwp, ucsC, uqC, uoC, ctC, rfd, KX6_methodOf, KX6_methodOf_0, KX6_methodOf_6, KX6_methodOf_11, KX6_methodOf_17, KX6_methodOf_22, KX6_methodOf_26, KX6_methodOf_37, KX6_methodOf_51, KX6_methodOf_52, lkC, s1C, s2C, dlC, kyC, Nat.beq, Nat.ble, rcd, rno, rsw, Nat.reduceAdd, Nat.reduceBEq, Nat.reduceDiv, List.drop, List.take, List.reverse, List.reverseAux, Int.toNat, Option.toList, List.append, List.cons_append, List.nil_append, zg211, zg215, zg216]
      refine ⟨fun h58 => ?_, fun h58 => ?_⟩
      · have g58 := ltI (x := p1) (y := 0) h58
        have z0_ : (0 : Int32).toInt = 0 := rfl
        refine hB _ _ _ _ _ (fun m59 hm59 => ?_)
        dsimp only [ucgo, ucwp, ucsC, uqC, uoC, ctC, rfd, KX6_methodOf, KX6_methodOf_0, KX6_methodOf_6, KX6_methodOf_11, KX6_methodOf_17, KX6_methodOf_22, KX6_methodOf_26, KX6_methodOf_37, KX6_methodOf_51, KX6_methodOf_52, lkC, s1C, s2C, dlC, kyC, Nat.beq, Nat.ble, rcd, rno, rsw, Nat.reduceAdd, Nat.reduceBEq, Nat.reduceDiv, List.drop, List.take, List.reverse, List.reverseAux, Int.toNat, Option.toList, List.append, List.cons_append, List.nil_append, zg211, zg215, zg216]
        refine hB _ _ _ _ _ (fun m60 hm60 => ?_)
        dsimp only [ucgo, ucwp, ucsC, uqC, uoC, ctC, rfd, KX6_methodOf, KX6_methodOf_0, KX6_methodOf_6, KX6_methodOf_11, KX6_methodOf_17, KX6_methodOf_22, KX6_methodOf_26, KX6_methodOf_37, KX6_methodOf_51, KX6_methodOf_52, lkC, s1C, s2C, dlC, kyC, Nat.beq, Nat.ble, rcd, rno, rsw, Nat.reduceAdd, Nat.reduceBEq, Nat.reduceDiv, List.drop, List.take, List.reverse, List.reverseAux, Int.toNat, Option.toList, List.append, List.cons_append, List.nil_append, zg211, zg215, zg216]
        try dsimp only [Qz_methodOf]
        refine ⟨rfl, Or.inr ⟨fun q9 => ?_, rfl⟩⟩
        cases hm9 : ms p1.toInt.toNat with
        | none => rfl
        | some m => exact absurd (hM.2.2.2.1 _ _ hm9).1 (by omega)
      · have g58 := nltI (x := p1) (y := 0) h58
        have z0_ : (0 : Int32).toInt = 0 := rfl
        refine hB _ _ _ _ _ (fun m61 hm61 => ?_)
        dsimp only [ucgo, ucwp, ucsC, uqC, uoC, ctC, rfd, KX6_methodOf, KX6_methodOf_0, KX6_methodOf_6, KX6_methodOf_11, KX6_methodOf_17, KX6_methodOf_22, KX6_methodOf_26, KX6_methodOf_37, KX6_methodOf_51, KX6_methodOf_52, lkC, s1C, s2C, dlC, kyC, Nat.beq, Nat.ble, rcd, rno, rsw, Nat.reduceAdd, Nat.reduceBEq, Nat.reduceDiv, List.drop, List.take, List.reverse, List.reverseAux, Int.toNat, Option.toList, List.append, List.cons_append, List.nil_append, zg211, zg215, zg216]
        intro a62 e62 ob62
        cases e62
        rw [hM.1.1]
        try dsimp only
        intro w63 τ63 o63 q63
        obtain ⟨r63, rfl, rfl, hr63a, hr63b, hr63, -⟩ := (show Q_Jx4a65c_size_8abf5 [.inr (.inr (some (E 211)))] σ w63 τ63 from o63.1.1)
        have hs63 : r63.toInt = (nm : Int) := by rw [← hr63]; exact hM.2.1.1
        try dsimp only [Option.toList, List.cons_append, List.nil_append, s1C, s2C, dlC, kyC, Nat.beq, lkC, rcd, rno, rsw]
        refine ⟨fun h64 => ?_, fun h64 => ?_⟩
        · have g64 := leI (x := r63) (y := p1) h64
          refine hB _ _ _ _ _ (fun m65 hm65 => ?_)
          dsimp only [ucgo, ucwp, ucsC, uqC, uoC, ctC, rfd, KX6_methodOf, KX6_methodOf_0, KX6_methodOf_6, KX6_methodOf_11, KX6_methodOf_17, KX6_methodOf_22, KX6_methodOf_26, KX6_methodOf_37, KX6_methodOf_51, KX6_methodOf_52, lkC, s1C, s2C, dlC, kyC, Nat.beq, Nat.ble, rcd, rno, rsw, Nat.reduceAdd, Nat.reduceBEq, Nat.reduceDiv, List.drop, List.take, List.reverse, List.reverseAux, Int.toNat, Option.toList, List.append, List.cons_append, List.nil_append, zg211, zg215, zg216]
          refine hB _ _ _ _ _ (fun m66 hm66 => ?_)
          dsimp only [ucgo, ucwp, ucsC, uqC, uoC, ctC, rfd, KX6_methodOf, KX6_methodOf_0, KX6_methodOf_6, KX6_methodOf_11, KX6_methodOf_17, KX6_methodOf_22, KX6_methodOf_26, KX6_methodOf_37, KX6_methodOf_51, KX6_methodOf_52, lkC, s1C, s2C, dlC, kyC, Nat.beq, Nat.ble, rcd, rno, rsw, Nat.reduceAdd, Nat.reduceBEq, Nat.reduceDiv, List.drop, List.take, List.reverse, List.reverseAux, Int.toNat, Option.toList, List.append, List.cons_append, List.nil_append, zg211, zg215, zg216]
          try dsimp only [Qz_methodOf]
          refine ⟨rfl, Or.inr ⟨fun q9 => ?_, rfl⟩⟩
          cases hm9 : ms p1.toInt.toNat with
          | none => rfl
          | some m => exact absurd (hM.2.2.2.1 _ _ hm9).1 (by omega)
        · have g64 := nleI (x := r63) (y := p1) h64
          refine hB _ _ _ _ _ (fun m67 hm67 => ?_)
          dsimp only [ucgo, ucwp, ucsC, uqC, uoC, ctC, rfd, KX6_methodOf, KX6_methodOf_0, KX6_methodOf_6, KX6_methodOf_11, KX6_methodOf_17, KX6_methodOf_22, KX6_methodOf_26, KX6_methodOf_37, KX6_methodOf_51, KX6_methodOf_52, lkC, s1C, s2C, dlC, kyC, Nat.beq, Nat.ble, rcd, rno, rsw, Nat.reduceAdd, Nat.reduceBEq, Nat.reduceDiv, List.drop, List.take, List.reverse, List.reverseAux, Int.toNat, Option.toList, List.append, List.cons_append, List.nil_append, zg211, zg215, zg216]
          intro a68 e68 ob68
          cases e68
          rw [hM.1.1]
          try dsimp only
          intro w69 τ69 o69 q69
          have hg69 : Q_Jx4a65c_get_915e3 [.inr (.inr (some (E 211))), .inl p1] σ w69 τ69 ∧ U_get [.inr (.inr (some (E 211))), .inl p1] σ w69 τ69 := o69.1.1
          obtain ⟨b69, rfl, rfl, -⟩ := hg69.1
          have he69 := hg69.2 b69 rfl
          have hv69 := hM.2.1.2 p1.toInt.toNat (by omega)
          obtain ⟨bo, hbo⟩ : ∃ o, E (1000 + p1.toInt.toNat) = o := ⟨_, rfl⟩
          dsimp only at hv69
          rw [hbo] at hv69
          obtain rfl : bo = b69 := Option.some.inj (hv69.1.symm.trans (by rw [← nT_toNat]; exact he69))
          try dsimp only [Option.toList, List.cons_append, List.nil_append, s1C, s2C, dlC, kyC, Nat.beq, lkC, rcd, rno, rsw]
          intro oc70
          refine hB _ _ _ _ _ (fun m71 hm71 => ?_)
          dsimp only [ucgo, ucwp, ucsC, uqC, uoC, ctC, rfd, KX6_methodOf, KX6_methodOf_0, KX6_methodOf_6, KX6_methodOf_11, KX6_methodOf_17, KX6_methodOf_22, KX6_methodOf_26, KX6_methodOf_37, KX6_methodOf_51, KX6_methodOf_52, lkC, s1C, s2C, dlC, kyC, Nat.beq, Nat.ble, rcd, rno, rsw, Nat.reduceAdd, Nat.reduceBEq, Nat.reduceDiv, List.drop, List.take, List.reverse, List.reverseAux, Int.toNat, Option.toList, List.append, List.cons_append, List.nil_append, zg211, zg215, zg216]
          try dsimp only [Qz_methodOf]
          cases hm9 : ms p1.toInt.toNat with
          | none => exact absurd (Or.inl (by omega)) (hM.2.2.2.2 _ hm9)
          | some m => exact ⟨rfl, Or.inl ⟨m, by omega, rfl, by unfold MoE; rw [if_neg (by omega), if_neg (by omega), hbo]⟩⟩
    · have g56 := (eqI (x := p1) (y := (Int32.ofInt 11)) h56 : (p1 : Int32).toInt = ((Int32.ofInt 11) : Int32).toInt)
      refine hB _ _ _ _ _ (fun m72 hm72 => ?_)
      dsimp only [ucgo, ucwp, ucsC, uqC, uoC, ctC, rfd, KX6_methodOf, KX6_methodOf_0, KX6_methodOf_6, KX6_methodOf_11, KX6_methodOf_17, KX6_methodOf_22, KX6_methodOf_26, KX6_methodOf_37, KX6_methodOf_51, KX6_methodOf_52, lkC, s1C, s2C, dlC, kyC, Nat.beq, Nat.ble, rcd, rno, rsw, Nat.reduceAdd, Nat.reduceBEq, Nat.reduceDiv, List.drop, List.take, List.reverse, List.reverseAux, Int.toNat, Option.toList, List.append, List.cons_append, List.nil_append, zg211, zg215, zg216]
      intro a73 e73 ob73
      cases e73
      try dsimp only [Qz_methodOf]
      rw [hM.1.2.2]
      cases hm9 : ms p1.toInt.toNat with
      | none => exact absurd (Or.inr (Or.inr (by omega))) (hM.2.2.2.2 _ hm9)
      | some m => exact ⟨rfl, Or.inl ⟨m, by omega, rfl, by unfold MoE; rw [if_neg (by omega), if_pos (by omega)]⟩⟩
  · have g53 := (eqI (x := p1) (y := (Int32.ofInt 10)) h53 : (p1 : Int32).toInt = ((Int32.ofInt 10) : Int32).toInt)
    refine hB _ _ _ _ _ (fun m74 hm74 => ?_)
    dsimp only [ucgo, ucwp, ucsC, uqC, uoC, ctC, rfd, KX6_methodOf, KX6_methodOf_0, KX6_methodOf_6, KX6_methodOf_11, KX6_methodOf_17, KX6_methodOf_22, KX6_methodOf_26, KX6_methodOf_37, KX6_methodOf_51, KX6_methodOf_52, lkC, s1C, s2C, dlC, kyC, Nat.beq, Nat.ble, rcd, rno, rsw, Nat.reduceAdd, Nat.reduceBEq, Nat.reduceDiv, List.drop, List.take, List.reverse, List.reverseAux, Int.toNat, Option.toList, List.append, List.cons_append, List.nil_append, zg211, zg215, zg216]
    intro a75 e75 ob75
    cases e75
    try dsimp only [Qz_methodOf]
    rw [hM.1.2.1]
    cases hm9 : ms p1.toInt.toNat with
    | none => exact absurd (Or.inr (Or.inl (by omega))) (hM.2.2.2.2 _ hm9)
    | some m => exact ⟨rfl, Or.inl ⟨m, by omega, rfl, by unfold MoE; rw [if_pos (by omega)]⟩⟩
theorem wz_methodOf : ∀ (L : Nat) (As : List AvC) (σ : CsC) (w : Option AvC) (τ : CsC), EvF L 119 As σ w τ → Uz_methodOf As σ w τ := by
  intro L
  cases L with
  | zero => exact fun _ _ _ _ h => h.elim
  | succ L => exact fun As σ w τ h y hy => EvF.us (cs := [234, 235]) (pz_methodOf y) rfl (List.forall_mem_cons.2 ⟨fun _ _ _ _ _ => trivial, List.forall_mem_cons.2 ⟨fun _ _ _ _ _ => trivial, fun _ h => absurd h List.not_mem_nil⟩⟩) h hy
abbrev Pz_isNarrowest : ((Int → Int) × (Nat → Nat) × (Nat → Nat) × (Nat → Nat) × (Nat → Nat) × ZS × MfT × Nat × List Nat × MtT) → CpC := fun y As σ => match y with
  | (N, E, A, B, V, z, ms, nm, as, m) => ∃ (p1 : Nat) (p2 : Int64) (p3 : Int32) (p4 : Option Nat), As = [.inr (.inr (some (E 3))), .inr (.inr (some p1)), .inr (.inl p2), .inl p3, .inr (.inr p4)] ∧ (PjC E σ) ∧ (MaC E σ ms nm) ∧ (MkC σ m p1) ∧ (ArC σ p4 as) ∧ (p3.toInt = (as.length : Int)) ∧ (tkT (agO σ as) m.2.2 = true)
abbrev Qz_isNarrowest : ((Int → Int) × (Nat → Nat) × (Nat → Nat) × (Nat → Nat) × (Nat → Nat) × ZS × MfT × Nat × List Nat × MtT) → CqC := fun y As σ w τ => match y, As with
  | (N, E, A, B, V, z, ms, nm, as, m), [_, .inr (.inr (some p1)), .inr (.inl p2), .inl p3, .inr (.inr p4)] => ∃ r, w = some (.inl r) ∧ ((r.toInt = 1 ∧ (naT ms p2.toInt (agO σ as) m.2.2 12 = true)) ∨ (r.toInt = 0 ∧ ¬ (naT ms p2.toInt (agO σ as) m.2.2 12 = true))) ∧ σ = τ
  | _, _ => True
abbrev Uz_isNarrowest : CqC := fun As σ w τ => ∀ y, Pz_isNarrowest y As σ → Qz_isNarrowest y As σ w τ
set_option maxHeartbeats 4000000 in
theorem pz_isNarrowest (y : (Int → Int) × (Nat → Nat) × (Nat → Nat) × (Nat → Nat) × (Nat → Nat) × ZS × MfT × Nat × List Nat × MtT) : PbC KX3_isNarrowest [(119, TrP, EqC 119), (115, TrP, EqC 115), (114, TrP, EqC 114)] [(119, Uz_methodOf), (115, Uz_mtakes), (114, Uz_isAsNarrowAs)] (fun As σ => Pz_isNarrowest y As σ ∧ cnC σ ≤ 1000000 ∧ ∃ w τ, uqC quL 78 As σ w τ) (Qz_isNarrowest y) := by
  obtain ⟨N, E, A, B, V, z, ms, nm, as, m⟩ := y
  rintro As σ ⟨⟨p1, p2, p3, p4, rfl, hP, hM, hm, ha, hn, hmt⟩, hcn, _, _, hQ⟩ K hB hW n_
  have L3 : ∀ (n : Nat) (i : Int32), (0 ≤ i.toInt) → (i.toInt ≤ 12) → (naT ms p2.toInt (agO σ as) m.2.2 i.toInt.toNat = true) →  K n 3 [(0, .inr (.inr (some (E 3)))), (1, .inr (.inr (some p1))), (2, .inr (.inl p2)), (4, .inl p3), (5, .inr (.inr p4)), (6, .inl i)] [] σ := by
    intro n
    induction n using Nat.strongRecOn with
    | _ n ih =>
      intro i h1 h2 h5
      refine hB _ _ _ _ _ (fun m51 hm51 => ?_)
      dsimp only [ucgo, ucwp, ucsC, uqC, uoC, ctC, rfd, KX3_isNarrowest, KX3_isNarrowest_0, KX3_isNarrowest_3, KX3_isNarrowest_10, KX3_isNarrowest_26, KX3_isNarrowest_39, KX3_isNarrowest_48, KX3_isNarrowest_50, KX3_isNarrowest_56, lkC, s1C, s2C, dlC, kyC, Nat.beq, Nat.ble, rcd, rno, rsw, Nat.reduceAdd, Nat.reduceBEq, Nat.reduceDiv, List.drop, List.take, List.reverse, List.reverseAux, Int.toNat, Option.toList, List.append, List.cons_append, List.nil_append, zg121]
      have c52 : (Int32.ofInt 11).toInt = 11 := by decide
      refine ⟨fun h53 => ?_, fun h53 => ?_⟩
      · have g53 := ltI (x := (Int32.ofInt 11)) (y := i) h53
        refine hB _ _ _ _ _ (fun m54 hm54 => ?_)
        dsimp only [ucgo, ucwp, ucsC, uqC, uoC, ctC, rfd, KX3_isNarrowest, KX3_isNarrowest_0, KX3_isNarrowest_3, KX3_isNarrowest_10, KX3_isNarrowest_26, KX3_isNarrowest_39, KX3_isNarrowest_48, KX3_isNarrowest_50, KX3_isNarrowest_56, lkC, s1C, s2C, dlC, kyC, Nat.beq, Nat.ble, rcd, rno, rsw, Nat.reduceAdd, Nat.reduceBEq, Nat.reduceDiv, List.drop, List.take, List.reverse, List.reverseAux, Int.toNat, Option.toList, List.append, List.cons_append, List.nil_append, zg121]
        have c55 : (Int32.ofInt 1).toInt = 1 := by decide
        try dsimp only [Qz_isNarrowest]
        refine ⟨_, rfl, Or.inl ⟨by omega, ?_⟩, rfl⟩
        rw [show i.toInt.toNat = 12 by omega] at h5
        exact h5
      · have g53 := nltI (x := (Int32.ofInt 11)) (y := i) h53
        refine hB _ _ _ _ _ (fun m56 hm56 => ?_)
        dsimp only [ucgo, ucwp, ucsC, uqC, uoC, ctC, rfd, KX3_isNarrowest, KX3_isNarrowest_0, KX3_isNarrowest_3, KX3_isNarrowest_10, KX3_isNarrowest_26, KX3_isNarrowest_39, KX3_isNarrowest_48, KX3_isNarrowest_50, KX3_isNarrowest_56, lkC, s1C, s2C, dlC, kyC, Nat.beq, Nat.ble, rcd, rno, rsw, Nat.reduceAdd, Nat.reduceBEq, Nat.reduceDiv, List.drop, List.take, List.reverse, List.reverseAux, Int.toNat, Option.toList, List.append, List.cons_append, List.nil_append, zg121]
        intro a57 e57 ob57
        cases e57
        rw [hP.1]
        try dsimp only
        intro w58 τ58 o58 q58
        obtain ⟨rfl, qq58⟩ := q58 (N, E, A, B, V, z, ms, nm) ⟨_, rfl, hM⟩
        rcases qq58 with ⟨m9, hi58, hm58_, rfl⟩ | ⟨hm58_, rfl⟩
        · obtain ⟨mo, hmo⟩ : ∃ o, MoE E (i : Int32).toInt.toNat = o := ⟨_, rfl⟩
          have hmk : MkC σ m9 mo := by rw [← hmo]; exact (hM.2.2.2.1 _ _ hm58_).2
          rw [hmo]
          have hi9 : ms (i.toInt.toNat) = some m9 := by rw [← show (i : Int32).toInt.toNat = i.toInt.toNat by omega]; exact hm58_
          try dsimp only [Option.toList, List.cons_append, List.nil_append, s1C, s2C, dlC, kyC, Nat.beq, lkC, rcd, rno, rsw]
          refine ⟨fun h59 => ?_, fun b59 h59 => ?_⟩
          · cases h59
          · cases h59
            refine hB _ _ _ _ _ (fun m60 hm60 => ?_)
            dsimp only [ucgo, ucwp, ucsC, uqC, uoC, ctC, rfd, KX3_isNarrowest, KX3_isNarrowest_0, KX3_isNarrowest_3, KX3_isNarrowest_10, KX3_isNarrowest_26, KX3_isNarrowest_39, KX3_isNarrowest_48, KX3_isNarrowest_50, KX3_isNarrowest_56, lkC, s1C, s2C, dlC, kyC, Nat.beq, Nat.ble, rcd, rno, rsw, Nat.reduceAdd, Nat.reduceBEq, Nat.reduceDiv, List.drop, List.take, List.reverse, List.reverseAux, Int.toNat, Option.toList, List.append, List.cons_append, List.nil_append, zg121]
            intro w61 τ61 o61 q61
            obtain ⟨r61, rfl, hr61, rfl⟩ := q61 (N, E, A, B, V, z, m9, as) ⟨_, _, _, _, rfl, hmk, ha, by omega⟩
            try dsimp only [Option.toList, List.cons_append, List.nil_append, s1C, s2C, dlC, kyC, Nat.beq, lkC, rcd, rno, rsw]
            refine ⟨fun h62 => ?_, fun h62 => ?_⟩
            · have g62 := (eqI (x := r61) (y := 0) h62 : (r61 : Int32).toInt = (0 : Int32).toInt)
              have z0_ : (0 : Int32).toInt = 0 := rfl
              refine hB _ _ _ _ _ (fun m63 hm63 => ?_)
              dsimp only [ucgo, ucwp, ucsC, uqC, uoC, ctC, rfd, KX3_isNarrowest, KX3_isNarrowest_0, KX3_isNarrowest_3, KX3_isNarrowest_10, KX3_isNarrowest_26, KX3_isNarrowest_39, KX3_isNarrowest_48, KX3_isNarrowest_50, KX3_isNarrowest_56, lkC, s1C, s2C, dlC, kyC, Nat.beq, Nat.ble, rcd, rno, rsw, Nat.reduceAdd, Nat.reduceBEq, Nat.reduceDiv, List.drop, List.take, List.reverse, List.reverseAux, Int.toNat, Option.toList, List.append, List.cons_append, List.nil_append, zg121]
              have c64 : (Int32.ofInt 1).toInt = 1 := by decide
              have u65 := tiC i
              have a65 : (i + (Int32.ofInt 1)).toInt = i.toInt + 1 := addC (by omega) (by omega) (by omega)
              refine hW _ 3 [(0, .inr (.inr (some (E 3)))), (1, .inr (.inr (some p1))), (2, .inr (.inl p2)), (4, .inl p3), (5, .inr (.inr p4)), (6, .inl (i + (Int32.ofInt 1)))] _ _ _ (List.forall_mem_cons.2 ⟨List.Mem.tail _ (List.Mem.tail _ (List.Mem.head _)), List.forall_mem_cons.2 ⟨List.Mem.tail _ (List.Mem.tail _ (List.Mem.tail _ (List.Mem.head _))), List.forall_mem_cons.2 ⟨List.Mem.tail _ (List.Mem.tail _ (List.Mem.tail _ (List.Mem.tail _ (List.Mem.head _)))), List.forall_mem_cons.2 ⟨List.Mem.tail _ (List.Mem.tail _ (List.Mem.tail _ (List.Mem.tail _ (List.Mem.tail _ (List.Mem.head _))))), List.forall_mem_cons.2 ⟨List.Mem.tail _ (List.Mem.tail _ (List.Mem.tail _ (List.Mem.tail _ (List.Mem.tail _ (List.Mem.tail _ (List.Mem.head _)))))), List.forall_mem_cons.2 ⟨List.Mem.head _, fun _ h => absurd h List.not_mem_nil⟩⟩⟩⟩⟩⟩) (ih _ (by omega) (i + (Int32.ofInt 1)) (by omega) (by omega) ?_)
              rw [show ((i + (Int32.ofInt 1)) : Int32).toInt.toNat = i.toInt.toNat + 1 by omega, na_s]
              refine ⟨h5, fun n9 q9 t9 => ?_⟩
              rcases hr61 with q8 | q8
              · omega
              · exact absurd ((ta_s hi9).mp t9) q8.2
            · have g62 := (neI (x := r61) (y := 0) h62 : ¬ (r61 : Int32).toInt = (0 : Int32).toInt)
              have z0_ : (0 : Int32).toInt = 0 := rfl
              refine hB _ _ _ _ _ (fun m66 hm66 => ?_)
              dsimp only [ucgo, ucwp, ucsC, uqC, uoC, ctC, rfd, KX3_isNarrowest, KX3_isNarrowest_0, KX3_isNarrowest_3, KX3_isNarrowest_10, KX3_isNarrowest_26, KX3_isNarrowest_39, KX3_isNarrowest_48, KX3_isNarrowest_50, KX3_isNarrowest_56, lkC, s1C, s2C, dlC, kyC, Nat.beq, Nat.ble, rcd, rno, rsw, Nat.reduceAdd, Nat.reduceBEq, Nat.reduceDiv, List.drop, List.take, List.reverse, List.reverseAux, Int.toNat, Option.toList, List.append, List.cons_append, List.nil_append, zg121]
              intro w67 τ67 o67 q67
              have htk : m9.1 = p2.toInt ∧ tkT (agO σ as) m9.2.2 = true := by
                rcases hr61 with q8 | q8
                · exact q8.2
                · omega
              obtain ⟨r67, rfl, hr67, rfl⟩ := q67 (N, E, A, B, V, z, m, m9) ⟨_, _, rfl, hm, hmk, (tk_len hmt).symm.trans (tk_len htk.2)⟩
              try dsimp only [Option.toList, List.cons_append, List.nil_append, s1C, s2C, dlC, kyC, Nat.beq, lkC, rcd, rno, rsw]
              refine ⟨fun h68 => ?_, fun h68 => ?_⟩
              · have g68 := (neI (x := r67) (y := 0) h68 : ¬ (r67 : Int32).toInt = (0 : Int32).toInt)
                have z0_ : (0 : Int32).toInt = 0 := rfl
                refine hB _ _ _ _ _ (fun m69 hm69 => ?_)
                dsimp only [ucgo, ucwp, ucsC, uqC, uoC, ctC, rfd, KX3_isNarrowest, KX3_isNarrowest_0, KX3_isNarrowest_3, KX3_isNarrowest_10, KX3_isNarrowest_26, KX3_isNarrowest_39, KX3_isNarrowest_48, KX3_isNarrowest_50, KX3_isNarrowest_56, lkC, s1C, s2C, dlC, kyC, Nat.beq, Nat.ble, rcd, rno, rsw, Nat.reduceAdd, Nat.reduceBEq, Nat.reduceDiv, List.drop, List.take, List.reverse, List.reverseAux, Int.toNat, Option.toList, List.append, List.cons_append, List.nil_append, zg121]
                have c70 : (Int32.ofInt 1).toInt = 1 := by decide
                have u71 := tiC i
                have a71 : (i + (Int32.ofInt 1)).toInt = i.toInt + 1 := addC (by omega) (by omega) (by omega)
                refine hW _ 3 [(0, .inr (.inr (some (E 3)))), (1, .inr (.inr (some p1))), (2, .inr (.inl p2)), (4, .inl p3), (5, .inr (.inr p4)), (6, .inl (i + (Int32.ofInt 1)))] _ _ _ (List.forall_mem_cons.2 ⟨List.Mem.tail _ (List.Mem.tail _ (List.Mem.head _)), List.forall_mem_cons.2 ⟨List.Mem.tail _ (List.Mem.tail _ (List.Mem.tail _ (List.Mem.head _))), List.forall_mem_cons.2 ⟨List.Mem.tail _ (List.Mem.tail _ (List.Mem.tail _ (List.Mem.tail _ (List.Mem.head _)))), List.forall_mem_cons.2 ⟨List.Mem.tail _ (List.Mem.tail _ (List.Mem.tail _ (List.Mem.tail _ (List.Mem.tail _ (List.Mem.head _))))), List.forall_mem_cons.2 ⟨List.Mem.tail _ (List.Mem.tail _ (List.Mem.tail _ (List.Mem.tail _ (List.Mem.tail _ (List.Mem.tail _ (List.Mem.head _)))))), List.forall_mem_cons.2 ⟨List.Mem.head _, fun _ h => absurd h List.not_mem_nil⟩⟩⟩⟩⟩⟩) (ih _ (by omega) (i + (Int32.ofInt 1)) (by omega) (by omega) ?_)
                rw [show ((i + (Int32.ofInt 1)) : Int32).toInt.toNat = i.toInt.toNat + 1 by omega, na_s]
                refine ⟨h5, fun n9 q9 t9 => ?_⟩
                rw [hi9] at q9
                cases q9
                rcases hr67 with q8 | q8
                · exact q8.2
                · omega
              · have g68 := (eqI (x := r67) (y := 0) h68 : (r67 : Int32).toInt = (0 : Int32).toInt)
                have z0_ : (0 : Int32).toInt = 0 := rfl
                refine hB _ _ _ _ _ (fun m72 hm72 => ?_)
                dsimp only [ucgo, ucwp, ucsC, uqC, uoC, ctC, rfd, KX3_isNarrowest, KX3_isNarrowest_0, KX3_isNarrowest_3, KX3_isNarrowest_10, KX3_isNarrowest_26, KX3_isNarrowest_39, KX3_isNarrowest_48, KX3_isNarrowest_50, KX3_isNarrowest_56, lkC, s1C, s2C, dlC, kyC, Nat.beq, Nat.ble, rcd, rno, rsw, Nat.reduceAdd, Nat.reduceBEq, Nat.reduceDiv, List.drop, List.take, List.reverse, List.reverseAux, Int.toNat, Option.toList, List.append, List.cons_append, List.nil_append, zg121]
                have c73 : (Int32.ofInt 0).toInt = 0 := by decide
                try dsimp only [Qz_isNarrowest]
                refine ⟨_, rfl, Or.inr ⟨by omega, na_no (k := i.toInt.toNat + 1) (fun q9 => ?_) 12 (by omega)⟩, rfl⟩
                have q8 := (na_s.mp q9).2 m9 hi9 ((ta_s hi9).mpr htk)
                rcases hr67 with q7 | q7
                · omega
                · exact q7.2 q8
        · have hi9 : ms (i.toInt.toNat) = none := by rw [← show (i : Int32).toInt.toNat = i.toInt.toNat by omega]; exact hm58_ (by omega)
          try dsimp only [Option.toList, List.cons_append, List.nil_append, s1C, s2C, dlC, kyC, Nat.beq, lkC, rcd, rno, rsw]
          refine ⟨fun h74 => ?_, fun b74 h74 => ?_⟩
          · skip
            refine hB _ _ _ _ _ (fun m75 hm75 => ?_)
            dsimp only [ucgo, ucwp, ucsC, uqC, uoC, ctC, rfd, KX3_isNarrowest, KX3_isNarrowest_0, KX3_isNarrowest_3, KX3_isNarrowest_10, KX3_isNarrowest_26, KX3_isNarrowest_39, KX3_isNarrowest_48, KX3_isNarrowest_50, KX3_isNarrowest_56, lkC, s1C, s2C, dlC, kyC, Nat.beq, Nat.ble, rcd, rno, rsw, Nat.reduceAdd, Nat.reduceBEq, Nat.reduceDiv, List.drop, List.take, List.reverse, List.reverseAux, Int.toNat, Option.toList, List.append, List.cons_append, List.nil_append, zg121]
            have c76 : (Int32.ofInt 1).toInt = 1 := by decide
            have u77 := tiC i
            have a77 : (i + (Int32.ofInt 1)).toInt = i.toInt + 1 := addC (by omega) (by omega) (by omega)
            refine hW _ 3 [(0, .inr (.inr (some (E 3)))), (1, .inr (.inr (some p1))), (2, .inr (.inl p2)), (4, .inl p3), (5, .inr (.inr p4)), (6, .inl (i + (Int32.ofInt 1)))] _ _ _ (List.forall_mem_cons.2 ⟨List.Mem.tail _ (List.Mem.tail _ (List.Mem.head _)), List.forall_mem_cons.2 ⟨List.Mem.tail _ (List.Mem.tail _ (List.Mem.tail _ (List.Mem.head _))), List.forall_mem_cons.2 ⟨List.Mem.tail _ (List.Mem.tail _ (List.Mem.tail _ (List.Mem.tail _ (List.Mem.head _)))), List.forall_mem_cons.2 ⟨List.Mem.tail _ (List.Mem.tail _ (List.Mem.tail _ (List.Mem.tail _ (List.Mem.tail _ (List.Mem.head _))))), List.forall_mem_cons.2 ⟨List.Mem.tail _ (List.Mem.tail _ (List.Mem.tail _ (List.Mem.tail _ (List.Mem.tail _ (List.Mem.tail _ (List.Mem.head _)))))), List.forall_mem_cons.2 ⟨List.Mem.head _, fun _ h => absurd h List.not_mem_nil⟩⟩⟩⟩⟩⟩) (ih _ (by omega) (i + (Int32.ofInt 1)) (by omega) (by omega) ?_)
            rw [show ((i + (Int32.ofInt 1)) : Int32).toInt.toNat = i.toInt.toNat + 1 by omega, na_s]
            refine ⟨h5, fun n9 q9 t9 => ?_⟩
            rw [hi9] at q9
            cases q9
          · cases h74
  change K n_ 0 [(0, .inr (.inr (some (E 3)))), (1, .inr (.inr (some p1))), (2, .inr (.inl p2)), (4, .inl p3), (5, .inr (.inr p4))] [] σ
  refine hB _ _ _ _ _ (fun m78 hm78 => ?_)
  dsimp only [ucgo, ucwp, ucsC, uqC, uoC, ctC, rfd, KX3_isNarrowest, KX3_isNarrowest_0, KX3_isNarrowest_3, KX3_isNarrowest_10, KX3_isNarrowest_26, KX3_isNarrowest_39, KX3_isNarrowest_48, KX3_isNarrowest_50, KX3_isNarrowest_56, lkC, s1C, s2C, dlC, kyC, Nat.beq, Nat.ble, rcd, rno, rsw, Nat.reduceAdd, Nat.reduceBEq, Nat.reduceDiv, List.drop, List.take, List.reverse, List.reverseAux, Int.toNat, Option.toList, List.append, List.cons_append, List.nil_append, zg121]
  have c79 : (Int32.ofInt 0).toInt = 0 := by decide
  exact hW _ 3 [(0, .inr (.inr (some (E 3)))), (1, .inr (.inr (some p1))), (2, .inr (.inl p2)), (4, .inl p3), (5, .inr (.inr p4)), (6, .inl (Int32.ofInt 0))] _ _ _ (List.forall_mem_cons.2 ⟨List.Mem.tail _ (List.Mem.head _), List.forall_mem_cons.2 ⟨List.Mem.tail _ (List.Mem.tail _ (List.Mem.head _)), List.forall_mem_cons.2 ⟨List.Mem.tail _ (List.Mem.tail _ (List.Mem.tail _ (List.Mem.head _))), List.forall_mem_cons.2 ⟨List.Mem.tail _ (List.Mem.tail _ (List.Mem.tail _ (List.Mem.tail _ (List.Mem.head _)))), List.forall_mem_cons.2 ⟨List.Mem.tail _ (List.Mem.tail _ (List.Mem.tail _ (List.Mem.tail _ (List.Mem.tail _ (List.Mem.head _))))), List.forall_mem_cons.2 ⟨List.Mem.head _, fun _ h => absurd h List.not_mem_nil⟩⟩⟩⟩⟩⟩) (L3 _ (Int32.ofInt 0) (by omega) (by omega) (by rw [show ((Int32.ofInt 0) : Int32).toInt.toNat = 0 by omega]; rfl))
theorem wz_isNarrowest : ∀ (L : Nat) (As : List AvC) (σ : CsC) (w : Option AvC) (τ : CsC), EvF L 78 As σ w τ → Uz_isNarrowest As σ w τ := by
  intro L
  cases L with
  | zero => exact fun _ _ _ _ h => h.elim
  | succ L => exact fun As σ w τ h y hy => EvF.us (cs := [119, 115, 114]) (pz_isNarrowest y) rfl (List.forall_mem_cons.2 ⟨wz_methodOf L, List.forall_mem_cons.2 ⟨wz_mtakes L, List.forall_mem_cons.2 ⟨wz_isAsNarrowAs L, fun _ h => absurd h List.not_mem_nil⟩⟩⟩) h hy
