/-! locals and stack -/
def ctgC (v : AvC) : Nat := match v with
  | .inr (.inl _) => 2
  | _ => 1
theorem ctC_cat {ad : Nat → Nat} {v : AvC} : (cvC ad v).category = ctgC v := by
  rcases v with x | x | x
  · rfl
  · rfl
  · cases x <;> rfl
theorem lkC_mem {ls : ClC} {i : Nat} {v : AvC} (h : lkC ls i = some v) : (i, v) ∈ ls := by
  induction ls with
  | nil => cases h
  | cons q r ih =>
    unfold lkC at h
    cases hb : Nat.beq q.1 i with
    | true =>
      rw [hb] at h
      have e1 : q.1 = i := Nat.eq_of_beq_eq_true hb
      have e2 : q.2 = v := Option.some.inj h
      subst e1; subst e2
      exact List.mem_cons_self
    | false =>
      rw [hb] at h
      exact List.mem_cons_of_mem _ (ih h)
def clmC (ad : Nat → Nat) (ls : ClC) : List (Nat × Value) := ls.map (fun q => (q.1, cvC ad q.2))
theorem clmC_at {ad : Nat → Nat} {ls : ClC} {a : Array Slot} {nL i : Nat} {v : AvC} (hl : lv_has a nL (clmC ad ls)) (hk : lkC ls i = some v) : a[i]? = some (.val (cvC ad v)) :=
  hl.2.2 (i, cvC ad v) (List.mem_map.mpr ⟨(i, v), lkC_mem hk, rfl⟩)
theorem dlC_eq1 {i : Nat} (ls : ClC) : dlC i i ls = ls.filter (fun q => !(q.1 == i) && !(q.1 + 1 == i && ctgC q.2 == 2)) := by
  induction ls with
  | nil => rfl
  | cons q r ih =>
    have hk : kyC i i q = (!(q.1 == i) && !(q.1 + 1 == i && ctgC q.2 == 2)) := by
      obtain ⟨a, v⟩ := q
      unfold kyC
      dsimp only
      by_cases h1 : a = i
      · subst h1; simp [nb_eq]
      · rw [nb_ne h1]
        by_cases h2 : a + 1 = i
        · subst h2
          rw [nb_eq]
          rcases v with x | x | x <;> simp [ctgC]
        · rw [nb_ne h2]
          simp [h1, h2]
    unfold dlC
    rw [List.filter_cons, ← hk, ih]
    cases kyC i i q <;> rfl
theorem dlC_eq2 {i : Nat} (ls : ClC) : dlC i (i + 1) ls = ls.filter (fun q => !(q.1 == i) && (!(q.1 == i + 1) && !(q.1 + 1 == i && ctgC q.2 == 2))) := by
  induction ls with
  | nil => rfl
  | cons q r ih =>
    have hk : kyC i (i + 1) q = (!(q.1 == i) && (!(q.1 == i + 1) && !(q.1 + 1 == i && ctgC q.2 == 2))) := by
      obtain ⟨a, v⟩ := q
      unfold kyC
      dsimp only
      by_cases h1 : a = i
      · subst h1; simp [nb_eq]
      · rw [nb_ne h1]
        by_cases h3 : a = i + 1
        · subst h3; simp [nb_eq]
        · rw [nb_ne h3]
          by_cases h2 : a + 1 = i
          · subst h2
            rw [nb_eq]
            rcases v with x | x | x <;> simp [ctgC] <;> omega
          · rw [nb_ne h2]
            simp [h1, h2, h3]
    unfold dlC
    rw [List.filter_cons, ← hk, ih]
    cases kyC i (i + 1) q <;> rfl
theorem clmC_s1 {ad : Nat → Nat} {ls : ClC} {i : Nat} {v : AvC} : (i, cvC ad v) :: (clmC ad ls).filter (fun q => !(q.1 == i) && !(q.1 + 1 == i && q.2.category == 2)) = clmC ad (s1C ls i v) := by
  unfold clmC s1C
  rw [List.map_cons, List.filter_map, dlC_eq1]
  congr 2
  apply List.filter_congr
  intro q _
  simp [Function.comp, ctC_cat]
theorem clmC_s2 {ad : Nat → Nat} {ls : ClC} {i : Nat} {v : AvC} : (i, cvC ad v) :: (clmC ad ls).filter (fun q => !(q.1 == i) && (!(q.1 == i + 1) && !(q.1 + 1 == i && q.2.category == 2))) = clmC ad (s2C ls i v) := by
  unfold clmC s2C
  rw [List.map_cons, List.filter_map, dlC_eq2]
  congr 2
  apply List.filter_congr
  intro q _
  simp [Function.comp, ctC_cat]
theorem csC_cat {ad : Nat → Nat} {st : List AvC} : ((st.map (cvC ad)).map fun v => v.category).sum = csC st := by
  induction st with
  | nil => rfl
  | cons v r ih =>
    rw [List.map_cons, List.map_cons, List.sum_cons, ih, ctC_cat]
    rcases v with x | x | x <;> simp [ctgC, csC, Nat.add_comm]
/-- the places of a call's arguments -/
def agC (i : Nat) : List AvC → ClC
  | [] => []
  | v :: r => (i, v) :: agC (if ctgC v = 2 then i + 2 else i + 1) r
theorem agC_eq {ad : Nat → Nat} (vs : List AvC) : ∀ i, clmC ad (agC i vs) = lv_args i (vs.map (cvC ad)) := by
  induction vs with
  | nil => intro i; rfl
  | cons v r ih =>
    intro i
    show (i, cvC ad v) :: clmC ad (agC (if ctgC v = 2 then i + 2 else i + 1) r) = (i, cvC ad v) :: lv_args (if (cvC ad v).category = 2 then i + 2 else i + 1) (r.map (cvC ad))
    rw [ih, ctC_cat]
def lgC (vs : List AvC) : Nat := match vs with
  | [] => 0
  | v :: r => ctgC v + lgC r
theorem lgC_len {ad : Nat → Nat} (vs : List AvC) : (lg_sl (vs.map (cvC ad))).length = lgC vs := by
  induction vs with
  | nil => rfl
  | cons v r ih =>
    unfold lg_sl at ih ⊢
    rw [List.map_cons, List.flatMap_cons, List.length_append, ih, ctC_cat]
    show _ = ctgC v + lgC r
    rcases v with x | x | x <;> simp [ctgC]
/-! the world as a function of the state -/
def CwC (ad : Nat → Nat) (kA : Nat → ClassId) (σ : CsC) : va_W := (List.range (cnC σ)).map (fun a => (ad a, entC ad kA σ a))
theorem CwC_at {ad : Nat → Nat} {kA : Nat → ClassId} {σ : CsC} {a : Nat} (h : a < cnC σ) : (CwC ad kA σ)[a]? = some (ad a, entC ad kA σ a) := by
  unfold CwC
  rw [List.getElem?_map, List.getElem?_range h]
  rfl
theorem CwC_cr {ad : Nat → Nat} {kA : Nat → ClassId} {σ : CsC} : CrC ad kA σ (CwC ad kA σ) := ⟨by simp [CwC], fun _ h => CwC_at h⟩
theorem CrC.eq {ad : Nat → Nat} {kA : Nat → ClassId} {σ : CsC} {ws : va_W} (h : CrC ad kA σ ws) : ws = CwC ad kA σ := by
  apply List.ext_getElem?
  intro i
  by_cases hi : i < cnC σ
  · rw [h.2 i hi, CwC_at hi]
  · rw [List.getElem?_eq_none (by rw [h.1]; omega), List.getElem?_eq_none (by rw [CwC_cr.1]; omega)]
theorem CwC_rT {ad : Nat → Nat} {kA : Nat → ClassId} {σ τ : CsC} (h : WeC σ τ) : CwC ad kA τ = CwC ad kA σ := ((CwC_cr.we h).eq).symm
theorem WeC.cn {σ τ : CsC} (h : WeC σ τ) : τ.1 = σ.1 := h.1
/-! room -/
/-- the addresses to come are known: each new cell is the next one -/
def AdC (ad : Nat → Nat) (σ : CsC) (n : Nat) : Prop := ∀ i, cnC σ ≤ i → i < cpC σ → ad i = n + (i - cnC σ)
def GrC (σ τ : CsC) : Prop := (cnC σ ≤ cnC τ ∧ slC σ ≤ slC τ) ∧ τ.1.2 = σ.1.2 ∧ (cnC τ ≤ cpC τ ∧ slC τ ≤ spC τ) ∧ cpC τ ≤ 1000000
theorem GrC.tr {σ τ υ : CsC} (h1 : GrC σ τ) (h2 : GrC τ υ) : GrC σ υ := ⟨⟨Nat.le_trans h1.1.1 h2.1.1, Nat.le_trans h1.1.2 h2.1.2⟩, h2.2.1.trans h1.2.1, h2.2.2⟩
theorem GrC.cp {σ τ : CsC} (h : GrC σ τ) : cpC τ = cpC σ ∧ spC τ = spC σ := ⟨congrArg Prod.fst h.2.1, congrArg Prod.snd h.2.1⟩
/-- the slots of the cells from n on -/
def smC (H : Heap) (n : Nat) : Nat := ((H.toList.drop n).map (·.slots.size)).sum
theorem smC_add {H H1 : Heap} {n : Nat} (hn : n ≤ H.size) (hl : H.size ≤ H1.size) (h : ∀ (q : Nat) (c : Cell), H[q]? = some c → ∃ c', H1[q]? = some c' ∧ c'.slots.size = c.slots.size) : smC H1 n = smC H n + smC H1 H.size := by
  unfold smC
  have e : H1.toList.drop n = (H1.toList.drop n).take (H.size - n) ++ H1.toList.drop H.size := by
    have := (List.take_append_drop (H.size - n) (H1.toList.drop n)).symm
    rw [List.drop_drop, show n + (H.size - n) = H.size by omega] at this
    exact this
  rw [e, List.map_append, List.sum_append]
  congr 2
  apply List.ext_getElem?
  intro i
  rw [List.getElem?_map, List.getElem?_map, List.getElem?_take, List.getElem?_drop, List.getElem?_drop]
  by_cases hi : i < H.size - n
  · rw [if_pos hi]
    have hq : n + i < H.size := by omega
    obtain ⟨c', h1, h2⟩ := h (n + i) (H[n + i]) (Array.getElem?_eq_getElem hq)
    rw [show H1.toList[n + i]? = H1[n + i]? from Array.getElem?_toList, show H.toList[n + i]? = H[n + i]? from Array.getElem?_toList, h1, Array.getElem?_eq_getElem hq]
    exact congrArg some h2
  · rw [if_neg hi, show H.toList[n + i]? = H[n + i]? from Array.getElem?_toList, Array.getElem?_eq_none (by omega)]
section CRM
variable {p : Program} {l : Launch} {e : Env} {R : Room} {s : State} {m : MethodId} {args : Array Value} {below : List Frame} {meth : Method} {c : Code} {H : Heap} {locs : List Loc} {cells slots : Nat} {Q : State → Prop} {g : JFrame}
/-- the counters may be set to any bound that holds -/
theorem W.tightC {cells' slots' : Nat} (hc : H.size ≤ s.heap.size + cells') (hs : smC H s.heap.size ≤ slots') (k : W p l e R s m args below meth c H locs cells' slots' Q g) : W p l e R s m args below meth c H locs cells slots Q g := by
  intro T hT X
  subst hT
  refine k T rfl { X with same := ?_ }
  obtain ⟨h1, h2, h3, h4, h5, h6⟩ := X.same
  exact ⟨h1, h2, hc, h4, hs, h6⟩
/-- what the counters say -/
theorem W.knowC (k : (s.heap.size ≤ H.size ∧ H.size ≤ s.heap.size + cells) → smC H s.heap.size ≤ slots → (∀ (q : Nat) (c : Cell), s.heap[q]? = some c → ∃ c', H[q]? = some c' ∧ c'.slots.size = c.slots.size) → W p l e R s m args below meth c H locs cells slots Q g) : W p l e R s m args below meth c H locs cells slots Q g := by
  intro T hT X
  subst hT
  obtain ⟨h1, h2, h3, h4, h5, h6⟩ := X.same
  exact k ⟨h2, h3⟩ h5 (fun q c hq => by
    obtain ⟨c', g1, -, g2, -⟩ := h6 q c hq
    exact ⟨c', g1, g2⟩) T rfl X
end CRM
/-! contracts -/
def cPreC (D : va_G) (ad : Nat → Nat) (kA : Nat → ClassId) (σ : CsC) (sz : Nat) (U : State) : Prop := U.heap.size = sz ∧ va_P D vwCl (CwC ad kA σ) U.heap ∧ va_K D vwCl (tyC kA) U ∧ va_D (fun _ => True) (CwC ad kA σ) ∧ AdC ad σ sz ∧ evC ad (va_A (CwC ad kA σ) sz) U U.heap
def cPostC (D : va_G) (ad : Nat → Nat) (kA : Nat → ClassId) (σ : CsC) (sz : Nat) (τ : CsC) (st t : State) : Prop := (va_P D vwCl (CwC ad kA τ) t.heap ∧ va_K D vwCl (tyC kA) t ∧ va_D (va_A (CwC ad kA σ) sz) (CwC ad kA τ)) ∧ (AdC ad τ t.heap.size ∧ GrC σ τ ∧ t.heap.size = sz + (cnC τ - cnC σ)) ∧ smC t.heap sz ≤ slC τ - slC σ ∧ ∀ (q : Nat) (c : Cell), st.heap[q]? = some c → ∃ c', t.heap[q]? = some c' ∧ c'.slots.size = c.slots.size
def cQcC (D : va_G) (ad : Nat → Nat) (kA : Nat → ClassId) (σ : CsC) (sz : Nat) (post : Option AvC → CsC → Prop) : Array Value → State → Outcome → State → Prop := fun _ st oc t => (∃ (r : Option AvC) (τ : CsC), oc = .returned (r.map (cvC ad)) ∧ post r τ ∧ cPostC D ad kA σ sz τ st t) ∧ va_F (va_A (CwC ad kA σ) sz) st t
def rmC (lev : Nat) (σ : CsC) : Room := { frames := lev, cells := cpC σ - cnC σ, slots := spC σ - slC σ, locals := 100 * lev }
/-- a method of the class keeps its contract; all the room that is left is its -/
def CMetC (l : Launch) (lev μ : Nat) (P : CpC) (Q : CqC) : Prop := ∃ r : CmC, mtC[μ]? = some r ∧ ∀ (D : va_G) (ad : Nat → Nat) (kA : Nat → ClassId) (σ : CsC) (sz : Nat) (As : List AvC), P As σ → GrC σ σ →
  Met l r.1 (wcC r :: cGC) (rmC lev σ) (va_Pc (As.map (cvC ad)) (fun U => cPreC D ad kA σ sz U)) (cQcC D ad kA σ sz (Q As σ)) (cpC σ - cnC σ) (spC σ - slC σ) (va_A (CwC ad kA σ) sz)
