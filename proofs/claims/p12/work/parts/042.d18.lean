/-! length() and charAt() -/
theorem rooC {s : State} {pl : Platform} {r r' : Room} (h1 : r.frames ≤ r'.frames) (h2 : r.locals ≤ r'.locals) (h3 : r.cells ≤ r'.cells) (h4 : r.slots ≤ r'.slots) (h : s.hasRoom pl r' = true) : s.hasRoom pl r = true := by
  unfold State.hasRoom at h ⊢
  rw [Bool.and_eq_true, Bool.and_eq_true, Bool.and_eq_true, Bool.and_eq_true, decide_eq_true_eq, decide_eq_true_eq, decide_eq_true_eq, decide_eq_true_eq] at h ⊢
  have h5 := h.1.1.1.2
  exact ⟨⟨⟨⟨by have := h.1.1.1.1; omega, by omega, by omega, by omega, by omega, h5.2.2.2.2⟩, by have := h.1.1.2; omega⟩, by have := h.1.2; omega⟩, h.2⟩
theorem aplC {S S' : Spec} {x : MethodName} {pl : Platform} {s : State} {m : MethodId} {args : Array Value} {below : List Frame} (hf : s.frames = .invoking m args :: below) (hp : S'.pre.before args s = true → S.pre.before args s = true) (h1 : S.room.frames ≤ S'.room.frames) (h2 : S.room.locals ≤ S'.room.locals) (h3 : S.room.cells ≤ S'.room.cells) (h4 : S.room.slots ≤ S'.room.slots) (h : S'.appliesLoose x pl s = true) : S.appliesLoose x pl s = true := by
  unfold Spec.appliesLoose at h ⊢
  rw [hf] at h ⊢
  dsimp only at h ⊢
  rw [Bool.and_eq_true, Bool.and_eq_true] at h ⊢
  exact ⟨⟨h.1.1, rooC h1 h2 h3 h4 h.1.2⟩, hp h.2⟩
theorem metC {l : Launch} {x : MethodName} {S S' : Spec} {P : Array Value → State → Prop} {K : Program → Env → List Frame → State → Array Value → Prop} {Q : Array Value → State → Outcome → State → Prop} (g : MetFree l x S P K Q) (hp : ∀ a s, S'.pre.before a s = true → S.pre.before a s = true) (h1 : S.room.frames ≤ S'.room.frames) (h2 : S.room.locals ≤ S'.room.locals) (h3 : S.room.cells ≤ S'.room.cells) (h4 : S.room.slots ≤ S'.room.slots) : MetFree l x S' P K Q :=
  fun p e ha hc hk s m args below hf happ hP hK => g p e ha hc hk s m args below hf (aplC hf (hp _ _) h1 h2 h3 h4 happ) hP hK
theorem CMetC.lift {l : Launch} {lev μ : Nat} {P : CpC} {Q : CqC} {r : CmC} {ws : List Cond} {fr lo : Nat} (hr : mtC[μ]? = some r) (hws : ∀ w ∈ ws, w ∈ cGC) (h1 : fr ≤ lev) (h2 : lo ≤ 100 * lev)
    (hM : ∀ (D : va_G) (ad : Nat → Nat) (σ : CsC) (sz : Nat) (As : List AvC), P As σ → ∃ post : Int32 → Unit → Prop, (∀ v u, post v u → Q As σ (some (.inl v)) σ) ∧ Met l r.1 ws ({ frames := fr, cells := 0, slots := 0, locals := lo }) (va_Pc (As.map (cvC ad)) (fun U => U.heap.size = sz ∧ va_P D vwCl [] U.heap ∧ va_K D vwCl [] U ∧ va_D (fun _ => True) [] ∧ evS 0 (fun i => ad (1000003 + i)) (fun i => ad (1000007 + i)) (va_A [] sz) U U.heap)) (va_Qi post (fun (_ : Unit) (t : State) => va_P D vwCl [] t.heap ∧ va_K D vwCl [] t ∧ va_D (va_A [] sz) []) (va_A [] sz)) 0 0 (va_A [] sz)) : CMetC l lev μ P Q := by
  refine ⟨r, hr, fun D ad kA σ sz As hP hg => ?_⟩
  obtain ⟨post, hpost, h⟩ := hM D ad σ sz As hP
  have hsub : ∀ q, va_A [] sz q → va_A (CwC ad kA σ) sz q := fun q h => by
    rcases h with ⟨k, e, z⟩ | h
    · simp at z
    · exact Or.inr h
  unfold Met at h ⊢
  refine metC (h.mono (K' := fun _ _ _ _ _ => True) ?_ (fun _ _ _ _ _ h => h) ?_) (fun a s hb => atoms_intro (fun w hw => atoms_spec hb w (List.mem_cons_of_mem _ (hws w hw)))) h1 h2 (Nat.zero_le _) (Nat.zero_le _)
  · rintro a s ⟨rfl, c1, c2, c3, c4, c5, c6⟩
    exact ⟨rfl, c1, (fun k q hq => by simp at hq), ⟨c3.1, fun k q hq => by simp at hq⟩, ⟨fun i j p q hp => by simp at hp, fun k q hq => by simp at hq⟩, trivial, trivial, trivial, c6.1.2.1.narrow hsub, c6.1.2.2.narrow hsub, c6.1.1.narrow hsub, trivial⟩
  · rintro a s o t ⟨rfl, c1, c2, c3, c4, c5, c6⟩ ⟨⟨⟨v, u, rfl, hv, -⟩, hF⟩, L, hE, hL⟩
    have hle : t.heap.size ≤ s.heap.size + 0 := hE.2.2.2.2.1
    have hsz : t.heap.size = s.heap.size := by have := hF.1; omega
    have hh : t.heap = s.heap := by
      refine Array.ext_getElem? (fun i => ?_)
      by_cases q : i < s.heap.size
      · refine hF.2 i q (fun z => ?_)
        rcases z with ⟨k, e, z⟩ | z
        · simp at z
        · omega
      · rw [Array.getElem?_eq_none (by omega), Array.getElem?_eq_none (by omega)]
    refine ⟨⟨⟨some (.inl v), σ, rfl, hpost v u hv, ⟨by rw [hh]; exact c2, va_K.moved hE.2.1.alike c3, c4.self⟩, ⟨by rw [hsz, c1]; exact c5, hg, by omega⟩, ?_, fun q c hq => ⟨c, by rw [hh]; exact hq, rfl⟩⟩, hF.1, fun q z1 z2 => hF.2 q z1 (fun z => z2 (hsub q z))⟩, L, ⟨hE.1, hE.2.1, hE.2.2.mono (Nat.zero_le _) (Nat.zero_le _)⟩, fun q hq => hsub _ (hL q hq)⟩
    have := hE.2.2.2.2.2.2.1
    rw [c1] at this
    exact Nat.le_trans this (Nat.zero_le _)
theorem sln_j : ∀ i, i < 4 → slnC (1000003 + i) = ((jlen.getD i 0 : Nat) : Int) ∧ jlen.getD i 0 ≤ 1000 := by
  intro i hi
  have : i = 0 ∨ i = 1 ∨ i = 2 ∨ i = 3 := by omega
  rcases this with rfl | rfl | rfl | rfl <;> exact ⟨rfl, by decide⟩
theorem m_J0_length_8abf5 (l : Launch) : CMetC l 10 239 P_J0_length_8abf5 Q_J0_length_8abf5 := by
  refine CMetC.lift (fr := 2) (lo := 200) (ws := ww_length) rfl (fun w hw => cG_s (List.mem_append_right _ (List.mem_append_left _ hw))) (by decide) (by decide) ?_
  rintro D ad σ sz As ⟨p0, rfl, H0, hp⟩
  obtain ⟨i, hi, rfl⟩ : ∃ i, i < 4 ∧ p0 = 1000003 + i := ⟨p0 - 1000003, by omega, by omega⟩
  refine ⟨_, fun v u hv => ?_, c_length l D.1 D.2 0 (fun i => ad (1000003 + i)) (fun i => ad (1000007 + i)) i hi sz⟩
  obtain ⟨h1, h2⟩ := sln_j i hi
  have e : v.toInt = ((jlen.getD i 0 : Nat) : Int) := by rw [hv]; exact Int32.toInt_ofNat_of_lt (by omega)
  exact ⟨v, rfl, rfl, by omega, by omega, by omega⟩
theorem m_J0_charAt_5068e (l : Launch) : CMetC l 10 238 P_J0_charAt_5068e Q_J0_charAt_5068e := by
  refine CMetC.lift (fr := 4) (lo := 400) (ws := ww_charAt) rfl (fun w hw => cG_s (List.mem_append_right _ (List.mem_append_right _ hw))) (by decide) (by decide) ?_
  rintro D ad σ sz As ⟨p0, k, rfl, H0, hp, hk0, hk1⟩
  obtain ⟨i, hi, rfl⟩ : ∃ i, i < 4 ∧ p0 = 1000003 + i := ⟨p0 - 1000003, by omega, by omega⟩
  obtain ⟨h1, h2⟩ := sln_j i hi
  have e : (nI (jlen.getD i 0)).toInt = ((jlen.getD i 0 : Nat) : Int) := Int32.toInt_ofNat_of_lt (by omega)
  refine ⟨_, fun v u hv => ⟨v, rfl, rfl, by rw [hv.2, Nat.add_sub_cancel_left]⟩, c_charAt l D.1 D.2 0 (fun i => ad (1000003 + i)) (fun i => ad (1000007 + i)) i k hi (fun z => ?_) (Int32.lt_iff_toInt_lt.mpr (by omega)) sz⟩
  have := Int32.lt_iff_toInt_lt.mp z
  have e0 : (0 : Int32).toInt = 0 := rfl
  omega
