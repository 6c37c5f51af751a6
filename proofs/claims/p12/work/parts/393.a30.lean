/-! along the codes: the tables are tbT's, the checks are those of the last tables -/
theorem xc_sf {l L : List ItZ} (h : l <:+ L) : xcZ l ≤ xcZ L := by
  obtain ⟨t, rfl⟩ := h
  induction t with
  | nil => exact Nat.le_refl _
  | cons x t ih =>
    cases x with
    | inl x => show xcZ l ≤ xcZ (t ++ l) + 1; omega
    | inr y => exact ih
theorem xg_sf {l L : List ItZ} (h : l <:+ L) : ∀ i, i < xcZ l → xgZ L i = xgZ l i := by
  obtain ⟨t, rfl⟩ := h
  induction t with
  | nil => intro i _; rfl
  | cons x t ih =>
    intro i hi
    cases x with
    | inl x =>
      have q := xc_sf (l := l) (L := t ++ l) ⟨t, rfl⟩
      show xgZ (.inl x :: (t ++ l)) i = _
      rw [xgZ, if_neg (by omega)]
      exact ih i hi
    | inr y => exact ih i hi
theorem xg_at {x : XrZ} {l L : List ItZ} (h : (.inl x :: l) <:+ L) : xgZ L (xcZ l) = x := by
  rw [xg_sf h _ (by show xcZ l < xcZ l + 1; omega), xgZ, if_pos rfl]
theorem okl_tb {C : CxT} {N : Int → Int} {L : List ItZ} : ∀ {l : List ItZ} {T : TbT}, l <:+ L → OkL C N (t0T C.1 (xgZ L)) l T → tbT C (xgZ L) (xcZ l) = some T := by
  intro l
  induction l with
  | nil => intro T _ h; rw [h]; rfl
  | cons x l ih =>
    intro T hs h
    have hl : l <:+ L := (List.suffix_cons _ _).trans hs
    cases x with
    | inl x =>
      obtain ⟨U, a, b⟩ := h
      show tbT C (xgZ L) (xcZ l + 1) = _
      rw [tbT, ih hl a]
      show stT C U (xcZ l) (xgZ L (xcZ l)) = _
      rw [xg_at hs]
      exact b
    | inr y => exact ih hl h.1
/-- numbers of exps that codes of S's name -/
def RgI (L : List ItZ) : Prop := ∀ y l, (.inr y :: l) <:+ L → (tkO y → 0 ≤ y.2.2.2.2 ∧ y.2.2.2.2 < (xcZ l : Int)) ∧ (y.1 = 38 → 0 ≤ swZ y.2.1 l)
theorem sw_rg {L : List ItZ} (h : RgI L) {k : Int} : ∀ {l : List ItZ}, l <:+ L → 0 ≤ swZ k l → swZ k l < (xcZ l : Int) := by
  intro l
  induction l with
  | nil => intro _ q; exact absurd q (by show ¬ (0 : Int) ≤ -1; decide)
  | cons x l ih =>
    intro hs q
    have hl : l <:+ L := (List.suffix_cons _ _).trans hs
    cases x with
    | inl x =>
      have z := ih hl q
      show swZ k l < ((xcZ l + 1 : Nat) : Int)
      omega
    | inr y =>
      have e : swZ k (.inr y :: l) = if y.1 = 37 ∧ y.2.1 = k then y.2.2.2.2 else swZ k l := rfl
      rw [e] at q ⊢
      show _ < (xcZ l : Int)
      split
      · next z =>
        exact ((h y l hs).1 (by unfold tkO; omega)).2
      · next z =>
        rw [if_neg z] at q
        exact ih hl q
theorem itN_sf : ∀ {l : List ItZ} {o : Nat} {x : ItZ}, itN l o = some x → ∃ l', (x :: l') <:+ l := by
  intro l
  induction l with
  | nil => intro o x h; cases h
  | cons y l ih =>
    intro o x h
    rw [itN] at h
    split at h
    · cases h; exact ⟨l, List.suffix_refl _⟩
    · obtain ⟨l', q⟩ := ih h
      exact ⟨l', q.trans (List.suffix_cons _ _)⟩
/-- a check asks the same of later tables -/
theorem okS_ta {C : CxT} {N : Int → Int} {T V : TbT} {L l : List ItZ} {y : Int × Int × Int × Int × Int} (hR : RgI L) (hs : (.inr y :: l) <:+ L) (ta : TaZ (xcZ l) T V) : okS C N V l y ↔ okS C N T l y := by
  have hl : l <:+ L := (List.suffix_cons _ _).trans hs
  obtain ⟨r1, r2⟩ := hR y l hs
  by_cases q : tkO y
  · have r := r1 q
    have e : opT V y.2.2.2.2 = opT T y.2.2.2.2 := ta_op ta r.1 r.2
    unfold okS
    rw [e]
    by_cases q38 : y.1 = 38
    · have s0 := r2 q38
      have e2 : opT V (swZ y.2.1 l) = opT T (swZ y.2.1 l) := ta_op ta s0 (sw_rg hR hl s0)
      have e3 : ∀ o x, itN l o = some (.inr x) → x.1 = 38 → opT V x.2.2.2.2 = opT T x.2.2.2.2 := fun o x hx h38 => by
        obtain ⟨l', hl'⟩ := itN_sf hx
        have z := (hR x l' (hl'.trans hl)).1 (by unfold tkO; omega)
        have w := xc_sf ((List.suffix_cons _ _).trans hl' : l' <:+ l)
        exact ta_op ta z.1 (by omega)
      rw [e2]
      constructor
      · intro ⟨a1, a2, a3, a4, a5⟩
        exact ⟨a1, a2, a3, fun z => ⟨(a4 z).1, fun o x hx h1 h2 => by rw [← e3 o x hx h1]; exact (a4 z).2 o x hx h1 h2⟩, a5⟩
      · intro ⟨a1, a2, a3, a4, a5⟩
        exact ⟨a1, a2, a3, fun z => ⟨(a4 z).1, fun o x hx h1 h2 => by rw [e3 o x hx h1]; exact (a4 z).2 o x hx h1 h2⟩, a5⟩
    · constructor
      · intro ⟨a1, a2, a3, a4, a5⟩
        exact ⟨a1, a2, a3, fun z => absurd z q38, a5⟩
      · intro ⟨a1, a2, a3, a4, a5⟩
        exact ⟨a1, a2, a3, fun z => absurd z q38, a5⟩
  · unfold tkO at q
    have c2 : ¬ (y.1 = 23 ∨ y.1 = 27 ∨ y.1 = 31 ∨ (y.1 = 33 ∧ ¬ y.2.2.1 = 0)) := by omega
    have c3 : ¬ y.1 = 37 := by omega
    have c4 : ¬ y.1 = 38 := by omega
    have c8 : y.1 = 48 → y.2.1 = 0 := by omega
    have c9 : ¬ y.1 = 49 := by omega
    clear q r1 r2
    unfold okS
    constructor
    · intro ⟨a1, a2, a3, a4, a5, a6, a7, a8, a9⟩
      exact ⟨a1, fun z => absurd z c2, fun z => absurd z c3, fun z => absurd z c4, a5, a6, a7, fun z => ⟨(a8 z).1, fun w => absurd (c8 z) w⟩, fun z => absurd z c9⟩
    · intro ⟨a1, a2, a3, a4, a5, a6, a7, a8, a9⟩
      exact ⟨a1, fun z => absurd z c2, fun z => absurd z c3, fun z => absurd z c4, a5, a6, a7, fun z => ⟨(a8 z).1, fun w => absurd (c8 z) w⟩, fun z => absurd z c9⟩
theorem tb_ta {C : CxT} {xs : Nat → XrZ} {i j : Nat} {T V : TbT} (h : tbT C xs i = some T) (g : tbT C xs j = some V) (hij : i ≤ j) : TaZ i T V := fun q hq => tb_o h j V hij g q hq
/-- none is told along the codes: the tables stand, and every code is fine by them -/
theorem okl_iff {C : CxT} {N : Int → Int} {L : List ItZ} (hR : RgI L) {T : TbT} : OkL C N (t0T C.1 (xgZ L)) L T ↔ (tbT C (xgZ L) (xcZ L) = some T ∧ ∀ y l, (.inr y :: l) <:+ L → okS C N T l y) := by
  constructor
  · intro h
    refine ⟨okl_tb (List.suffix_refl _) h, fun y l hs => ?_⟩
    obtain ⟨U, a, b⟩ := okl_sf h hs
    have u := okl_tb ((List.suffix_cons _ _).trans hs) a
    exact (okS_ta hR hs (tb_ta u (okl_tb (List.suffix_refl _) h) (xc_sf ((List.suffix_cons _ _).trans hs)))).mpr b
  · intro ⟨h, g⟩
    have all : ∀ l, l <:+ L → ∃ U, OkL C N (t0T C.1 (xgZ L)) l U := by
      intro l
      induction l with
      | nil => intro _; exact ⟨_, rfl⟩
      | cons x l ih =>
        intro hs
        have hl : l <:+ L := (List.suffix_cons _ _).trans hs
        obtain ⟨U, hU⟩ := ih hl
        have u := okl_tb hl hU
        cases x with
        | inl x =>
          have le : xcZ l + 1 ≤ xcZ L := xc_sf hs
          have nz : ¬ tbT C (xgZ L) (xcZ l + 1) = none := fun z => by
            have w := tb_n z _ le
            rw [h] at w
            cases w
          rw [tbT, u] at nz
          have nz : ¬ stT C U (xcZ l) (xgZ L (xcZ l)) = none := nz
          rw [xg_at hs] at nz
          obtain ⟨V, hV⟩ := Option.ne_none_iff_exists'.mp nz
          exact ⟨V, U, hU, hV⟩
        | inr y =>
          have b := (okS_ta (C := C) (N := N) hR hs (tb_ta u h (xc_sf hl))).mp (g y l hs)
          exact ⟨U, hU, b⟩
    obtain ⟨U, hU⟩ := all L (List.suffix_refl _)
    have u := okl_tb (List.suffix_refl _) hU
    rw [h] at u
    rw [Option.some.inj u]
    exact hU
