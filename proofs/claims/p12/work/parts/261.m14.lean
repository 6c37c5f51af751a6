/-! what is laid stays -/
abbrev IgM (f : ZS → ZS) : Prop := ∀ z, z.2.1 <:+ (f z).2.1
theorem ig_cl {p : Int} : ∀ (W : WtZ) (z : ZS), z.2.1 <:+ (clM p W z).2.1 := by
  intro W
  induction W with
  | nil => intro z; exact List.suffix_rfl
  | cons w W ih =>
    intro z
    obtain ⟨sg, f, st, a, mk_⟩ := w
    rw [clM]
    split
    · refine List.IsSuffix.trans ?_ (ih _)
      exact List.suffix_cons _ _
    · exact List.suffix_rfl
theorem ig_fk {z : ZS} : z.2.1 <:+ (fkM z).2.1 := by unfold fkM; split <;> first | exact List.suffix_rfl | exact List.suffix_cons _ _
theorem ig_tk {N : Int → Int} {z : ZS} : z.2.1 <:+ (tkM N z).2.1 := by unfold tkM; split <;> first | exact List.suffix_rfl | exact List.suffix_cons _ _
theorem ig_chl {O : ZS → ZS} (h : IgM O) : ∀ (f : Nat) (W : WtZ) (r : Int × Int) (z : ZS), z.2.1 <:+ (chlM O f W r z).2.1 := by
  intro f
  induction f with
  | zero => intro W r z; exact ig_cl W z
  | succ f ih =>
    intro W r z
    rw [chlM]
    split
    · refine List.IsSuffix.trans ?_ (ih _ _ _)
      refine List.IsSuffix.trans ?_ (h _)
      show _ <:+ (fkM _).2.1
      exact (ig_cl W z).trans ig_fk
    · exact ig_cl W z
theorem ig_chc {O E C : ZS → ZS} (hO : IgM O) (hE : IgM E) (hC : IgM C) : IgM (chcM O E C) := by
  intro z
  show _ <:+ (ch2M E C _ (chlM O 501 [] _ (O z))).2.1
  unfold ch2M
  split
  · refine List.IsSuffix.trans ?_ (List.suffix_cons _ _)
    refine List.IsSuffix.trans ?_ (hC _)
    refine List.IsSuffix.trans ?_ (List.suffix_cons _ _)
    refine List.IsSuffix.trans ?_ (hE _)
    refine List.IsSuffix.trans ?_ (List.suffix_cons _ _)
    exact (hO z).trans (ig_chl hO _ _ _ _)
  · exact (hO z).trans (ig_chl hO _ _ _ _)
theorem ig_xps {N : Int → Int} {O E C : ZS → ZS} (hO : IgM O) (hE : IgM E) (hC : IgM C) : IgM (xpsM N O E C) := by
  intro z
  unfold xpsM
  split
  · split
    · refine List.IsSuffix.trans ?_ (List.suffix_cons _ _)
      refine List.IsSuffix.trans ?_ (hE _)
      exact ig_tk
    · exact ig_chc hO hE hC z
  · exact ig_chc hO hE hC z
theorem ig_clp {E : ZS → ZS} (hE : IgM E) (r : Int × Int) : ∀ (f : Nat) (l : List Int) (z : ZS), z.2.1 <:+ (clpM E r f l z).2.1 := by
  intro f
  induction f with
  | zero => intro l z; first | exact List.suffix_rfl | exact List.suffix_cons _ _
  | succ f ih =>
    intro l z
    rw [clpM]
    split
    · show _ <:+ (clpM E r f _ (E (accM z))).2.1
      exact (hE (accM z)).trans (ih _ _)
    · first | exact List.suffix_rfl | exact List.suffix_cons _ _
theorem ig_opr {N : Int → Int} {m : Nat} {E : ZS → ZS} {I : Int → ZS → ZS} (hE : IgM E) (hI : ∀ g, IgM (I g)) (g : Int) : IgM (oprM N m E I g) := by
  intro z
  unfold oprM
  split
  · exact (hI _ (accM z)).trans (List.suffix_cons _ _)
  split
  · exact List.suffix_cons _ _
  split
  · unfold op2M
    show _ <:+ (if 50 ≤ codY (accY z.1) ∧ codY (accY z.1) ≤ 54 then _ else _ : ZS).2.1
    split
    · exact (hI 0 (xpM 1 (typM (accM z)))).trans (List.suffix_cons _ _)
    · exact (hE (accM z)).trans (List.suffix_cons _ _)
  split
  · unfold nmeM
    split
    · unfold ca2M
      split
      · exact List.suffix_rfl
      split
      · exact List.suffix_cons _ _
      · show _ <:+ (clpM E _ 501 _ (E _)).2.1
        refine List.IsSuffix.trans ?_ (ig_clp hE _ _ _ _)
        exact hE (accM (accM z))
    split
    · exact List.suffix_cons _ _
    · exact List.suffix_cons _ _
  split
  · exact List.suffix_cons _ _
  · exact List.suffix_rfl
theorem ig_lv {N : Int → Int} : ∀ n, IgM (eM N n) ∧ IgM (cM N n) ∧ ∀ g, IgM (oM N n g) := by
  intro n
  induction n with
  | zero => exact ⟨fun _ => List.suffix_rfl, fun _ => List.suffix_rfl, fun _ _ => List.suffix_rfl⟩
  | succ n ih => exact ⟨ig_xps (ig_opr ih.1 ih.2.2 0) ih.1 ih.2.1, ig_chc (ig_opr ih.1 ih.2.2 0) ih.1 ih.2.1, fun g => ig_opr ih.1 ih.2.2 g⟩
theorem ig_e {N : Int → Int} {n : Nat} : IgM (eM N n) := (ig_lv n).1
/-- the c-th that was laid -/
def itN : List ItZ → Nat → Option ItZ
  | [], _ => none
  | x :: l, c => if c = l.length then some x else itN l c
theorem itN_c {x : ItZ} {l : List ItZ} {c : Nat} (h : c < l.length) : itN (x :: l) c = itN l c := by
  rw [itN, if_neg (by omega)]
theorem itN_lt : ∀ {l : List ItZ} {c : Nat} {x : ItZ}, itN l c = some x → c < l.length := by
  intro l
  induction l with
  | nil => intro c x h; cases h
  | cons y l ih =>
    intro c x h
    rw [itN] at h
    rw [List.length_cons]
    by_cases q : c = l.length
    · omega
    · rw [if_neg q] at h
      have := ih h
      omega
theorem itN_g {l l' : List ItZ} {c : Nat} {x : ItZ} (h : l <:+ l') (q : itN l c = some x) : itN l' c = some x := by
  obtain ⟨t, rfl⟩ := h
  induction t with
  | nil => exact q
  | cons y t ih =>
    show itN (y :: (t ++ l)) c = _
    rw [itN_c (by have := itN_lt q; rw [List.length_append]; omega)]
    exact ih
