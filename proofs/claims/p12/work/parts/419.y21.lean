/-! REACHED, as the class goes, is what the function of y20 says: pieces -/
/-- finallys on the way from x outwards lie at hi or behind it -/
def FaC (z : ZS) (hi : Nat) : Nat → Int → Prop
  | 0, _ => True
  | k + 1, x => x < 0 ∨ ((hfA z x.toNat = true → (hi : Int) ≤ gjS z (paS z x.toNat).toNat) ∧ FaC z hi k (paS z x.toNat))
section
variable {z : ZS} {hi : Nat} {en en' : Nat → Bool} {tg : Int}
theorem FaC.mo {lo : Nat} (h : lo ≤ hi) : ∀ {k : Nat} {x : Int}, FaC z hi k x → FaC z lo k x := by
  intro k
  induction k with
  | zero => exact fun _ => trivial
  | succ k ih =>
    intro x q
    rcases q with q | q
    · exact Or.inl q
    · exact Or.inr ⟨fun e => by have := q.1 e; omega, ih q.2⟩
theorem fac_in {j : Nat} {a : Int} (hk : ¬ kjS z j = 92) (hpa : paS z j = a) (h : ∀ k, FaC z hi k a) : ∀ k, FaC z hi k (j : Int) := by
  intro k
  cases k with
  | zero => trivial
  | succ k =>
    refine Or.inr ⟨fun e => ?_, ?_⟩
    · unfold hfA at e
      rw [Int.toNat_natCast, decide_eq_false hk] at e
      cases e
    · rw [Int.toNat_natCast, hpa]
      exact h k
theorem fac_bk {j : Nat} {a : Int} (hpa : paS z j = a) (hg : 0 ≤ gjS z a.toNat → ¬ gjS z a.toNat = (j : Int) → (hi : Int) ≤ gjS z a.toNat) (h : ∀ k, FaC z hi k a) : ∀ k, FaC z hi k (j : Int) := by
  intro k
  cases k with
  | zero => trivial
  | succ k =>
    refine Or.inr ⟨fun e => ?_, ?_⟩
    · unfold hfA at e
      rw [Int.toNat_natCast, hpa] at e
      simp only [Bool.and_eq_true, decide_eq_true_eq, Bool.not_eq_true', decide_eq_false_iff_not] at e
      rw [Int.toNat_natCast, hpa]
      exact hg e.1.2 e.2
    · rw [Int.toNat_natCast, hpa]
      exact h k
theorem mt_ag (he : ∀ i, hi ≤ i → en' i = en i) : ∀ {k : Nat} {x : Int}, FaC z hi k x → mtF z en' tg k x = mtF z en tg k x := by
  intro k
  induction k with
  | zero => exact fun _ => rfl
  | succ k ih =>
    intro x h
    rw [mtF, mtF]
    by_cases c : x < 0
    · rw [if_pos c, if_pos c]
    · rw [if_neg c, if_neg c]
      rcases h with h | h
      · exact absurd h c
      · rw [ih h.2]
        by_cases f : hfA z x.toNat = true
        · have g := h.1 f
          rw [he _ (by omega)]
        · have f : hfA z x.toNat = false := by cases e : hfA z x.toNat; rfl; exact absurd e f
          rw [f]
          rfl
theorem mt_fu (hp : ∀ i, i < snM z → paS z i < (i : Int)) : ∀ (k k' : Nat) (x : Int), x < (k : Int) → x < (k' : Int) → x < (snM z : Int) → mtF z en tg k x = mtF z en tg k' x := by
  intro k
  induction k with
  | zero =>
    intro k' x h1 h2 h3
    have h0 : x < 0 := h1
    rw [mt_neg h0, mt_neg h0]
  | succ k ih =>
    intro k' x h1 h2 h3
    by_cases c : x < 0
    · rw [mt_neg c, mt_neg c]
    · obtain ⟨k', rfl⟩ : ∃ y, k' = y + 1 := ⟨k' - 1, by omega⟩
      have q := hp x.toNat (by omega)
      rw [mtF, mtF, ih k' (paS z x.toNat) (by omega) (by omega) (by omega)]
/-- whether a jump gets from x to where it leads -/
def mtP (z : ZS) (en : Nat → Bool) (tg x : Int) : Bool := mtF z en tg (snM z) x
theorem mtp_s (hp : ∀ i, i < snM z → paS z i < (i : Int)) {j : Nat} (hj : j < snM z) (h : ¬ (j : Int) = tg) : mtP z en tg (j : Int) = if (hfA z j && !(en (gjS z (paS z j).toNat).toNat)) = true then false else mtP z en tg (paS z j) := by
  unfold mtP
  obtain ⟨k, hk⟩ : ∃ k, snM z = k + 1 := ⟨snM z - 1, by omega⟩
  have q := hp j hj
  have r := mt_s (z := z) (en := en) (tg := tg) (k := k) h
  rw [← hk] at r
  rw [r, mt_fu hp (snM z) k (paS z j) (by omega) (by omega) (by omega)]
theorem mtp_e : mtP z en tg tg = true := mt_eq rfl
theorem mtp_in (hp : ∀ i, i < snM z → paS z i < (i : Int)) {j : Nat} (hj : j < snM z) (h : ¬ (j : Int) = tg) (hk : ¬ kjS z j = 92) : mtP z en tg (j : Int) = mtP z en tg (paS z j) := by
  rw [mtp_s hp hj h]
  have e : hfA z j = false := by
    unfold hfA
    rw [decide_eq_false hk]
    rfl
  rw [e]
  rfl
end
/-- between: which ends, jumps' targets change (only S's from lo on, below hi, but for where jumps lead to) -/
def UrD (z : ZS) (a : Int) (lo hi : Nat) (r r' : RR) (J : List JmZ) : Prop := (∀ i, ¬ (lo ≤ i ∧ i < hi) → r'.1 i = r.1 i) ∧ (∀ i, hi ≤ i → r'.2.1 i = r.2.1 i ∧ r'.2.2.1 i = r.2.2.1 i) ∧ (∀ i : Nat, i < lo → r'.2.1 i = (r.2.1 i || (cmA i false J && mtP z r.1 i a)) ∧ r'.2.2.1 i = (r.2.2.1 i || (cmA i true J && mtP z r.1 i a))) ∧ r'.2.2.2 = r.2.2.2
section
variable {z : ZS} {a : Int} {lo hi : Nat} {r r1 r2 : RR} {J K : List JmZ}
theorem UrD.rf : UrD z a lo hi r r [] := ⟨fun _ _ => rfl, fun _ _ => ⟨rfl, rfl⟩, fun i _ => ⟨by rw [show cmA (i : Int) false [] = false from rfl, Bool.false_and, Bool.or_false], by rw [show cmA (i : Int) true [] = false from rfl, Bool.false_and, Bool.or_false]⟩, rfl⟩
theorem UrD.wd {lo' hi' : Nat} (h : UrD z a lo' hi' r r1 J) (h1 : lo ≤ lo') (h2 : hi' ≤ hi) : UrD z a lo hi r r1 J := ⟨fun i q => h.1 i (fun p => q (by omega)), fun i q => h.2.1 i (by omega), fun i q => h.2.2.1 i (by omega), h.2.2.2⟩
theorem UrD.tr (h : UrD z a lo hi r r1 J) (g : UrD z a lo hi r1 r2 K) (hf : ∀ k, FaC z hi k a) : UrD z a lo hi r r2 (J ++ K) := by
  obtain ⟨h1, h2, h3, h4⟩ := h
  obtain ⟨g1, g2, g3, g4⟩ := g
  have e : ∀ tg, mtP z r1.1 tg a = mtP z r.1 tg a := fun tg => mt_ag (fun i hi => h1 i (by omega)) (hf _)
  refine ⟨fun i q => (g1 i q).trans (h1 i q), fun i q => ⟨(g2 i q).1.trans (h2 i q).1, (g2 i q).2.trans (h2 i q).2⟩, fun i q => ⟨?_, ?_⟩, g4.trans h4⟩
  · rw [(g3 i q).1, (h3 i q).1, e, cmA_ap]
    cases r.2.1 i <;> cases cmA (i : Int) false J <;> cases cmA (i : Int) false K <;> cases mtP z r.1 (i : Int) a <;> rfl
  · rw [(g3 i q).2, (h3 i q).2, e, cmA_ap]
    cases r.2.2.1 i <;> cases cmA (i : Int) true J <;> cases cmA (i : Int) true K <;> cases mtP z r.1 (i : Int) a <;> rfl
/-- out of an S that is no block of try -/
theorem UrD.up {j : Nat} {e : Bool} (hp : ∀ i, i < snM z → paS z i < (i : Int)) (h : UrD z (j : Int) lo hi r r1 J) (hl : j < lo) (hh : lo ≤ hi) (hj : j < snM z) (hk : ¬ kjS z j = 92) (hpa : paS z j = a) (hJ : ∀ (i : Nat) (o : Bool), i < j → cmA i o K = cmA i o J) : UrD z a j hi r (rrE j e r1) K := by
  obtain ⟨h1, h2, h3, h4⟩ := h
  refine ⟨fun i q => ?_, fun i q => h2 i q, fun i q => ?_, h4⟩
  · show (if i = j then e else r1.1 i) = _
    rw [if_neg (by omega)]
    exact h1 i (fun p => q (by omega))
  · have m := mtp_in (en := r.1) (tg := (i : Int)) hp hj (by omega) hk
    rw [hpa] at m
    have q3 := h3 i (by omega)
    rw [m] at q3
    rw [hJ i false q, hJ i true q]
    exact q3
theorem UrD.ee {j : Nat} {e : Bool} (h : UrD z a lo hi r r1 J) (hj : lo ≤ j) (hj2 : j < hi) : UrD z a lo hi r (rrE j e r1) J := by
  obtain ⟨h1, h2, h3, h4⟩ := h
  refine ⟨fun i q => ?_, fun i q => h2 i q, fun i q => h3 i q, h4⟩
  show (if i = j then e else r1.1 i) = _
  rw [if_neg (by omega)]
  exact h1 i q
/-- out of a block of try; en: whether what leaves it gets through the finally -/
theorem UrD.bk {j t : Nat} {e en : Bool} (hp : ∀ i, i < snM z → paS z i < (i : Int)) (h : UrD z (t : Int) lo hi r r1 J) (hl : t < lo) (hh : lo ≤ hi) (ht : t < snM z) (hpa : paS z t = (j : Int)) (hj : j < t) (hen : (hfA z t && !(r.1 (gjS z j).toNat)) = !en) (hJ : ∀ (i : Nat) (o : Bool), cmA i o K = (cmA i o J && en)) : UrD z (j : Int) (j + 1) hi r (rrE t e r1) K := by
  obtain ⟨h1, h2, h3, h4⟩ := h
  refine ⟨fun i q => ?_, fun i q => h2 i q, fun i q => ?_, h4⟩
  · show (if i = t then e else r1.1 i) = _
    rw [if_neg (by omega)]
    exact h1 i (fun p => q (by omega))
  · have m := mtp_s (en := r.1) (tg := (i : Int)) hp ht (by omega)
    rw [hpa, Int.toNat_natCast, hen] at m
    have q3 := h3 i (by omega)
    rw [m] at q3
    rw [hJ i false, hJ i true]
    cases en
    · rw [if_pos (show (!false) = true from rfl)] at q3
      simp only [Bool.and_false, Bool.false_and, Bool.or_false] at q3 ⊢
      exact q3
    · rw [if_neg (show ¬ (!true) = true by decide)] at q3
      simp only [Bool.and_true] at q3 ⊢
      exact q3
end
/-- S's whose ends, bits ahead are asked for -/
def StK (z : ZS) (i : Nat) : Prop := ¬ kjS z i = 92 ∧ ¬ kjS z i = 93 ∧ ¬ kjS z i = 94
def LgR (z : ZS) (lo hi : Nat) (r : RR) (G : List (Nat × Int64 × Bool)) : Prop := ∀ x ∈ G, (lo ≤ x.1 ∧ x.1 < hi) ∧ (StK z x.1 → r.1 x.1 = x.2.2)
def FrR (lo hi : Nat) (r : RR) : Prop := ∀ i, lo ≤ i → i < hi → r.2.1 i = false ∧ r.2.2.1 i = false
section
variable {z : ZS} {a : Int} {lo hi mi : Nat} {r r1 r2 : RR} {J : List JmZ} {G H : List (Nat × Int64 × Bool)}
theorem LgR.nil : LgR z lo hi r [] := fun _ h => absurd h List.not_mem_nil
theorem LgR.wd {lo' hi' : Nat} (h : LgR z lo' hi' r G) (h1 : lo ≤ lo') (h2 : hi' ≤ hi) : LgR z lo hi r G := fun x q => ⟨by have := (h x q).1; omega, (h x q).2⟩
theorem LgR.fr {lo' hi' : Nat} (h : LgR z lo' hi' r G) (e : ∀ i, lo' ≤ i → i < hi' → r1.1 i = r.1 i) : LgR z lo' hi' r1 G := fun x q => ⟨(h x q).1, fun k => by rw [e _ (h x q).1.1 (h x q).1.2]; exact (h x q).2 k⟩
theorem LgR.ap (h : LgR z lo hi r G) (g : LgR z lo hi r H) : LgR z lo hi r (G ++ H) := fun x q => (List.mem_append.mp q).elim (h x) (g x)
theorem LgR.co {j : Nat} {e : Bool} {m : Int64} (h : LgR z (j + 1) hi r G) (hj : j < hi) : LgR z j hi (rrE j e r) ((j, m, e) :: G) := fun x q => by
  rcases List.mem_cons.mp q with rfl | q
  · exact ⟨⟨Nat.le_refl _, hj⟩, fun _ => if_pos rfl⟩
  · have := (h x q).1
    refine ⟨by omega, fun k => ?_⟩
    show (if x.1 = j then e else r.1 x.1) = _
    rw [if_neg (by omega)]
    exact (h x q).2 k
theorem FrR.wd {lo' hi' : Nat} (h : FrR lo hi r) (h1 : lo ≤ lo') (h2 : hi' ≤ hi) : FrR lo' hi' r := fun i a b => h i (by omega) (by omega)
theorem FrR.nx {hi' : Nat} (h : FrR lo hi' r) (g : UrD z a lo hi r r1 J) (q : lo ≤ hi) : FrR hi hi' r1 := fun i a b => by rw [(g.2.1 i a).1, (g.2.1 i a).2]; exact h i (by omega) b
theorem FrR.e {j : Nat} {e : Bool} (h : FrR lo hi r) : FrR lo hi (rrE j e r) := h
end
