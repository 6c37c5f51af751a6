/-! SURELY assigned, as the class goes, is what the function of y20 says: between -/
def UaD (z : ZS) (a : Int) (lo hi : Nat) (g g' : GzA) (J : List JmZ) : Prop := (∀ i, ¬ (lo ≤ i ∧ i < hi) → g'.1 i = g.1 i ∧ g'.2.1 i = g.2.1 i) ∧ (∀ i, hi ≤ i → g'.2.2.1 i = g.2.2.1 i ∧ g'.2.2.2.1 i = g.2.2.2.1 i) ∧ (∀ i : Nat, i < lo → g'.2.2.1 i = g.2.2.1 i &&& cmP z g.2.1 i false a J ∧ g'.2.2.2.1 i = g.2.2.2.1 i &&& cmP z g.2.1 i true a J) ∧ g'.2.2.2.2.2.2.2 = g.2.2.2.2.2.2.2
section
variable {z : ZS} {a : Int} {lo hi : Nat} {g g1 g2 : GzA} {J K : List JmZ}
theorem UaD.rf : UaD z a lo hi g g [] := ⟨fun _ _ => ⟨rfl, rfl⟩, fun _ _ => ⟨rfl, rfl⟩, fun i _ => ⟨an_al.symm, an_al.symm⟩, rfl⟩
theorem UaD.wd {lo' hi' : Nat} (h : UaD z a lo' hi' g g1 J) (h1 : lo ≤ lo') (h2 : hi' ≤ hi) : UaD z a lo hi g g1 J := ⟨fun i q => h.1 i (fun p => q (by omega)), fun i q => h.2.1 i (by omega), fun i q => h.2.2.1 i (by omega), h.2.2.2⟩
theorem UaD.tr (h : UaD z a lo hi g g1 J) (g' : UaD z a lo hi g1 g2 K) (hf : ∀ k, FaC z hi k a) : UaD z a lo hi g g2 (J ++ K) := by
  obtain ⟨h1, h2, h3, h4⟩ := h
  obtain ⟨g1', g2', g3, g4⟩ := g'
  have e : ∀ (tg : Int) (o : Bool), cmP z g1.2.1 tg o a K = cmP z g.2.1 tg o a K := fun tg o => cmP_g (fun m => lt_ag (fun i hi => (h1 i (by omega)).2) (hf _))
  refine ⟨fun i q => ⟨(g1' i q).1.trans (h1 i q).1, (g1' i q).2.trans (h1 i q).2⟩, fun i q => ⟨(g2' i q).1.trans (h2 i q).1, (g2' i q).2.trans (h2 i q).2⟩, fun i q => ⟨?_, ?_⟩, g4.trans h4⟩
  · rw [(g3 i q).1, (h3 i q).1, e, cmP_ap, an_as]
  · rw [(g3 i q).2, (h3 i q).2, e, cmP_ap, an_as]
/-- exps change nothing of it -/
theorem UaD.w {w : WzS} (h : UaD z a lo hi g g1 J) (hw : w.2.2.2 = g1.2.2.2.2.2.2.2) : UaD z a lo hi g (gaW w g1) J := ⟨h.1, h.2.1, h.2.2.1, hw.trans h.2.2.2⟩
theorem UaD.b {j : Nat} {m : Int64} (h : UaD z a lo hi g g1 J) (h1 : lo ≤ j) (h2 : j < hi) : UaD z a lo hi g (gaB j m g1) J := ⟨fun i q => ⟨(show upN g1.1 j m i = _ from (if_neg (by omega))).trans (h.1 i q).1, (h.1 i q).2⟩, h.2⟩
theorem UaD.h {j : Nat} {m : Int64} (h : UaD z a lo hi g g1 J) (h1 : lo ≤ j) (h2 : j < hi) : UaD z a lo hi g (gaH j m g1) J := ⟨fun i q => ⟨(h.1 i q).1, (show upN g1.2.1 j m i = _ from (if_neg (by omega))).trans (h.1 i q).2⟩, h.2⟩
/-- begun with an S's own bits -/
theorem UaD.pb {j : Nat} {m : Int64} (hf : ∀ k, FaC z hi k a) (hj : lo ≤ j) (hj2 : j < hi) (h : UaD z a lo hi (gaB j m g) g1 J) : UaD z a lo hi g g1 J := ⟨fun i q => ⟨((h.1 i q).1).trans (if_neg (by omega)), (h.1 i q).2⟩, h.2⟩
/-- out of an S that is no block of try -/
theorem UaD.up {j : Nat} {m e : Int64} (hp : ∀ i, i < snM z → paS z i < (i : Int)) (h : UaD z (j : Int) lo hi (gaB j m g) g1 J) (hl : j < lo) (hh : lo ≤ hi) (hj : j < snM z) (hk : ¬ kjS z j = 92) (hpa : paS z j = a) (hJ : ∀ (i : Nat) (o : Bool), i < j → cmP z g.2.1 i o a K = cmP z g.2.1 i o a J) : UaD z a j hi g (gaH j e g1) K := by
  obtain ⟨h1, h2, h3, h4⟩ := h
  refine ⟨fun i q => ⟨?_, ?_⟩, fun i q => h2 i q, fun i q => ?_, h4⟩
  · show g1.1 i = _
    rw [(h1 i (fun p => q (by omega))).1]
    exact if_neg (by omega)
  · show upN g1.2.1 j e i = _
    unfold upN
    rw [if_neg (by omega)]
    exact (h1 i (fun p => q (by omega))).2
  · have m' : ∀ (o : Bool), cmP z g.2.1 i o (j : Int) J = cmP z g.2.1 i o a J := fun o => cmP_g (fun m => by
      have r := ltp_in (z := z) (bh := g.2.1) (tg := (i : Int)) (m := m) hp hj (by omega) hk
      rw [hpa] at r
      exact r)
    have q3 := h3 i (by omega)
    have q3 : g1.2.2.1 i = g.2.2.1 i &&& cmP z g.2.1 i false (j : Int) J ∧ g1.2.2.2.1 i = g.2.2.2.1 i &&& cmP z g.2.1 i true (j : Int) J := q3
    rw [m', m'] at q3
    rw [hJ i false q, hJ i true q]
    exact q3
/-- out of a block of try: fb: bits of the finally that what leaves it goes through -/
theorem UaD.bk {j t : Nat} {m e : Int64} {f : Int64 → Int64} (hp : ∀ i, i < snM z → paS z i < (i : Int)) (h : UaD z (t : Int) lo hi (gaB t m g) g1 J) (hl : t < lo) (hh : lo ≤ hi) (ht : t < snM z) (hpa : paS z t = (j : Int)) (hj : j < t) (hen : ∀ m : Int64, (if hfA z t = true then m ||| g.2.1 (gjS z j).toNat else m) = f m) : UaD z (j : Int) (j + 1) hi g (gaH t e g1) (J.map (fun x => (x.1, x.2.1, x.2.2.1, f x.2.2.2))) := by
  obtain ⟨h1, h2, h3, h4⟩ := h
  refine ⟨fun i q => ⟨?_, ?_⟩, fun i q => h2 i q, fun i q => ?_, h4⟩
  · show g1.1 i = _
    rw [(h1 i (fun p => q (by omega))).1]
    exact if_neg (by omega)
  · show upN g1.2.1 t e i = _
    unfold upN
    rw [if_neg (by omega)]
    exact (h1 i (fun p => q (by omega))).2
  · have m' : ∀ (o : Bool), cmP z g.2.1 i o (t : Int) J = cmP z g.2.1 i o (j : Int) (J.map (fun x => (x.1, x.2.1, x.2.2.1, f x.2.2.2))) := fun o => cmP_f (fun m => by
      have r := ltp_s (z := z) (bh := g.2.1) (tg := (i : Int)) (m := m) hp ht (by omega)
      rw [hpa, Int.toNat_natCast, hen] at r
      exact r)
    have q3 := h3 i (by omega)
    have q3 : g1.2.2.1 i = g.2.2.1 i &&& cmP z g.2.1 i false (t : Int) J ∧ g1.2.2.2.1 i = g.2.2.2.1 i &&& cmP z g.2.1 i true (t : Int) J := q3
    rw [m', m'] at q3
    exact q3
end
def LgA (z : ZS) (lo hi : Nat) (g : GzA) (G : List (Nat × Int64 × Bool)) : Prop := ∀ x ∈ G, (lo ≤ x.1 ∧ x.1 < hi) ∧ g.1 x.1 = x.2.1
def FrAd (lo hi : Nat) (g : GzA) : Prop := ∀ i, lo ≤ i → i < hi → g.2.2.1 i = allB ∧ g.2.2.2.1 i = allB
section
variable {z : ZS} {a : Int} {lo hi mi : Nat} {g g1 g2 : GzA} {J : List JmZ} {G H : List (Nat × Int64 × Bool)}
theorem LgA.nil : LgA z lo hi g [] := fun _ h => absurd h List.not_mem_nil
theorem LgA.wd {lo' hi' : Nat} (h : LgA z lo' hi' g G) (h1 : lo ≤ lo') (h2 : hi' ≤ hi) : LgA z lo hi g G := fun x q => ⟨by have := (h x q).1; omega, (h x q).2⟩
theorem LgA.fr {lo' hi' : Nat} (h : LgA z lo' hi' g G) (e : ∀ i, lo' ≤ i → i < hi' → g1.1 i = g.1 i) : LgA z lo' hi' g1 G := fun x q => ⟨(h x q).1, by rw [e _ (h x q).1.1 (h x q).1.2]; exact (h x q).2⟩
theorem LgA.ap (h : LgA z lo hi g G) (k : LgA z lo hi g H) : LgA z lo hi g (G ++ H) := fun x q => (List.mem_append.mp q).elim (h x) (k x)
theorem LgA.co {j : Nat} {e : Bool} {m : Int64} (h : LgA z (j + 1) hi g G) (hj : j < hi) (hb : g.1 j = m) : LgA z j hi g ((j, m, e) :: G) := fun x q => by
  rcases List.mem_cons.mp q with rfl | q
  · exact ⟨⟨Nat.le_refl _, hj⟩, hb⟩
  · have := (h x q).1
    exact ⟨by omega, (h x q).2⟩
theorem FrAd.wd {lo' hi' : Nat} (h : FrAd lo hi g) (h1 : lo ≤ lo') (h2 : hi' ≤ hi) : FrAd lo' hi' g := fun i a b => h i (by omega) (by omega)
theorem FrAd.nx {hi' : Nat} (h : FrAd lo hi' g) (k : UaD z a lo hi g g1 J) (q : lo ≤ hi) : FrAd hi hi' g1 := fun i a b => by rw [(k.2.1 i a).1, (k.2.1 i a).2]; exact h i (by omega) b
theorem FrAd.b {j : Nat} {m : Int64} (h : FrAd lo hi g) : FrAd lo hi (gaB j m g) := h
theorem FrAd.w {w : WzS} (h : FrAd lo hi g) : FrAd lo hi (gaW w g) := h
/-- a jump to j itself -/
theorem ua_j {j : Nat} (h : UaD z (j : Int) lo hi g g1 J) (hl : j < lo) (hF : g.2.2.1 j = allB ∧ g.2.2.2.1 j = allB) : g1.2.2.1 j = cmB j false J ∧ g1.2.2.2.1 j = cmB j true J := by
  obtain ⟨a1, a2⟩ := h.2.2.1 j hl
  rw [a1, a2, hF.1, hF.2, cmP_e, cmP_e, al_an, al_an]
  exact ⟨rfl, rfl⟩
end
