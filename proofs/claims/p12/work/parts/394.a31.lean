/-! numbers of exps that codes of S's name are in range -/
theorem rg_of {L : List ItZ} (h : SkP L []) (hy : ∀ y l, (.inr y :: l) <:+ L → (tkO y → 0 ≤ y.2.2.2.2) ∧ (y.1 = 38 → 0 ≤ swZ y.2.1 l)) : RgI L := fun y l hs => by
  obtain ⟨S, hS⟩ := sk_sf h ((List.suffix_cons _ _).trans hs)
  obtain ⟨U, u1, u2⟩ := sk_stp h hs hS
  refine ⟨fun q => ⟨(hy y l hs).1 q, ?_⟩, (hy y l hs).2⟩
  have e0 := (hy y l hs).1 q
  refine (sk_rg hS _ ?_).2
  rw [u1]
  refine List.mem_append_left _ ?_
  show y.2.2.2.2 ∈ (if y.2.2.2.2 < 0 then [] else [y.2.2.2.2])
  rw [if_neg (by omega)]
  exact List.mem_cons_self
/-- all that is asked ahead of flow, by the last tables -/
theorem okJ_iff {C : CxT} {N : Int → Int} {L : List ItZ} {nm nv : Nat} {cl : Nat → Prop} (hR : RgI L) : OkJ C N (t0T C.1 (xgZ L)) L nm nv cl ↔ (((∀ k, k < nm → m1T C.2.2.2 k 12) ∧ ∀ v, v < nv → ¬ cl v) ∧ ∃ T, tbT C (xgZ L) (xcZ L) = some T ∧ ∀ y l, (.inr y :: l) <:+ L → okS C N T l y) := by
  unfold OkJ
  refine and_congr Iff.rfl ⟨fun ⟨T, h⟩ => ⟨T, (okl_iff hR).mp h⟩, fun ⟨T, h⟩ => ⟨T, (okl_iff hR).mpr h⟩⟩
