/-! the law's start: the class's constructor -/
section LWI
variable {p : Program} {l : Launch} {e : Env} {R : Room} {s : State} {m : MethodId} {args : Array Value} {below : List Frame} {meth : Method} {c : Code} {H : Heap} {locs : List Loc} {cells slots : Nat} {Q : State → Prop}
theorem lwCi {A0 : Nat → Prop} {D : va_G} {ad : Nat → Nat} {kA : Nat → ClassId} {σ : CsC} {cc : ByteArray} {nL : Nat} {Ts : List Cond} {own : String} {lv μ j pc b : Nat} {P : CpC} {Qm : CqC} {row : CmC} {rest : List Value} {ls : Array Slot}
    (S : CallFix p m c cc nL s args Ts own) (hM : CMetC l lv μ P Qm) (hr : mtC[μ]? = some row) (hG : ∀ w ∈ cGC, w ∈ Ts) (hlk : Cond.methodLink own j row.1 ∈ Ts) (hstat : row.2.2.2.2.2.2 = false) (h13 : row.2.2.2.2.2.1 < 13) (hnm : row.1.name = "<init>") (hret : row.2.2.2.1 = none)
    (hroom : lv + 1 ≤ R.frames ∧ 8 + (row.2.2.1 + 11) + 100 * lv ≤ R.locals) (hP : va_P D vwCl (CwC ad kA σ) H) (hD : va_D A0 (CwC ad kA σ)) (hAd : AdC ad σ H.size) (hS : va_S A0 s.heap H locs) (hA : ∀ q, s.heap.size ≤ q → A0 q) (hK : va_K D vwCl (tyC kA) s) (hEv : evC ad A0 s s.heap) (hgs : GrC σ σ)
    (hPre : P [.inr (.inr (some b))] σ) (hlen : row.2.2.2.2.1 = 0)
    (hsize : ls.size = nL) (hcs : (rest.map fun v => v.category).sum ≤ 8) (hd : decode cc pc = .ok (.invokespecial j, 3)) (hf : cells + (cpC σ - cnC σ) ≤ R.cells ∧ slots + (spC σ - slC σ) ≤ R.slots)
    (kk : ∀ (w : Option AvC) (τ : CsC) (H1 : Heap) (locs1 : List Loc), Qm [.inr (.inr (some b))] σ w τ → va_P D vwCl (CwC ad kA τ) H1 → va_D A0 (CwC ad kA τ) → AdC ad τ H1.size → va_S A0 s.heap H1 locs1 → GrC σ τ → H1.size = H.size + (cnC τ - cnC σ) → W p l e R s m args below meth c H1 locs1 (cells + (cnC τ - cnC σ)) (slots + (slC τ - slC σ)) Q (F0 m (pc + 3) ls ((w.map (cvC ad)).toList ++ rest))) :
    W p l e R s m args below meth c H locs cells slots Q (F0 m pc ls (.ref (ad b) :: rest)) := by
  obtain ⟨row', hr', hM⟩ := hM
  obtain rfl : row' = row := Option.some.inj (hr'.symm.trans hr)
  obtain ⟨hc1, hc2, hc3, hc4, hc5⟩ := mtC_ok μ (mtC_lt hr) row' hr
  have hts := S.2.2.2.2
  have hF : ∀ q, va_A (CwC ad kA σ) H.size q → A0 q := va_freeAll hD hS hA
  have hpre : ∀ U : State, U.heap = H → s.WarmedH U.vm → cPreC D ad kA σ H.size U := fun U hU hW => ⟨by rw [hU], by rw [hU]; exact hP, va_K.moved hW.alike hK, hD.weaken (fun _ _ _ _ => trivial), hAd, by rw [hU]; exact evC.pass hW hEv hS hF⟩
  have hgood : GoodIn Ts (wcC row' :: cGC) := by
    apply goodIn_sub
    · intro w hw
      apply hG
      rcases List.mem_cons.mp hw with rfl | hw
      · exact cG_c hr
      · exact hw
    · rw [List.all_cons, cG_good]
      rfl
  have hM2 := hM D ad kA σ H.size [.inr (.inr (some b))] hPre hgs
  refine W.knowC (fun hc hsm _ => ?_)
  refine callC2 (va_runI (As := []) (rest := rest) S hM2 (cwI row'.2.2.2.2.1 hts hgood (by unfold wcC; rw [hret]) rfl rfl (by rw [hc1]; exact hts _ (hG _ (cG_p h13 (by unfold wpC; simp)))) (hts _ hlk) (hts _ (hG _ (cG_i hr hstat))) hnm ⟨hc2, hc3, hc4⟩ hroom)
    ⟨blindC, fun U hU hW => ⟨rfl, hpre U hU hW⟩⟩
    rfl (by rw [hlen]; rfl) hsize rfl (lv_room hcs) hd hf) hS hF hF (fun w τ t st hst hq hB hkeep locs1 hS1 => ?_)
  obtain ⟨⟨bP, bK, bD⟩, ⟨bA, bG, bs⟩, bm, bc⟩ := hB
  rw [hst] at bc
  have bg1 := bG.1
  have e9 := smC_add (H := H) (H1 := t.heap) (n := s.heap.size) hc.1 (by omega) bc
  exact W.tightC (by omega) (by omega) (kk w τ t.heap locs1 hq bP (bD.weaken (fun _ q _ hq => hF q.1 hq)) bA hS1 bG bs)
end LWI
