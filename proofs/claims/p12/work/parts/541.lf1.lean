/-! the law: both halves in one heap -/
section LWS
variable {p : Program} {l : Launch} {e : Env} {R : Room} {s : State} {m : MethodId} {args : Array Value} {below : List Frame} {meth : Method} {c : Code} {H : Heap} {locs : List Loc} {cells slots : Nat} {Q : State → Prop}
/-- the class's cells, the reference's cells, apart -/
def LwI (A0 : Nat → Prop) (D : va_G) (ad : Nat → Nat) (kA : Nat → ClassId) (σ : CsC) (h : Nat) (ad2 : Nat → Nat) (cA : Nat → ClassId) (ρ : RS) (H : Heap) : Prop :=
  (va_P D vwCl (CwC ad kA σ) H ∧ va_P D vwCl (RW h ad2 cA ρ) H) ∧ AdC ad σ H.size ∧ (va_D A0 (CwC ad kA σ) ∧ va_D A0 (RW h ad2 cA ρ)) ∧ ∀ (i j : Nat) (x y : Nat × va_E), (CwC ad kA σ)[i]? = some x → (RW h ad2 cA ρ)[j]? = some y → x.1 ≠ y.1
theorem callC2 {D : va_G} {ad : Nat → Nat} {kA : Nat → ClassId} {σ : CsC} {pc mc ms : Nat} {post : Option AvC → CsC → Prop} {ls : Array Slot} {rest st0 : List Value} {a : Array Value} {A0 : Nat → Prop} {H0 : Heap} {free : Addr → Prop}
    (hr : va_Run p l e R s m args below meth c H locs cells slots mc ms (F0 m pc ls st0) rest (cQcC D ad kA σ H.size post a) free) (hS : va_S A0 H0 H locs) (hA : ∀ q, va_A (CwC ad kA σ) H.size q → A0 q) (hf : ∀ q, free q → A0 q)
    (kk : ∀ (r : Option AvC) (τ : CsC) (t : State) (st : State), st.heap = H → post r τ → cPostC D ad kA σ H.size τ st t → (∀ q : Nat, q < H.size → ¬ va_A (CwC ad kA σ) H.size q → t.heap[q]? = H[q]?) → ∀ (locs1 : List Loc), va_S A0 H0 t.heap locs1 → W p l e R s m args below meth c t.heap locs1 (cells + mc) (slots + ms) Q (F0 m (pc + 3) ls ((r.map (cvC ad)).toList ++ rest))) : W p l e R s m args below meth c H locs cells slots Q (F0 m pc ls st0) := by
  intro T hT X
  obtain ⟨v, st₀, t, T', L, h0, X', hL, e1, e2, ⟨⟨r, u, hv, hp, hb⟩, hz, hk⟩, st⟩ := hr T hT X
  cases hv
  rw [h0] at hz hk
  obtain ⟨t2, a1, b1⟩ := kk r u t st₀ h0 hp hb hk (locs ++ L)
    ⟨Nat.le_trans hS.1 hz, fun q h1 h2 => by rw [hk q (Nat.lt_of_lt_of_le h1 hS.1) (fun z => h2 (hA q z))]; exact hS.2.1 q h1 h2, fun q hq => by
      rcases List.mem_append.mp hq with h | h
      · exact hS.2.2 q h
      · exact hf _ (hL q h)⟩ T' e1 X'
  exact ⟨t2, st t2 a1, b1⟩
theorem lwC {A0 : Nat → Prop} {D : va_G} {ad : Nat → Nat} {kA : Nat → ClassId} {σ : CsC} {h : Nat} {ad2 : Nat → Nat} {cA : Nat → ClassId} {ρ : RS} {cc : ByteArray} {nL : Nat} {Ts : List Cond} {own : String} {lv μ j pc b : Nat} {P : CpC} {Qm : CqC} {row : CmC} {As : List AvC} {rest : List Value} {ls : Array Slot}
    (S : CallFix p m c cc nL s args Ts own) (hM : CMetC l lv μ P Qm) (hr : mtC[μ]? = some row) (hgood : GoodIn Ts (wsV own j row.1.cls row.1 (wcC row :: cGC)))
    (hroom : lv + 1 ≤ R.frames ∧ 8 + (row.2.2.1 + 11) + 100 * lv ≤ R.locals) (hw : LwI A0 D ad kA σ h ad2 cA ρ H) (hS : va_S A0 s.heap H locs) (hA : ∀ q, s.heap.size ≤ q → A0 q) (hK : va_K D vwCl (tyC kA) s) (hEv : evC ad A0 s s.heap) (hgs : GrC σ σ)
    (h13 : row.2.2.2.2.2.1 < 13) (ho : ObC σ b row.2.2.2.2.2.1) (hPre : P (.inr (.inr (some b)) :: As) σ) (hlen : As.length = row.2.2.2.2.1)
    (hsize : ls.size = nL) (hcs : (rest.map fun v => v.category).sum ≤ 8) (hd : decode cc pc = .ok (.invokevirtual j, 3)) (hf : cells + (cpC σ - cnC σ) ≤ R.cells ∧ slots + (spC σ - slC σ) ≤ R.slots)
    (kk : ∀ (w : Option AvC) (τ : CsC) (H1 : Heap) (locs1 : List Loc), Qm (.inr (.inr (some b)) :: As) σ w τ → LwI A0 D ad kA τ h ad2 cA ρ H1 → va_S A0 s.heap H1 locs1 → GrC σ τ → W p l e R s m args below meth c H1 locs1 (cells + (cnC τ - cnC σ)) (slots + (slC τ - slC σ)) Q (F0 m (pc + 3) ls ((w.map (cvC ad)).toList ++ rest))) :
    W p l e R s m args below meth c H locs cells slots Q (F0 m pc ls ((As.map (cvC ad)).reverse ++ .ref (ad b) :: rest)) := by
  obtain ⟨⟨hP, hP2⟩, hAd, ⟨hD, hD2⟩, hap⟩ := hw
  obtain ⟨row', hr', hM⟩ := hM
  obtain rfl : row' = row := Option.some.inj (hr'.symm.trans hr)
  obtain ⟨hc1, hc2, hc3, hc4, hc5⟩ := mtC_ok μ (mtC_lt hr) row' hr
  have hF : ∀ q, va_A (CwC ad kA σ) H.size q → A0 q := va_freeAll hD hS hA
  have hpre : ∀ U : State, U.heap = H → s.WarmedH U.vm → cPreC D ad kA σ H.size U := fun U hU hW => ⟨by rw [hU], by rw [hU]; exact hP, va_K.moved hW.alike hK, hD.weaken (fun _ _ _ _ => trivial), hAd, by rw [hU]; exact evC.pass hW hEv hS hF⟩
  have hrv : ∃ cell : Cell, H[ad b]? = some cell ∧ cell.vm.isStatics = false ∧ s.vm.findClass row'.1.cls = some cell.cls := by
    have h9 := va_recv hK hP (vwC_at h13) ((CwC_at ho.1).trans (by rw [entC_ob ho]))
    rw [hc1]
    exact h9
  refine W.knowC (fun hc hsm _ => ?_)
  refine callC2 (va_runV (As := As.map (cvC ad)) (rest := rest) S (hM D ad kA σ H.size (.inr (.inr (some b)) :: As) hPre hgs) (cwV row'.2.2.2.2.1 S.2.2.2.2 hgood rfl rfl rfl ⟨rfl, hc2, hc3, hc4⟩ hroom)
    ⟨blindC, hrv, fun U hU hW => ⟨rfl, hpre U hU hW⟩⟩
    rfl (by rw [List.length_map]; exact hlen) hsize rfl (lv_room hcs) hd hf) hS hF hF (fun w τ t st hst hq hB hkeep locs1 hS1 => ?_)
  obtain ⟨⟨bP, bK, bD⟩, ⟨bA, bG, bs⟩, bm, bc⟩ := hB
  rw [hst] at bc
  have bg1 := bG.1
  have e9 := smC_add (H := H) (H1 := t.heap) (n := s.heap.size) hc.1 (by omega) bc
  refine W.tightC (by omega) (by omega) (kk w τ t.heap locs1 hq ⟨⟨bP, hP2.kept (fun k x hx => hkeep _ (hP2 k x hx).lt (fun z => ?_))⟩, bA, ⟨bD.weaken (fun _ q _ hq => hF q.1 hq), hD2⟩, fun i j x y hx hy => ?_⟩ hS1 bG)
  · rcases z with ⟨i, e', z⟩ | z
    · exact hap i k _ x z hx rfl
    · have := (hP2 k x hx).lt
      omega
  · intro z
    have hl := (hP2 j y hy).lt
    rcases bD.2 i x hx with ⟨i', e', z'⟩ | z'
    · exact hap i' j _ y z' hy z
    · omega
theorem callR2 {D : va_G} {h : Nat} {ad : Nat → Nat} {cA : Nat → ClassId} {σ : RS} {pc : Nat} {post : Option Value → RS → Prop} {ls : Array Slot} {rest st0 : List Value} {a : Array Value} {A0 : Nat → Prop} {H0 : Heap} {free : Addr → Prop}
    (hr : va_Run p l e R s m args below meth c H locs cells slots 0 0 (F0 m pc ls st0) rest (rQc D h ad cA σ H.size post a) free) (hS : va_S A0 H0 H locs) (hA : ∀ q, va_A (RW h ad cA σ) H.size q → A0 q) (hf : ∀ q, free q → A0 q)
    (kk : ∀ (r : Option Value) (τ : RS) (t : State), post r τ → rPost D h ad cA σ H.size τ t → H.size ≤ t.heap.size → (∀ q : Nat, q < H.size → ¬ va_A (RW h ad cA σ) H.size q → t.heap[q]? = H[q]?) → ∀ (locs1 : List Loc), va_S A0 H0 t.heap locs1 → W p l e R s m args below meth c t.heap locs1 cells slots Q (F0 m (pc + 3) ls ((r.map (rcv h ad)).toList ++ rest))) : W p l e R s m args below meth c H locs cells slots Q (F0 m pc ls st0) := by
  intro T hT X
  obtain ⟨v, st₀, t, T', L, h0, X', hL, e1, e2, ⟨⟨r, u, hv, hp, hb⟩, hz, hk⟩, st⟩ := hr T hT X
  cases hv
  rw [h0] at hz hk
  obtain ⟨t2, a1, b1⟩ := kk r u t hp hb hz hk (locs ++ L)
    ⟨Nat.le_trans hS.1 hz, fun q h1 h2 => by rw [hk q (Nat.lt_of_lt_of_le h1 hS.1) (fun z => h2 (hA q z))]; exact hS.2.1 q h1 h2, fun q hq => by
      rcases List.mem_append.mp hq with h | h
      · exact hS.2.2 q h
      · exact hf _ (hL q h)⟩ T' e1 X'
  exact ⟨t2, st t2 a1, b1⟩
theorem lwR {A0 : Nat → Prop} {D : va_G} {ad : Nat → Nat} {kA : Nat → ClassId} {σ : CsC} {h : Nat} {ad2 : Nat → Nat} {cA : Nat → ClassId} {ρ : RS} {cc : ByteArray} {nL : Nat} {Ts : List Cond} {own : String} {lv μ j pc : Nat} {P : RP} {Qm : RQ} {row : RM} {As : List Value} {rest : List Value} {ls : Array Slot}
    (S : CallFix p m c cc nL s args Ts own) (hM : RMet l lv μ P Qm) (hr : mtab[μ]? = some row) (hgood : GoodIn Ts (wsV own j RX12 row.1 (wC row :: wG)))
    (hroom : lv + 1 ≤ R.frames ∧ 8 + (row.2.2.1 + 11) + 100 * lv ≤ R.locals) (hw : LwI A0 D ad kA σ h ad2 cA ρ H) (hS : va_S A0 s.heap H locs) (hA : ∀ q, s.heap.size ≤ q → A0 q) (hK : va_K D vwCl (RT cA) s)
    (hPre : P As ρ) (hlen : As.length = row.2.2.2.2)
    (hsize : ls.size = nL) (hcs : (rest.map fun v => v.category).sum ≤ 8) (hd : decode cc pc = .ok (.invokevirtual j, 3)) (hf : cells ≤ R.cells ∧ slots ≤ R.slots)
    (kk : ∀ (w : Option Value) (τ : RS) (H1 : Heap) (locs1 : List Loc), Qm As ρ w τ → LwI A0 D ad kA σ h ad2 cA τ H1 → va_S A0 s.heap H1 locs1 → W p l e R s m args below meth c H1 locs1 cells slots Q (F0 m (pc + 3) ls ((w.map (rcv h ad2)).toList ++ rest))) :
    W p l e R s m args below meth c H locs cells slots Q (F0 m pc ls ((As.map (rcv h ad2)).reverse ++ .ref h :: rest)) := by
  obtain ⟨⟨hP, hP2⟩, hAd, ⟨hD, hD2⟩, hap⟩ := hw
  obtain ⟨row', hr', hM⟩ := hM
  obtain rfl : row' = row := Option.some.inj (hr'.symm.trans hr)
  obtain ⟨hc1, hc2, hc3⟩ := mtab_ok μ (List.getElem?_eq_some_iff.mp hr).1 row' hr
  have hF : ∀ q, va_A (RW h ad2 cA ρ) H.size q → A0 q := va_freeAll hD2 hS hA
  refine W.knowC (fun hc hsm _ => ?_)
  refine W.tightC (cells' := H.size - s.heap.size) (slots' := smC H s.heap.size) (by omega) (Nat.le_refl _) ?_
  refine callR2 (va_runV (As := As.map (rcv h ad2)) (rest := rest) S (hM D h ad2 cA ρ H.size As hPre) (cwV row'.2.2.2.2 S.2.2.2.2 hgood rfl rfl rfl ⟨hc1, by rw [hc1]; decide, by rw [hc1]; decide, hc2⟩ hroom)
    ⟨fun a U g mk q => by obtain ⟨q0, q1, qP, qK, qD⟩ := q; exact ⟨q0, q1, qP, va_K.moved (u := U) (U := U.calling g mk a) (Vm.Alike.refl U.vm) qK, qD⟩, va_recv hK hP2 (ci := 13) (q0 := 0) rfl RW_obj, fun U hU hW => ⟨rfl, by rw [hU], by rw [hU]; exact hP2, va_K.moved hW.alike hK, hD2.weaken (fun _ _ _ _ => trivial)⟩⟩
    rfl (by rw [List.length_map]; exact hlen) hsize rfl (lv_room hcs) hd ⟨by omega, by omega⟩) hS hF hF (fun w τ t hq hB hle hkeep locs1 hS1 => ?_)
  obtain ⟨bP, -, bD⟩ := hB
  refine W.knowC (fun hc2 hsm2 _ => ?_)
  have hsz : t.heap.size = H.size := by omega
  refine W.tightC (by omega) (by omega) (kk w τ t.heap locs1 hq ⟨⟨hP.kept (fun k x hx => hkeep _ (hP k x hx).lt (fun z => ?_)), bP⟩, by rw [hsz]; exact hAd, ⟨hD, bD.weaken (fun _ q _ hq => hF q.1 hq)⟩, fun i j x y hx hy => ?_⟩ hS1)
  · rcases z with ⟨i, e', z⟩ | z
    · exact hap k i x _ hx z rfl
    · have := (hP k x hx).lt
      omega
  · intro z
    have hl := (hP i x hx).lt
    rcases bD.2 j y hy with ⟨i', e', z'⟩ | z'
    · exact hap i i' x _ hx z' z
    · omega
end LWS
