theorem rfdC {bs : RB} {pc : Nat} {is : List RI} (h : rfd bs pc = some is) : (pc, is) ∈ bs := by
  induction bs with
  | nil => cases h
  | cons q r ih =>
    unfold rfd at h
    cases hb : Nat.beq q.1 pc with
    | true =>
      rw [hb] at h
      have e1 : q.1 = pc := Nat.eq_of_beq_eq_true hb
      have e2 : q.2 = is := Option.some.inj h
      rw [← e1, ← e2]
      exact List.mem_cons_self
    | false =>
      rw [hb] at h
      exact List.mem_cons_of_mem _ (ih h)
section CSC
variable {p : Program} {l : Launch} {e : Env} {R : Room} {s : State} {m : MethodId} {args : Array Value} {below : List Frame} {meth : Method} {c : Code} {H : Heap} {locs : List Loc} {cells slots : Nat} {Q : State → Prop}
theorem callC {D : va_G} {ad : Nat → Nat} {kA : Nat → ClassId} {σ : CsC} {pc mc ms : Nat} {post : Option AvC → CsC → Prop} {ls : Array Slot} {rest st0 : List Value} {a : Array Value} {A0 : Nat → Prop} {H0 : Heap} {free : Addr → Prop}
    (hr : va_Run p l e R s m args below meth c H locs cells slots mc ms (F0 m pc ls st0) rest (cQcC D ad kA σ H.size post a) free) (hS : va_S A0 H0 H locs) (hA : ∀ q, va_A (CwC ad kA σ) H.size q → A0 q) (hf : ∀ q, free q → A0 q)
    (kk : ∀ (r : Option AvC) (τ : CsC) (t : State) (st : State), st.heap = H → s.vm.Alike t.vm → post r τ → cPostC D ad kA σ H.size τ st t → ∀ (locs1 : List Loc), va_S A0 H0 t.heap locs1 → W p l e R s m args below meth c t.heap locs1 (cells + mc) (slots + ms) Q (F0 m (pc + 3) ls ((r.map (cvC ad)).toList ++ rest))) : W p l e R s m args below meth c H locs cells slots Q (F0 m pc ls st0) := by
  intro T hT X
  obtain ⟨v, st₀, t, T', L, h0, X', hL, e1, e2, ⟨⟨r, u, hv, hp, hb⟩, hz, hk⟩, st⟩ := hr T hT X
  cases hv
  rw [h0] at hz hk
  obtain ⟨t2, a1, b1⟩ := kk r u t st₀ h0 (by rw [← e2]; exact X'.warmed.alike) hp hb (locs ++ L)
    ⟨Nat.le_trans hS.1 hz, fun q h1 h2 => by rw [hk q (Nat.lt_of_lt_of_le h1 hS.1) (fun z => h2 (hA q z))]; exact hS.2.1 q h1 h2, fun q hq => by
      rcases List.mem_append.mp hq with h | h
      · exact hS.2.2 q h
      · exact hf _ (hL q h)⟩ T' e1 X'
  exact ⟨t2, st t2 a1, b1⟩
end CSC
theorem mapC_to {ad : Nat → Nat} (w : Option AvC) (r : List AvC) : (w.toList ++ r).map (cvC ad) = (w.map (cvC ad)).toList ++ r.map (cvC ad) := by
  cases w <;> rfl
theorem blindC {D : va_G} {ad : Nat → Nat} {kA : Nat → ClassId} {σ : CsC} {sz : Nat} {As : List Value} (a : Array Value) (U : State) (g : JFrame) (mk : MethodId) (q : va_Pc As (fun U => cPreC D ad kA σ sz U) a U) : va_Pc As (fun U => cPreC D ad kA σ sz U) a (U.calling g mk a) := by
  obtain ⟨q0, q1, qP, qK, qD, qA, qE⟩ := q
  exact ⟨q0, q1, qP, va_K.moved (u := U) (U := U.calling g mk a) (Vm.Alike.refl U.vm) qK, qD, qA, evC.call (u := U) rfl qE⟩
section CSO
variable {p : Program} {l : Launch} {e : Env} {s : State} {m : MethodId} {args : Array Value} {below : List Frame} {meth : Method} {c : Code}
set_option maxHeartbeats 8000000 in
theorem cst_ok5 {lev own nL : Nat} {cc : ByteArray} {ret : Option FieldType} {ini : Bool} {D : va_G} {ad : Nat → Nat} {kA : Nat → ClassId} {σ0 : CsC} {Z : Option AvC → CsC → Prop} {Ts : List Jvm.Cond} {ct : CcC} {K k : CkC}
    (hE : eEC p s m args meth c cc own nL lev ret ini D ad kA σ0 Ts) (hct : ∀ q ∈ ct, ∃ lv, lv < lev ∧ CMetC l lv q.1 q.2.1 q.2.2)
    (hK : ∀ pc ls st σ, K pc ls st σ → gGC p l e s m args below meth c lev nL D ad kA σ0 Z pc ls st σ)
    {x : RI} {pc : Nat} (hok : cokC cc own nL ret ini x pc = true) (hk : ∀ ls st σ, k (pc + x.2.1) ls st σ → gGC p l e s m args below meth c lev nL D ad kA σ0 Z (pc + x.2.1) ls st σ)
    {ls : ClC} {st : List AvC} {σ : CsC} (hw : cstC ct K Z x pc ls st σ k) (hsel : ccsC x.1 = 5) : gGC p l e s m args below meth c lev nL D ad kA σ0 Z pc ls st σ := by
  obtain ⟨hx, hb, hml, hr, hlocks, hown, hts, hG, hKt, hEv, hin, hlv1, hAd⟩ := hE
  intro H locs a hl hP hD hS hg
  obtain ⟨i, len, q1, q2, cs⟩ := x
  dsimp only at hk hsel
  unfold cokC at hok
  rw [Bool.and_eq_true] at hok
  obtain ⟨hd, hok⟩ := hok
  replace hd : decode cc pc = .ok (i, len) := of_decide_eq_true hd
  cases i with
  | invokevirtual j =>
    dsimp only [cok2C] at hok
    dsimp only [cstC] at hw
    rw [Bool.and_eq_true] at hok
    obtain ⟨hl3, hok⟩ := hok
    obtain rfl : len = 3 := by simpa using hl3
    split at hw
    next hq9 =>
      rw [hq9] at hok
      simp only [Bool.and_eq_true, decide_eq_true_eq] at hok
      obtain ⟨rfl, rfl⟩ := hok
      split at hw
      next v r =>
        obtain ⟨b, rfl, hbb, hcs, hw⟩ := hw
        have h9 := hk _ _ _ hw H locs a hl hP hD hS hg
        have hrc : ∃ cell : Cell, H[ad b]? = some cell ∧ cell.vm.isStatics = false ∧ s.vm.findClass "[Ljava/lang/Object;" = some cell.cls := by
          have ha := cwC_rw (ad := ad) (kA := kA) hbb (by decide)
          exact ⟨_, hP b _ ha, rfl, va_nmO (hKt.2 3 _ rfl).2 rfl⟩
        exact va_getC hx hb (by rw [hml]; exact hl.1.symm) hown (hts _ (hG _ (cG_w (by simp [weC, owC])))) hEv.2.2.2.2.2.2.2.2.use (hts _ (hG _ (cG_w (by simp [weC])))) (hts _ (hG _ (cG_w (by simp [weC])))) (hts _ (hG _ (cG_w (by simp [weC])))) hEv.2.2.2.2.2.2.2.1 hrc hlv1 (by rw [csC_cat]; show csC r + 14 ≤ 100 * lev; omega) hd h9
      next => exact hw.elim
    next hq9 =>
    rw [hq9] at hok
    dsimp only at hok
    rw [Bool.and_eq_true] at hok
    obtain ⟨hm, hrow⟩ := hok
    replace hm := of_decide_eq_true hm
    split at hw
    next P Q hcq =>
      split at hw
      next b r hdr =>
        obtain ⟨hcs, hrc, hPre, hw⟩ := hw
        obtain ⟨lv, hlv, row, hr1, hM⟩ := hct _ (ctC_mem hcq)
        dsimp only at hr1 hM
        rw [hr1] at hrow
        simp only [Bool.and_eq_true, decide_eq_true_eq, Bool.not_eq_true'] at hrow
        obtain ⟨⟨⟨⟨hn, hcl⟩, h14⟩, hstat⟩, hni⟩ := hrow
        have hn2 : q1.toNat = row.2.2.2.2.1 := by omega
        generalize hAs : (st.take q1.toNat).reverse = As at hPre hw
        have hst : st = As.reverse ++ .inr (.inr (some b)) :: r := by
          rw [← hAs, List.reverse_reverse, ← hdr, List.take_append_drop]
        have hlen : As.length = row.2.2.2.2.1 := by
          rw [← hAs, List.length_reverse, List.length_take]
          have h1 : (st.drop q1.toNat).length = r.length + 1 := by rw [hdr]; rfl
          rw [List.length_drop] at h1
          omega
        have hstk : st.map (cvC ad) = (As.map (cvC ad)).reverse ++ .ref (ad b) :: r.map (cvC ad) := by
          rw [hst, List.map_append, List.map_reverse, List.map_cons]
          rfl
        have hcl9 : row.2.2.2.2.2.1 = 13 ∨ row.2.2.2.2.2.1 = 14 ∨ row.2.2.2.2.2.1 < 13 := by omega
        have hini : (Cond.initialized (owC row.2.2.2.2.2.1)) ∈ cGC := by
          by_cases h : row.2.2.2.2.2.1 < 13
          · exact cG_p h (by unfold wpC; simp)
          · rw [show row.2.2.2.2.2.1 = 13 by omega]
            exact cG_e (by simp [owC])
        have hrv : ∃ cell : Cell, H[ad b]? = some cell ∧ cell.vm.isStatics = false ∧ s.vm.findClass row.1.cls = some cell.cls := by
          rcases hrc with ⟨hob, h13⟩ | ⟨h13, hb1, hb2⟩
          · rw [hcl] at hob h13
            have h9 := va_recv hKt hP (vwC_at h13) ((CwC_at hob.1).trans (by rw [entC_ob hob]))
            rw [(mtC_ok q2 (mtC_lt hr1) row hr1).1]
            exact h9
          · have h9 := vk_recv (i := b - 1000003) hEv.1.1 (by omega) hS
            rw [show 1000003 + (b - 1000003) = b by omega] at h9
            rw [(mtC_ok q2 (mtC_lt hr1) row hr1).1, ← hcl, h13]
            exact h9
        have hμ : q2 < 253 := mtC_lt hr1
        obtain ⟨hc1, hc2, hc3, hc4, hc5⟩ := mtC_ok q2 hμ row hr1
        have hyn : ynC q2 = row.1 := by unfold ynC; rw [hr1]
        refine W.knowC (fun hc hsm _ => ?_)
        have hsz := szC hP hS hg hAd hc.2
        have hF : ∀ q, va_A (CwC ad kA σ) H.size q → va_A (CwC ad kA σ0) s.heap.size q := va_freeAll hD hS (fun q hq => Or.inr hq)
        have hgc := hg.cp
        have hg1 := hg.1
        have hg3 := hg.2.2
        have hgs : GrC σ σ := ⟨⟨Nat.le_refl _, Nat.le_refl _⟩, rfl, hg3⟩
        have hpre : ∀ U : State, U.heap = H → s.WarmedH U.vm → cPreC D ad kA σ H.size U := fun U hU hW => ⟨by rw [hU], by rw [hU]; exact hP, va_K.moved hW.alike hKt, hD.weaken (fun _ _ _ _ => trivial), hAd.to hg hsz, by rw [hU]; exact evC.pass hW hEv hS hF⟩
        have hroom : lv + 1 ≤ lev ∧ 8 + (row.2.2.1 + 11) + 100 * lv ≤ 100 * lev := ⟨hlv, by omega⟩
        have hgood : GoodIn Ts (wsV (owC own) j row.1.cls row.1 (wcC row :: cGC)) := by
          apply goodIn_sub
          · intro w hw
            apply hG
            unfold wsV at hw
            simp only [List.cons_append, List.nil_append, List.mem_cons] at hw
            rcases hw with rfl | rfl | rfl | rfl | rfl | hw
            · have := cG_m hm
              unfold wmC at this
              rw [hyn] at this
              exact this
            · exact cG_i hr1 hstat
            · have := cG_l hr1 hstat hni
              unfold wlC at this
              rw [← hc1] at this
              exact this
            · rw [hc1]
              exact hini
            · exact cG_c hr1
            · exact hw
          · unfold wsV
            simp only [List.cons_append, List.nil_append, List.all_cons]
            rw [cG_good]
            rfl
        have hPA : (.ref (ad b) :: As.map (cvC ad) : List Value) = (.inr (.inr (some b)) :: As : List AvC).map (cvC ad) := rfl
        rw [hstk]
        refine callC (va_runV (As := As.map (cvC ad)) (rest := r.map (cvC ad)) ⟨hx, hb, hml, hown, hts⟩ (hM D ad kA σ H.size (.inr (.inr (some b)) :: As) hPre hgs) (cwV row.2.2.2.2.1 hts hgood rfl rfl rfl ⟨rfl, hc2, hc3, hc4⟩ hroom)
          ⟨blindC, hrv, fun U hU hW => ⟨rfl, hpre U hU hW⟩⟩
          rfl (by rw [List.length_map]; exact hlen) hl.1 rfl (lv_room (by rw [csC_cat]; exact hcs)) hd ⟨by show _ ≤ cpC σ0 - cnC σ0; omega, by show _ ≤ spC σ0 - slC σ0; omega⟩)
          hS hF hF (fun w τ t st hst hvm hq hB locs1 hS1 => ?_)
        obtain ⟨⟨bP, bK, bD⟩, ⟨bA, bG, bs⟩, bm, bc⟩ := hB
        have h9 := hk _ _ _ (hw w τ hq) t.heap locs1 a hl bP (bD.weaken (fun _ q _ hq => hF q.1 hq)) hS1 (hg.tr bG)
        rw [mapC_to] at h9
        have bg1 := bG.1
        rw [hst] at bc
        have e9 := smC_add (H := H) (H1 := t.heap) (n := s.heap.size) hc.1 (by omega) bc
        exact W.tightC (by omega) (by omega) h9
      next => exact hw.elim
    next => exact hw.elim
  | invokespecial j =>
    dsimp only [cok2C] at hok
    dsimp only [cstC] at hw
    rw [Bool.and_eq_true] at hok
    obtain ⟨hl3, hok⟩ := hok
    obtain rfl : len = 3 := by simpa using hl3
    split at hw
    next hq9 =>
      rw [hq9] at hok
      split at hw
      next b r =>
        have hlk := hts _ (hG _ (cG_o (of_decide_eq_true hok)))
        exact W.objInit hx hb hown hlk (hts _ (hG _ (cG_e (by simp)))) (hts _ (hG _ (cG_e (by simp)))) rfl (by rw [hml]; exact hl.1) rfl hd hlv1 (by have := hw.1; rw [csC_cat]; show 2 * 0 + _ + 12 ≤ 100 * lev; omega) (hk _ _ _ hw.2 H locs a hl hP hD hS hg)
      next => exact hw.elim
    next hq9 =>
      rw [hq9] at hok
      dsimp only at hok
      rw [Bool.and_eq_true] at hok
      obtain ⟨hm, hrow⟩ := hok
      replace hm := of_decide_eq_true hm
      split at hw
      next P Q hcq =>
        split at hw
        next b r hdr =>
          obtain ⟨hcs, hPre, hw⟩ := hw
          obtain ⟨lv, hlv, row, hr1, hM⟩ := hct _ (ctC_mem hcq)
          dsimp only at hr1 hM
          rw [hr1] at hrow
          simp only [Bool.and_eq_true, Bool.or_eq_true, decide_eq_true_eq, Bool.not_eq_true'] at hrow
          obtain ⟨⟨⟨⟨hn, hnm⟩, h13⟩, hret⟩, hstat⟩ := hrow
          have hini : (Cond.initialized (owC row.2.2.2.2.2.1)) ∈ cGC := by
            rcases h13 with (h13 | h13) | h13
            · exact cG_p h13 (by unfold wpC; simp)
            · rw [h13]; exact cG_w (by simp [weC, owC])
            · rw [h13]; exact cG_w (by simp [weC, owC])
          have hn2 : q1.toNat = row.2.2.2.2.1 := by omega
          generalize hAs : (st.take q1.toNat).reverse = As at hPre hw
          have hst : st = As.reverse ++ .inr (.inr (some b)) :: r := by
            rw [← hAs, List.reverse_reverse, ← hdr, List.take_append_drop]
          have hlen : As.length = row.2.2.2.2.1 := by
            rw [← hAs, List.length_reverse, List.length_take]
            have h1 : (st.drop q1.toNat).length = r.length + 1 := by rw [hdr]; rfl
            rw [List.length_drop] at h1
            omega
          have hstk : st.map (cvC ad) = (As.map (cvC ad)).reverse ++ .ref (ad b) :: r.map (cvC ad) := by
            rw [hst, List.map_append, List.map_reverse, List.map_cons]
            rfl
          have hμ : q2 < 253 := mtC_lt hr1
          obtain ⟨hc1, hc2, hc3, hc4, hc5⟩ := mtC_ok q2 hμ row hr1
          have hyn : ynC q2 = row.1 := by unfold ynC; rw [hr1]
          refine W.knowC (fun hc hsm _ => ?_)
          have hsz := szC hP hS hg hAd hc.2
          have hF : ∀ q, va_A (CwC ad kA σ) H.size q → va_A (CwC ad kA σ0) s.heap.size q := va_freeAll hD hS (fun q hq => Or.inr hq)
          have hgc := hg.cp
          have hg1 := hg.1
          have hg3 := hg.2.2
          have hgs : GrC σ σ := ⟨⟨Nat.le_refl _, Nat.le_refl _⟩, rfl, hg3⟩
          have hpre : ∀ U : State, U.heap = H → s.WarmedH U.vm → cPreC D ad kA σ H.size U := fun U hU hW => ⟨by rw [hU], by rw [hU]; exact hP, va_K.moved hW.alike hKt, hD.weaken (fun _ _ _ _ => trivial), hAd.to hg hsz, by rw [hU]; exact evC.pass hW hEv hS hF⟩
          have hroom : lv + 1 ≤ lev ∧ 8 + (row.2.2.1 + 11) + 100 * lv ≤ 100 * lev := ⟨hlv, by omega⟩
          have hlk : (Cond.methodLink (owC own) j row.1).before args s = true := by
            have := hts _ (hG _ (cG_m hm))
            unfold wmC at this
            rw [hyn] at this
            exact this
          have hgood : GoodIn Ts (wcC row :: cGC) := by
            apply goodIn_sub
            · intro w hw
              apply hG
              rcases List.mem_cons.mp hw with rfl | hw
              · exact cG_c hr1
              · exact hw
            · rw [List.all_cons, cG_good]
              rfl
          rw [hstk]
          have hM2 := hM D ad kA σ H.size (.inr (.inr (some b)) :: As) hPre hgs
          refine callC (va_runI (As := As.map (cvC ad)) (rest := r.map (cvC ad)) ⟨hx, hb, hml, hown, hts⟩ hM2 (cwI row.2.2.2.2.1 hts hgood (by unfold wcC; rw [hret]) rfl rfl (by rw [hc1]; exact hts _ (hG _ hini)) hlk (hts _ (hG _ (cG_i hr1 hstat))) hnm ⟨hc2, hc3, hc4⟩ hroom)
            ⟨blindC, fun U hU hW => ⟨rfl, hpre U hU hW⟩⟩
            rfl (by rw [List.length_map]; exact hlen) hl.1 rfl (lv_room (by rw [csC_cat]; exact hcs)) hd ⟨by show _ ≤ cpC σ0 - cnC σ0; omega, by show _ ≤ spC σ0 - slC σ0; omega⟩)
            hS hF hF (fun w τ t st hst hvm hq hB locs1 hS1 => ?_)
          obtain ⟨⟨bP, bK, bD⟩, ⟨bA, bG, bs⟩, bm, bc⟩ := hB
          have h9 := hk _ _ _ (hw w τ hq) t.heap locs1 a hl bP (bD.weaken (fun _ q _ hq => hF q.1 hq)) hS1 (hg.tr bG)
          rw [mapC_to] at h9
          have bg1 := bG.1
          rw [hst] at bc
          have e9 := smC_add (H := H) (H1 := t.heap) (n := s.heap.size) hc.1 (by omega) bc
          exact W.tightC (by omega) (by omega) h9
        next => exact hw.elim
      next => exact hw.elim
  | invokestatic j =>
    dsimp only [cok2C] at hok
    dsimp only [cstC] at hw
    rw [Bool.and_eq_true] at hok
    obtain ⟨hl3, hrow⟩ := hok
    obtain rfl : len = 3 := by simpa using hl3
    split at hw
    next hq9 =>
      rw [hq9] at hrow
      simp only [Bool.and_eq_true, Bool.or_eq_true, decide_eq_true_eq] at hrow
      rcases hrow with ⟨rfl, rfl, rfl⟩ | ⟨rfl, hm⟩ | ⟨rfl, hm⟩
      rotate_left
      · rw [show Nat.beq 9996 9997 = false from rfl, show Nat.beq 9996 9996 = true from rfl] at hw
        dsimp only at hw
        split at hw
        next y v r =>
          have hlk : (Cond.methodLink (owC own) j Lib.Math.min.name).before args s = true := hts _ (hG _ (cG_m hm))
          exact va_mmin hx hb (by rw [hml]; exact hl.1.symm) hown hlk (hts _ (hG _ (cG_t (μ := 240) (r := (Lib.Math.min.name, Lib.Math.min.code, 2, some .int, 2, 14, true)) rfl rfl))) (hts _ (hG _ (cG_e (by simp)))) (hts _ (hG _ (cG_c (μ := 240) (r := (Lib.Math.min.name, Lib.Math.min.code, 2, some .int, 2, 14, true)) rfl))) hlv1 (by rw [csC_cat]; show csC r + 13 ≤ 100 * lev; have := hw.1; omega) (by have h1 := hg.2.2.1.1; have h2 := hg.cp; show _ ≤ cpC σ0 - cnC σ0; omega) (by have h1 := hg.2.2.1.2; have h2 := hg.cp; show _ ≤ spC σ0 - slC σ0; omega) hd (hk _ _ _ hw.2 H locs a hl hP hD hS hg)
        next => exact hw.elim
      · rw [show Nat.beq 9995 9997 = false from rfl, show Nat.beq 9995 9996 = false from rfl] at hw
        dsimp only at hw
        split at hw
        next y v r =>
          have hlk : (Cond.methodLink (owC own) j Lib.Math.max.name).before args s = true := hts _ (hG _ (cG_m hm))
          exact va_mmax hx hb (by rw [hml]; exact hl.1.symm) hown hlk (hts _ (hG _ (cG_t (μ := 252) (r := (Lib.Math.max.name, Lib.Math.max.code, 2, some .int, 2, 14, true)) rfl rfl))) (hts _ (hG _ (cG_e (by simp)))) (hts _ (hG _ (cG_c (μ := 252) (r := (Lib.Math.max.name, Lib.Math.max.code, 2, some .int, 2, 14, true)) rfl))) hlv1 (by rw [csC_cat]; show csC r + 13 ≤ 100 * lev; have := hw.1; omega) (by have h1 := hg.2.2.1.1; have h2 := hg.cp; show _ ≤ cpC σ0 - cnC σ0; omega) (by have h1 := hg.2.2.1.2; have h2 := hg.cp; show _ ≤ spC σ0 - slC σ0; omega) hd (hk _ _ _ hw.2 H locs a hl hP hD hS hg)
        next => exact hw.elim
      rw [show Nat.beq 9997 9997 = true from rfl] at hw
      dsimp only at hw
      split at hw
      next n dp w sp v r =>
        obtain ⟨b0, b1, rfl, rfl, hr0, hr1, ⟨h1, h2, h3⟩, ⟨h4, h5⟩, hel, hcs, hw⟩ := hw
        have ha0 := cwC_rw (ad := ad) (kA := kA) hr0 (by decide)
        rw [rdtC_r (by omega)] at ha0
        have ha1 := cwC_rw (ad := ad) (kA := kA) hr1 (by decide)
        rw [rdtC_r (by omega)] at ha1
        have e9 := (CwC_cr (ad := ad) (kA := kA) (σ := σ)).qR (f := va_cpy (eRC σ b0) (eRC σ b1) sp.toNatClampNeg dp.toNatClampNeg n.toNatClampNeg) hr1 (by omega)
        have ecp : (fun i => (va_cpy (eRC σ b0) (eRC σ b1) sp.toNatClampNeg dp.toNatClampNeg n.toNatClampNeg i).map ad) = va_cpy (fun i => (eRC σ b0 i).map ad) (fun i => (eRC σ b1 i).map ad) sp.toNatClampNeg dp.toNatClampNeg n.toNatClampNeg := by
          funext i
          unfold va_cpy
          split <;> rfl
        refine va_copyM (E0 := "java/lang/Object") (E1 := "java/lang/Object") hx hb (by rw [hml]; exact hl.1.symm) hown (hts _ (hG _ (cG_w (w := .methodLink "java/util/Arrays" 150 acN) (by simp [weC])))) (hts _ (hG _ (cG_w (w := .native acN) (by simp [weC])))) (hts _ (hG _ (cG_w (w := .static acN) (by simp [weC])))) (hts _ (hG _ (cG_w (w := .initialized "java/lang/System") (by simp [weC])))) hKt hP hD hS b0 b1 3 3 ha0 ha1 rfl rfl h1 h2 h3 h4 h5 (fun i hi y hy => ?_) hlv1 (by rw [csC_cat]; show csC r + (nativeFrameWords "java/lang/System" "arraycopy" 5 + 11) ≤ 100 * lev; have hn9 : nativeFrameWords "java/lang/System" "arraycopy" 5 ≤ 60 := (by decide); omega) hd (fun H2 lo2 hP2 hD2 hS2 => ?_)
        · have hh := hel i hi
          cases hq : eRC σ b0 (sp.toNatClampNeg + i) with
          | none => rw [hq] at hy; cases hy
          | some d0 =>
            rw [hq] at hh hy
            obtain rfl : ad d0 = y := Option.some.inj hy
            rcases hh with ⟨q, -⟩ | ⟨q, -⟩ | ⟨-, ci, hci, hob⟩
            · cases q
            · cases q
            · exact anyC hKt hP hEv hci hob
        · exact hk _ _ _ hw H2 lo2 a hl (by rw [← e9.eq, ecp]; exact hP2) (by rw [← e9.eq, ecp]; exact hD2) hS2 hg
      next => exact hw.elim
    next hq9 =>
    rw [hq9] at hrow
    dsimp only at hrow
    split at hw
    next P Q hcq =>
        obtain ⟨hsl, hcs, hPre, hw⟩ := hw
        obtain ⟨lv, hlv, row, hr1, hM⟩ := hct _ (ctC_mem hcq)
        dsimp only at hr1 hM
        rw [hr1] at hrow
        simp only [Bool.and_eq_true, Bool.or_eq_true, decide_eq_true_eq] at hrow
        obtain ⟨⟨hn, hstat⟩, hlk⟩ := hrow
        have hn2 : q1.toNat = row.2.2.2.2.1 := by omega
        generalize hAs : (st.take q1.toNat).reverse = As at hPre hw
        generalize hrs : st.drop q1.toNat = r at hcs hw
        have hst : st = As.reverse ++ r := by
          rw [← hAs, ← hrs, List.reverse_reverse, List.take_append_drop]
        have hstk : st.map (cvC ad) = (As.map (cvC ad)).reverse ++ r.map (cvC ad) := by
          rw [hst, List.map_append, List.map_reverse]
        have hlen : As.length = row.2.2.2.2.1 := by
          rw [← hAs, List.length_reverse, List.length_take]
          omega
        have hμ : q2 < 253 := mtC_lt hr1
        obtain ⟨hc1, hc2, hc3, hc4, hc5⟩ := mtC_ok q2 hμ row hr1
        have hyn : ynC q2 = row.1 := by unfold ynC; rw [hr1]
        refine W.knowC (fun hc hsm _ => ?_)
        have hsz := szC hP hS hg hAd hc.2
        have hF : ∀ q, va_A (CwC ad kA σ) H.size q → va_A (CwC ad kA σ0) s.heap.size q := va_freeAll hD hS (fun q hq => Or.inr hq)
        have hgc := hg.cp
        have hg1 := hg.1
        have hg3 := hg.2.2
        have hgs : GrC σ σ := ⟨⟨Nat.le_refl _, Nat.le_refl _⟩, rfl, hg3⟩
        have hpre : ∀ U : State, U.heap = H → s.WarmedH U.vm → cPreC D ad kA σ H.size U := fun U hU hW => ⟨by rw [hU], by rw [hU]; exact hP, va_K.moved hW.alike hKt, hD.weaken (fun _ _ _ _ => trivial), hAd.to hg hsz, by rw [hU]; exact evC.pass hW hEv hS hF⟩
        have hroom : lv + 1 ≤ lev ∧ 8 + (row.2.2.1 + 11) + 100 * lv ≤ 100 * lev := ⟨hlv, by omega⟩
        have hgood : GoodIn Ts (wcC row :: cGC) := by
          apply goodIn_sub
          · intro w hw
            apply hG
            rcases List.mem_cons.mp hw with rfl | hw
            · exact cG_c hr1
            · exact hw
          · rw [List.all_cons, cG_good]
            rfl
        have hini : Cond.initialized row.1.cls ∈ cGC := by
          rw [hc1]
          by_cases h : row.2.2.2.2.2.1 < 13
          · exact cG_p h (by unfold wpC; simp)
          · rcases stC14 q2 hμ row hr1 hstat h with h | ⟨h1, h2⟩
            · rw [h]
              exact cG_e (by simp [owC])
            · have h3 : row.2.2.2.2.2.1 = 16 ∨ row.2.2.2.2.2.1 = 17 ∨ row.2.2.2.2.2.1 = 18 ∨ row.2.2.2.2.2.1 = 19 := by omega
              rcases h3 with h | h | h | h <;> (rw [h]; exact cG_w (by simp [weC, owC]))
        have hM2 := hM D ad kA σ H.size As hPre hgs
        have hrun : va_Run p l e (rmC lev σ0) s m args below meth c H locs (cnC σ - cnC σ0) (slC σ - slC σ0) (cpC σ - cnC σ) (spC σ - slC σ) (F0 m pc a ((As.map (cvC ad)).reverse ++ r.map (cvC ad))) (r.map (cvC ad)) (cQcC D ad kA σ H.size (Q As σ) (As.map (cvC ad)).toArray) (va_A (CwC ad kA σ) H.size) := by
          rcases hlk with hm | hm
          · refine va_runS (As := As.map (cvC ad)) (rest := r.map (cvC ad)) ⟨hx, hb, hml, hown, hts⟩ hM2 (va_cwS row.2.2.2.2.1 hts ?_ rfl rfl rfl ⟨hc2, hc3, hc4⟩ hroom) ⟨blindC, fun U hU hW => ⟨rfl, hpre U hU hW⟩⟩ rfl (by rw [List.length_map]; exact hlen) hl.1 rfl (lv_room (by rw [csC_cat]; exact hcs)) hd ⟨by show _ ≤ cpC σ0 - cnC σ0; omega, by show _ ≤ spC σ0 - slC σ0; omega⟩
            apply goodIn_sub
            · intro w hw
              apply hG
              unfold va_wsS at hw
              simp only [List.cons_append, List.nil_append, List.mem_cons] at hw
              rcases hw with rfl | rfl | rfl | rfl | hw
              · have := cG_m hm
                unfold wmC at this
                rw [hyn] at this
                exact this
              · exact cG_t hr1 hstat
              · exact hini
              · exact cG_c hr1
              · exact hw
            · unfold va_wsS
              simp only [List.cons_append, List.nil_append, List.all_cons]
              rw [cG_good]
              rfl
          · have hnl := hEv.2.2.2.2.2.2.1 _ hm
            dsimp only at hnl
            rw [hyn] at hnl
            exact va_runSN (As := As.map (cvC ad)) (rest := r.map (cvC ad)) ⟨hx, hb, hml, hown, hts⟩ hM2 ⟨va_cnB row.2.2.2.2.1 hts hgood rfl rfl rfl hnl (hts _ (hG _ hini)) ⟨hc2, hc3, hc4⟩ hroom, hts _ (hG _ (cG_t hr1 hstat)), trivial⟩ ⟨blindC, fun U hU hW => ⟨rfl, hpre U hU hW⟩⟩ rfl (by rw [List.length_map]; exact hlen) hl.1 rfl (lv_room (by rw [csC_cat]; exact hcs)) hd ⟨by show _ ≤ cpC σ0 - cnC σ0; omega, by show _ ≤ spC σ0 - slC σ0; omega⟩
        rw [hstk]
        refine callC hrun
          hS hF hF (fun w τ t st hst hvm hq hB locs1 hS1 => ?_)
        obtain ⟨⟨bP, bK, bD⟩, ⟨bA, bG, bs⟩, bm, bc⟩ := hB
        have h9 := hk _ _ _ (hw w τ hq) t.heap locs1 a hl bP (bD.weaken (fun _ q _ hq => hF q.1 hq)) hS1 (hg.tr bG)
        rw [mapC_to] at h9
        have bg1 := bG.1
        rw [hst] at bc
        have e9 := smC_add (H := H) (H1 := t.heap) (n := s.heap.size) hc.1 (by omega) bc
        exact W.tightC (by omega) (by omega) h9
    next => exact hw.elim
  | _ => first | exact hw.elim | (simp [ccsC] at hsel)
theorem cst_ok {lev own nL : Nat} {cc : ByteArray} {ret : Option FieldType} {ini : Bool} {D : va_G} {ad : Nat → Nat} {kA : Nat → ClassId} {σ0 : CsC} {Z : Option AvC → CsC → Prop} {Ts : List Jvm.Cond} {ct : CcC} {K k : CkC}
    (hE : eEC p s m args meth c cc own nL lev ret ini D ad kA σ0 Ts) (hct : ∀ q ∈ ct, ∃ lv, lv < lev ∧ CMetC l lv q.1 q.2.1 q.2.2)
    (hK : ∀ pc ls st σ, K pc ls st σ → gGC p l e s m args below meth c lev nL D ad kA σ0 Z pc ls st σ)
    {x : RI} {pc : Nat} (hok : cokC cc own nL ret ini x pc = true) (hk : ∀ ls st σ, k (pc + x.2.1) ls st σ → gGC p l e s m args below meth c lev nL D ad kA σ0 Z (pc + x.2.1) ls st σ)
    {ls : ClC} {st : List AvC} {σ : CsC} (hw : cstC ct K Z x pc ls st σ k) : gGC p l e s m args below meth c lev nL D ad kA σ0 Z pc ls st σ := by
  have h : ccsC x.1 = 1 ∨ ccsC x.1 = 2 ∨ ccsC x.1 = 3 ∨ ccsC x.1 = 4 ∨ ccsC x.1 = 5 := by
    unfold ccsC
    split <;> simp
  rcases h with h | h | h | h | h
  · exact cst_ok1 hE hct hK hok hk hw h
  · exact cst_ok2 hE hct hK hok hk hw h
  · exact cst_ok3 hE hct hK hok hk hw h
  · exact cst_ok4 hE hct hK hok hk hw h
  · exact cst_ok5 hE hct hK hok hk hw h
theorem cwp_ok {lev own nL : Nat} {cc : ByteArray} {ret : Option FieldType} {ini : Bool} {D : va_G} {ad : Nat → Nat} {kA : Nat → ClassId} {σ0 : CsC} {Z : Option AvC → CsC → Prop} {Ts : List Jvm.Cond} {ct : CcC} {K : CkC}
    (hE : eEC p s m args meth c cc own nL lev ret ini D ad kA σ0 Ts) (hct : ∀ q ∈ ct, ∃ lv, lv < lev ∧ CMetC l lv q.1 q.2.1 q.2.2)
    (hK : ∀ pc ls st σ, K pc ls st σ → gGC p l e s m args below meth c lev nL D ad kA σ0 Z pc ls st σ)
    (is : List RI) : ∀ (pc : Nat), cokBC cc own nL ret ini is pc = true → ∀ (ls : ClC) (st : List AvC) (σ : CsC), cwpC ct K Z is pc ls st σ → gGC p l e s m args below meth c lev nL D ad kA σ0 Z pc ls st σ := by
  induction is with
  | nil => intro pc _ ls st σ hw; exact hK _ _ _ _ hw
  | cons x is ih =>
    intro pc hok ls st σ hw
    unfold cokBC at hok
    rw [Bool.and_eq_true] at hok
    exact cst_ok hE hct hK hok.1 (fun ls st σ hk => ih _ hok.2 ls st σ hk) hw
end CSO
def cokMC (r : CmC) (bs : RB) : Bool := bs.all (fun b => cokBC r.2.1 r.2.2.2.2.2.1 r.2.2.1 r.2.2.2.1 (decide (r.1.name = "<init>")) b.2 b.1)
/-- a method's contract out of its blocks -/
theorem CMetC.of {l : Launch} {lev μ : Nat} {P : CpC} {Q : CqC} {r : CmC} (bs : RB) (ct : CcC) (hr : mtC[μ]? = some r) (hpl : plainName r.1.cls = true) (hlev : 1 ≤ lev) (hok : cokMC r bs = true) (hct : ∀ q ∈ ct, ∃ lv, lv < lev ∧ CMetC l lv q.1 q.2.1 q.2.2)
    (hlen : ∀ (As : List AvC) (σ : CsC), P As σ → lgC As ≤ r.2.2.1)
    (body : ∀ (As : List AvC) (σ : CsC), P As σ → GrC σ σ → ∀ G : CkC, (∀ (pc : Nat) (ls : ClC) (st : List AvC) (τ : CsC), cgoC bs ct G (Q As σ) pc ls st τ → G pc ls st τ) → (∀ (pc : Nat) (ls ls' : ClC) (st : List AvC) (τ : CsC), (∀ q ∈ ls, q ∈ ls') → G pc ls st τ → G pc ls' st τ) → G 0 (agC 0 As) [] σ) : CMetC l lev μ P Q := by
  refine ⟨r, hr, fun D ad kA σ sz As hP hgs => ?_⟩
  obtain ⟨hc1, -, -, -, -⟩ := mtC_ok μ (mtC_lt hr) r hr
  refine Met.ofW (cc := r.2.1) (maxL := r.2.2.1) (ret := r.2.2.2.1) hpl rfl ?_
  intro p e s m args below meth c s₁ B hml hv
  obtain ⟨rfl, hsz, hPw, hKt, hD0, hA, hEv⟩ := hv
  subst hsz
  have hts := atoms_spec (ws := wcC r :: cGC) B.pre
  have hown : s.vm.findClass (owC r.2.2.2.2.2.1) = some m.cls := by rw [← hc1]; exact findClass_of_methodNamed B.named
  have hE : eEC p s m ((As.map (cvC ad)).toArray) meth c r.2.1 r.2.2.2.2.2.1 r.2.2.1 lev r.2.2.2.1 (decide (r.1.name = "<init>")) D ad kA σ (wcC r :: cGC) := ⟨B.exec, B.bytes, hml, B.returns, B.notSynchronized, hown, hts, fun w hw => List.mem_cons_of_mem _ hw, hKt, hEv, fun h => ((name_of_methodNamed B.named B.method).1).trans (of_decide_eq_true h), hlev, hA⟩
  have hD := hD0.self (sz := s.heap.size)
  have hl := lv_entry (As.map (cvC ad)) (n := r.2.2.1) (by rw [lgC_len]; exact hlen As σ hP)
  rw [lg_entry_eq]
  have hb := body As σ hP hgs (gGC p l e s m ((As.map (cvC ad)).toArray) below meth c lev r.2.2.1 D ad kA σ (Q As σ))
    (fun pc ls st τ hw => by
      unfold cgoC at hw
      split at hw
      next is hi => exact cwp_ok hE hct (fun _ _ _ _ q => q) is pc (List.all_eq_true.mp hok (pc, is) (rfdC hi)) ls st τ hw
      next => exact hw.elim)
    (fun pc ls ls' st τ hs hg H locs a hl hP hD hS hgr => hg H locs a ⟨hl.1, hl.2.1, fun q hq => by
      obtain ⟨z, hz, rfl⟩ := List.mem_map.mp hq
      exact hl.2.2 _ (List.mem_map.mpr ⟨z, hs z hz, rfl⟩)⟩ hP hD hS hgr)
  have h9 := hb s.heap [] _ (by rw [agC_eq]; exact hl) hPw hD va_S.rf hgs
  rw [Nat.sub_self, Nat.sub_self] at h9
  exact h9
