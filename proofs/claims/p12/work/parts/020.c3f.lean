theorem cwC_rw {ad : Nat → Nat} {kA : Nat → ClassId} {σ : CsC} {a t : Nat} (h : RwC σ a t) (ht : 100 ≤ t) : (CwC ad kA σ)[a]? = some (ad a, .inl (kA t, rdtC ad σ a t)) := (CwC_at h.1).trans (by rw [entC_rw h ht])
theorem hoC_rf {ad : Nat → Nat} {f : Nat → Option Nat} {j : Nat} {w : Option Nat} : (fun i => (va_up f j w i).map ad) = va_up (fun i => (f i).map ad) j (w.map ad) := by
  funext i
  unfold va_up
  split <;> rfl
theorem vnC {c : Nat} (hc : c = 2 ∨ c = 6 ∨ c = 9 ∨ c = 11) : c < 13 := by omega
/-- an object that a list may hold -/
theorem anyC {ad : Nat → Nat} {kA : Nat → ClassId} {D : va_G} {σ : CsC} {A : Nat → Prop} {s : State} {H H' : Heap} {b c : Nat} (hKt : va_K D vwCl (tyC kA) s) (hP : va_P D vwCl (CwC ad kA σ) H) (hEv : evC ad A s H') (hc : c = 2 ∨ c = 6 ∨ c = 9 ∨ c = 11) (hob : ObC σ b c) : va_Any "java/lang/Object" s H (ad b) := by
  refine va_rAny (q0 := b) hKt hP ((CwC_at hob.1).trans (by rw [entC_ob hob])) (vwC_at (vnC hc)) ?_
  have h := hEv.2.2.2.2.1.2.2.2 c hc
  exact fun comp c0 h1 h2 => vb_asgC h comp c0 h1 h2
section CSO
variable {p : Program} {l : Launch} {e : Env} {s : State} {m : MethodId} {args : Array Value} {below : List Frame} {meth : Method} {c : Code}
set_option maxHeartbeats 8000000 in
theorem cst_ok3 {lev own nL : Nat} {cc : ByteArray} {ret : Option FieldType} {ini : Bool} {D : va_G} {ad : Nat → Nat} {kA : Nat → ClassId} {σ0 : CsC} {Z : Option AvC → CsC → Prop} {Ts : List Jvm.Cond} {ct : CcC} {K k : CkC}
    (hE : eEC p s m args meth c cc own nL lev ret ini D ad kA σ0 Ts) (hct : ∀ q ∈ ct, ∃ lv, lv < lev ∧ CMetC l lv q.1 q.2.1 q.2.2)
    (hK : ∀ pc ls st σ, K pc ls st σ → gGC p l e s m args below meth c lev nL D ad kA σ0 Z pc ls st σ)
    {x : RI} {pc : Nat} (hok : cokC cc own nL ret ini x pc = true) (hk : ∀ ls st σ, k (pc + x.2.1) ls st σ → gGC p l e s m args below meth c lev nL D ad kA σ0 Z (pc + x.2.1) ls st σ)
    {ls : ClC} {st : List AvC} {σ : CsC} (hw : cstC ct K Z x pc ls st σ k) (hsel : ccsC x.1 = 3) : gGC p l e s m args below meth c lev nL D ad kA σ0 Z pc ls st σ := by
  obtain ⟨hx, hb, hml, hr, hlocks, hown, hts, hG, hKt, hEv, hin, hlv1, hAd⟩ := hE
  intro H locs a hl hP hD hS hg
  obtain ⟨i, len, q1, q2, cs⟩ := x
  dsimp only at hk hsel
  unfold cokC at hok
  rw [Bool.and_eq_true] at hok
  obtain ⟨hd, hok⟩ := hok
  replace hd : decode cc pc = .ok (i, len) := of_decide_eq_true hd
  cases i with
  | iaload =>
    dsimp only [cok2C] at hok
    dsimp only [cstC] at hw
    obtain rfl : len = 1 := by simpa using hok
    split at hw
    next j v r =>
      obtain ⟨b, rfl, hw⟩ := hw
      rcases hw with ⟨hrw, hin, hw⟩ | ⟨rfl, hin, hw⟩ | ⟨rfl, hin, hw⟩
      · exact va_iald hx hb hKt hP b 0 (cwC_rw hrw (by decide)) rfl hin hd (hk _ _ _ hw H locs a hl hP hD hS hg)
      · exact va_ti hx hb hEv.2.2.1.2 hS hin rfl hd (hk _ _ _ hw H locs a hl hP hD hS hg)
      · exact va_ti hx hb hEv.2.2.2.1.2 hS hin rfl hd (hk _ _ _ hw H locs a hl hP hD hS hg)
    next => exact hw.elim
  | baload =>
    dsimp only [cok2C] at hok
    dsimp only [cstC] at hw
    obtain rfl : len = 1 := by simpa using hok
    split at hw
    next j v r =>
      obtain ⟨b, rfl, hrw, hin, hw⟩ := hw
      exact va_bald hx hb hKt hP b 1 (cwC_rw hrw (by decide)) rfl hin hd (hk _ _ _ hw H locs a hl hP hD hS hg)
    next => exact hw.elim
  | laload =>
    dsimp only [cok2C] at hok
    dsimp only [cstC] at hw
    obtain rfl : len = 1 := by simpa using hok
    split at hw
    next j v r =>
      obtain ⟨b, rfl, hrw, hin, hw⟩ := hw
      exact va_lald hx hb hKt hP b 2 (cwC_rw hrw (by decide)) rfl hin hd (hk _ _ _ hw H locs a hl hP hD hS hg)
    next => exact hw.elim
  | iastore =>
    dsimp only [cok2C] at hok
    dsimp only [cstC] at hw
    obtain rfl : len = 1 := by simpa using hok
    split at hw
    next w j v r =>
      obtain ⟨b, rfl, hrw, hin, hw⟩ := hw
      refine va_iast hx hb hKt hP hD hS b 0 (cwC_rw hrw (by decide)) rfl hin hd (fun H2 lo2 hP2 hD2 hS2 => ?_)
      have e9 := (CwC_cr (ad := ad) (kA := kA) (σ := σ)).qI (f := upd (eIC σ b) j.toNatClampNeg w) hrw (Or.inl rfl)
      exact hk _ _ _ hw H2 lo2 a hl (by rw [← e9.eq]; exact hP2) (by rw [← e9.eq]; exact hD2) hS2 hg
    next => exact hw.elim
  | bastore =>
    dsimp only [cok2C] at hok
    dsimp only [cstC] at hw
    obtain rfl : len = 1 := by simpa using hok
    split at hw
    next w j v r =>
      obtain ⟨b, rfl, hrw, hin, hw⟩ := hw
      refine va_bast hx hb hKt hP hD hS b 1 (cwC_rw hrw (by decide)) rfl hin hd (fun H2 lo2 hP2 hD2 hS2 => ?_)
      have e9 := (CwC_cr (ad := ad) (kA := kA) (σ := σ)).qI (f := upd (eIC σ b) j.toNatClampNeg (vp_nar .byte w)) hrw (Or.inr rfl)
      exact hk _ _ _ hw H2 lo2 a hl (by rw [← e9.eq]; exact hP2) (by rw [← e9.eq]; exact hD2) hS2 hg
    next => exact hw.elim
  | lastore =>
    dsimp only [cok2C] at hok
    dsimp only [cstC] at hw
    obtain rfl : len = 1 := by simpa using hok
    split at hw
    next w j v r =>
      obtain ⟨b, rfl, hrw, hin, hw⟩ := hw
      refine va_last hx hb hKt hP hD hS b 2 (cwC_rw hrw (by decide)) rfl hin hd (fun H2 lo2 hP2 hD2 hS2 => ?_)
      have e9 := (CwC_cr (ad := ad) (kA := kA) (σ := σ)).qL (f := vp_updL (eLC σ b) j.toNatClampNeg w) hrw
      exact hk _ _ _ hw H2 lo2 a hl (by rw [← e9.eq]; exact hP2) (by rw [← e9.eq]; exact hD2) hS2 hg
    next => exact hw.elim
  | aaload =>
    dsimp only [cok2C] at hok
    dsimp only [cstC] at hw
    obtain rfl : len = 1 := by simpa using hok
    split at hw
    next j v r =>
      obtain ⟨b, t, rfl, hrw, ht, hin, hw⟩ := hw
      have e1 : ∀ z : Option Nat, cvC ad (.inr (.inr z)) = va_rf (z.map ad) := fun z => by cases z <;> rfl
      have h9 := hk _ _ _ hw H locs a hl hP hD hS hg
      rw [List.map_cons, e1] at h9
      have ha := cwC_rw (ad := ad) (kA := kA) hrw (by omega)
      rw [rdtC_r ht] at ha
      rcases ht with rfl | rfl | rfl
      · exact va_aldq hx hb hKt hP b 3 ha rfl hin hd h9
      · exact va_aldq hx hb hKt hP b 4 ha rfl hin hd h9
      · exact va_aldq hx hb hKt hP b 5 ha rfl hin hd h9
    next => exact hw.elim
  | arraylength =>
    dsimp only [cok2C] at hok
    dsimp only [cstC] at hw
    obtain rfl : len = 1 := by simpa using hok
    split at hw
    next v r =>
      obtain ⟨b, rfl, hw⟩ := hw
      rcases hw with ⟨hb1, h100, h105, hlt, hw⟩ | ⟨n, hbn, hw⟩
      rotate_left
      · have h9 := hk _ _ _ hw H locs a hl hP hD hS hg
        rcases hbn with ⟨rfl, rfl⟩ | ⟨rfl, rfl⟩ | ⟨rfl, rfl⟩
        · exact va_tlen hx hb hEv.2.1.2 hS rfl hd h9
        · exact va_tlen hx hb hEv.2.2.1.2 hS rfl hd h9
        · exact va_tlen hx hb hEv.2.2.2.1.2 hS rfl hd h9
      have ha := cwC_rw (ad := ad) (kA := kA) (σ := σ) (a := b) ⟨hb1, rfl⟩ h100
      have h9 := hk _ _ _ hw H locs a hl hP hD hS hg
      have ht : tgC σ b = 100 ∨ tgC σ b = 101 ∨ tgC σ b = 102 ∨ tgC σ b = 103 ∨ tgC σ b = 104 ∨ tgC σ b = 105 := by omega
      rcases ht with h | h | h | h | h | h <;> rw [h] at ha
      · exact va_alen hx hb hKt hP b 0 ha rfl rfl hd h9
      · exact va_alen hx hb hKt hP b 1 ha rfl rfl hd h9
      · exact va_alen hx hb hKt hP b 2 ha rfl rfl hd h9
      · exact va_alen hx hb hKt hP b 3 ha rfl rfl hd h9
      · exact va_alen hx hb hKt hP b 4 ha rfl rfl hd h9
      · exact va_alen hx hb hKt hP b 5 ha rfl rfl hd h9
    next => exact hw.elim
  | aastore =>
    dsimp only [cok2C] at hok
    dsimp only [cstC] at hw
    obtain rfl : len = 1 := by simpa using hok
    split at hw
    next w j v r =>
      obtain ⟨b, t, rfl, hrw, ht, hin, hho, hw⟩ := hw
      have ha := cwC_rw (ad := ad) (kA := kA) hrw (by omega)
      rw [rdtC_r ht] at ha
      have e9 := (CwC_cr (ad := ad) (kA := kA) (σ := σ)).qR (f := va_up (eRC σ b) j.toNatClampNeg w) hrw ht
      cases w with
      | none =>
        rcases ht with rfl | rfl | rfl
        · refine va_astqN hx hb hKt hP hD hS b 3 ha rfl hin hd (fun H2 lo2 hP2 hD2 hS2 => ?_)
          exact hk _ _ _ hw H2 lo2 a hl (by rw [← e9.eq, hoC_rf]; exact hP2) (by rw [← e9.eq, hoC_rf]; exact hD2) hS2 hg
        · refine va_astqN hx hb hKt hP hD hS b 4 ha rfl hin hd (fun H2 lo2 hP2 hD2 hS2 => ?_)
          exact hk _ _ _ hw H2 lo2 a hl (by rw [← e9.eq, hoC_rf]; exact hP2) (by rw [← e9.eq, hoC_rf]; exact hD2) hS2 hg
        · refine va_astqN hx hb hKt hP hD hS b 5 ha rfl hin hd (fun H2 lo2 hP2 hD2 hS2 => ?_)
          exact hk _ _ _ hw H2 lo2 a hl (by rw [← e9.eq, hoC_rf]; exact hP2) (by rw [← e9.eq, hoC_rf]; exact hD2) hS2 hg
      | some d =>
        rcases hho with ⟨rfl, hob⟩ | ⟨rfl, hob⟩ | ⟨rfl, ci, hci, hob⟩
        · refine va_astq hx hb hKt hP hD hS b 4 d 2 ha rfl ((CwC_at hob.1).trans (by rw [entC_ob hob])) (vwC_at (c := 2) (by decide)) hin hd (fun H2 lo2 hP2 hD2 hS2 => ?_)
          exact hk _ _ _ hw H2 lo2 a hl (by rw [← e9.eq, hoC_rf]; exact hP2) (by rw [← e9.eq, hoC_rf]; exact hD2) hS2 hg
        · refine va_astq hx hb hKt hP hD hS b 5 d 9 ha rfl ((CwC_at hob.1).trans (by rw [entC_ob hob])) (vwC_at (c := 9) (by decide)) hin hd (fun H2 lo2 hP2 hD2 hS2 => ?_)
          exact hk _ _ _ hw H2 lo2 a hl (by rw [← e9.eq, hoC_rf]; exact hP2) (by rw [← e9.eq, hoC_rf]; exact hD2) hS2 hg
        · refine va_astqM hx hb hKt hP hD hS b 3 ha rfl (anyC hKt hP hEv hci hob) hin hd (fun H2 lo2 hP2 hD2 hS2 => ?_)
          exact hk _ _ _ hw H2 lo2 a hl (by rw [← e9.eq, hoC_rf]; exact hP2) (by rw [← e9.eq, hoC_rf]; exact hD2) hS2 hg
    next => exact hw.elim
  | _ => first | exact hw.elim | (simp [ccsC] at hsel)
end CSO
