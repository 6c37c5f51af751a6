theorem fRi0 {ad ad' : Nat → Nat} : fRi 0 ad S0 = fRi 0 ad' S0 := by
  unfold fRi
  apply List.map_congr_left
  intro k hk
  unfold fvi
  by_cases q : kd k < 3 ∨ ap k < 0
  · rw [if_pos q, if_pos q]
    unfold fv
    have z : kd k = 0 ∨ kd k = 1 ∨ kd k = 2 := by omega
    rcases z with z | z | z <;> rw [z] <;> rfl
  · rw [if_neg q, if_neg q]
theorem fRi0_ok {ad : Nat → Nat} : ∀ j, j < 150 → defaultValue (tyX12 j) = vp_V (fRi 0 ad S0) j := by
  intro j hj
  rw [fRi0 (ad' := fun _ => 0)]
  exact (by decide +kernel : ∀ j, j < 150 → defaultValue (tyX12 j) = vp_V (fRi 0 (fun _ => 0) S0) j) j hj
theorem in_X12n : ∀ w ∈ ww_X12n, w ∈ lw_tbl := by
  unfold ww_X12n
  exact List.forall_mem_cons.mpr ⟨sw_c12, List.forall_mem_append.mpr ⟨List.forall_mem_cons.mpr ⟨sw_o12, List.forall_mem_cons.mpr ⟨in_cGC _ (cG_e (by simp)), List.forall_mem_cons.mpr ⟨in_cGC _ (cG_e (by simp)), List.forall_mem_cons.mpr ⟨sw_aI, List.forall_mem_cons.mpr ⟨sw_aB, List.forall_mem_cons.mpr ⟨sw_aL, fun _ h => absurd h List.not_mem_nil⟩⟩⟩⟩⟩⟩, in_wG⟩⟩
theorem good_X12n : GoodIn lw_tbl ww_X12n := goodIn_sub in_X12n (by
  unfold ww_X12n
  rw [List.all_cons, List.all_append, wG_good]
  rfl)
set_option maxHeartbeats 4000000 in
set_option maxRecDepth 100000 in
/-- THE LAW, from its entry -/
theorem whole_start {p : Program} {e : Env} {s : State} {m : MethodId} {below : List Frame} {meth : Method} {c : Code} (l : Launch) {b L : Nat} {xs : Nat → Int32} (hL : L ≤ 3072) (C0 : lw_At p s m meth c b L xs) : W p l e room_1 s m #[Value.ref b] below meth c s.heap [] 0 0 (lw_Z below #[Value.ref b] s) (entryFrame m ([Value.ref b] : List Value).toArray 4) := by
  obtain ⟨hx, hb, hr, hml, hown, hts0, hX, hbl, hlocks, hgv⟩ := id C0
  obtain ⟨g, hg⟩ := ev0C hts0 hgv
  obtain ⟨D, kA, cA, hK1, hK2⟩ := kn0C hts0
  obtain ⟨A, hAe⟩ : ∃ A : Nat → Prop, A = (fun q : Nat => s.heap.size ≤ q) := ⟨_, rfl⟩
  obtain ⟨ad, hade⟩ : ∃ ad : Nat → Nat, ad = (fun i => if i < 62 then s.heap.size + i else if i < 1000000 then s.heap.size + 99 + i else g i) := ⟨_, rfl⟩
  have ad1 : ∀ i, i < 62 → ad i = s.heap.size + i := fun i hi => by
    rw [hade]; dsimp only; rw [if_pos hi]
  have ad2 : ∀ i, 62 ≤ i → i < 1000000 → ad i = s.heap.size + 99 + i := fun i h1 h2 => by
    rw [hade]; dsimp only; rw [if_neg (by omega), if_pos h2]
  have hEv : evC ad A s s.heap := by
    rw [hAe]
    exact hg ad (fun i hi => by rw [hade]; dsimp only; rw [if_neg (by omega), if_neg (by omega)])
  have hA : ∀ q : Nat, s.heap.size ≤ q → A q := by rw [hAe]; exact fun _ h => h
  have hAd : ∀ q : Nat, A q → s.heap.size ≤ q := by rw [hAe]; exact fun _ h => h
  clear hAe hade hg
  have hbA : ¬ A b := fun h => Nat.not_le.mpr hbl (hAd b h)
  have S : CallFix p m c cL_law 4 s #[Value.ref b] lw_tbl RZL := ⟨hx, hb, hml, hown, hts0⟩
  have C : LcX p s m #[Value.ref b] c b L xs lw_tbl A D ad kA cA := ⟨S, ⟨hX, hbl, hbA, hL⟩, hA, ⟨hK1, hK2, hEv⟩, in_cGC, in_wG, in_lwL⟩
  have hS : va_S A s.heap s.heap [] := va_S.rf
  have hP0 : va_P D vwCl [] s.heap := fun k q h => by simp at h
  have hD0 : va_D A [] := ⟨fun i j p q h => by simp at h, fun k q h => by simp at h⟩
  have hl := lv_entry ([.ref b]) (n := 4) (Nat.le_of_ble_eq_true rfl)
  rw [lg_entry_eq]
  generalize (lg_sl ([.ref b]) ++ List.replicate (4 - (lg_sl ([.ref b])).length) Slot.unset).toArray = ls at hl ⊢
  have hl : lv_has ls 4 [(0, .ref b)] := hl
  refine va_new (D := D) (ci := 12) (fs := dflC 12) (C := owC 12) (T := TcC 12) (N := nfC 12) hx hb hts0 (fun w hw => in_cGC _ (cG_z (by decide) (vwC_at (c := 12) (by decide)) hw)) (tycC 12) (tycC_ok (by decide)) hown (hts0 _ sw_l7) (hts0 _ (in_cGC _ (cG_p (i := 12) (by decide) (w := .instantiable (owC 12) (nfC 12)) (by unfold wpC; simp)))) (hts0 _ (in_cGC _ (cG_p (i := 12) (by decide) (w := .initialized (owC 12)) (by unfold wpC; simp)))) hK1 hP0 hD0 hS hA (vwC_at (c := 12) (by decide)) (dflC_ok (by decide)) (Nat.le_of_ble_eq_true rfl) (Nat.le_of_ble_eq_true rfl) dL_law_0 (fun q1 H2 hP2 hD2 hS2 => ?_)
  refine W.knowC (fun hc2 _ _ => ?_)
  have h1 := (hP2 0 _ rfl).lt
  have h2 := hAd _ (hD2.2 0 _ rfl)
  dsimp only at h1 h2
  have hz2 : H2.size = s.heap.size + 1 := by omega
  obtain rfl : q1 = ad 0 := by rw [ad1 0 (by decide)]; omega
  replace hP2 : va_P D vwCl (CwC ad kA (st1C 62 23848)) H2 := by rw [st1C_w]; exact hP2
  replace hD2 : va_D A (CwC ad kA (st1C 62 23848)) := by rw [st1C_w]; exact hD2
  refine W.widen (k := 1) (n := 13) (Nat.le_of_ble_eq_true rfl) (Nat.le_of_ble_eq_true rfl) ?_
  refine lv_dup hx hb dL_law_3 rfl ?_
  have hgs : GrC (st1C 62 23848) (st1C 62 23848) := ⟨⟨Nat.le_refl _, Nat.le_refl _⟩, rfl, ⟨by show 1 ≤ 62; decide, by show 13 ≤ 23848; decide⟩, by show 62 ≤ 1000000; decide⟩
  have hAd2 : AdC ad (st1C 62 23848) H2.size := by
    intro i hi1 hi2
    replace hi1 : 1 ≤ i := hi1
    replace hi2 : i < 62 := hi2
    show ad i = H2.size + (i - 1)
    rw [ad1 i hi2]
    omega
  refine lwCi (b := 0) (P := P_X11_init) (Qm := (EvQ (13 + 1) 200 (fun As σ w τ => Q_X11_init As σ w τ ∧ U_ini11 As σ w τ))) (rest := [.ref (ad 0)]) S (v9_ini11 l) hX11_init in_cGC sw_l9 rfl (by decide) rfl rfl (by decide) hP2 hD2 hAd2 hS2 hA hK1 hEv hgs st1C_pre rfl hl.1 (Nat.le_of_ble_eq_true rfl) dL_law_4 ⟨by show 1 + (62 - 1) ≤ 600000; decide, by show 13 + (23848 - 13) ≤ 7302250; decide⟩ (fun w τ H3 locs3 hq hP3 hD3 hAd3 hS3 hgr hsz3 => ?_)
  have hcn : cnC τ = 62 ∧ slC τ = 23848 := by
    obtain ⟨-, -, -, -, -, h1, h2, -⟩ := id hq.1.1
    exact ⟨h1, h2⟩
  have hW2 := W2C.new hq.1.2
  have hJp := JpC.new hq.1.2 hq.1.1.2.1 hq.1.1.2.2.2.1
  have hJd := JqD.new hq.2 hq.1.1.2.1 hq.1.1.2.2.2.1
  obtain ⟨rfl, hI, hJ8, hJ9⟩ := IvL.new hq.1.1
  have hz3 : H3.size = s.heap.size + 62 := by
    have e : cnC (st1C 62 23848) = 1 := rfl
    rw [hsz3, hcn.1, e]
    omega
  refine W.widen (k := 62) (n := 23848) (by rw [hcn.1]; show 1 + (62 - 1) ≤ 62; decide) (by rw [hcn.2]; show 13 + (23848 - 13) ≤ 23848; decide) ?_
  refine W.eq (g2 := F0 m 7 ls [.ref (ad 0)]) rfl ?_
  clear hq hAd3 hgr hsz3 hP2 hD2 hAd2 hS2 hgs
  refine lv_astore_n (lv' := [(1, .ref (ad 0)), (0, .ref b)]) hx hb dL_law_7 rfl hl (by decide) rfl (fun ls5 hl5 => ?_)
  obtain ⟨adr, hadr⟩ : ∃ adr : Nat → Nat, adr = (fun k => s.heap.size + 63 + ap k) := ⟨_, rfl⟩
  refine va_new (D := D) (ci := 13) (fs := fRi 0 adr S0) (C := RX12) (T := TX12) (N := 150) hx hb hts0 (fun w hw => in_wG _ (wG_T hw)) tyX12 tyX12_ok hown (hts0 _ sw_l10) (hts0 _ sw_n13) (hts0 _ (in_wG _ List.mem_cons_self)) hK1 hP3 hD3 hS3 hA rfl fRi0_ok (Nat.le_of_ble_eq_true rfl) (Nat.le_of_ble_eq_true rfl) dL_law_8 (fun q6 H7 hP7 hD7 hS7 => ?_)
  refine W.knowC (fun hc7 _ _ => ?_)
  have hlen : (CwC ad kA τ).length = 62 := by rw [CwC_cr.1, hcn.1]
  have hl7 : (CwC ad kA τ ++ [(q6, (.inr (13, fRi 0 adr S0) : va_E))])[62]? = some (q6, .inr (13, fRi 0 adr S0)) := by
    rw [List.getElem?_append_right (by omega), hlen]
    rfl
  have ho7 : ∀ i, i < 62 → (CwC ad kA τ ++ [(q6, (.inr (13, fRi 0 adr S0) : va_E))])[i]? = some (ad i, entC ad kA τ i) := fun i hi => by
    rw [List.getElem?_append_left (by omega)]
    exact CwC_at (by rw [hcn.1]; exact hi)
  have g1 := (hP7 62 _ hl7).lt
  have g2 := hAd _ (hD7.2 62 _ hl7)
  dsimp only at g1 g2
  have hq6 : q6 = s.heap.size + 62 := by
    by_cases z : q6 < s.heap.size + 62
    · exfalso
      have hi : q6 - s.heap.size < 62 := by omega
      have := hD7.1 _ _ _ _ (ho7 _ hi) hl7 (by show ad _ = q6; rw [ad1 _ hi]; omega)
      omega
    · omega
  have hz7 : H7.size = s.heap.size + 63 := by omega
  refine W.widen (k := 63) (n := 23998) (Nat.le_of_ble_eq_true rfl) (Nat.le_of_ble_eq_true rfl) ?_
  refine lv_dup hx hb dL_law_11 rfl ?_
  have hPc : va_P D vwCl (CwC ad kA τ) H7 := fun k q hk => hP7 k q (by rw [List.getElem?_append_left (List.getElem?_eq_some_iff.mp hk).1]; exact hk)
  have hDc : va_D A (CwC ad kA τ) := hD3
  have hPr : va_P D vwCl (RWi 0 q6 adr cA S0) H7 := by
    intro k q hk
    have hk1 : k < 1 := (List.getElem?_eq_some_iff.mp hk).1
    obtain rfl : k = 0 := by omega
    cases hk
    exact hP7 62 _ hl7
  have hDr : va_D A (RWi 0 q6 adr cA S0) := by
    refine ⟨fun i j x y hx hy _ => ?_, fun k q hk => ?_⟩
    · have h1 : i < 1 := (List.getElem?_eq_some_iff.mp hx).1
      have h2 : j < 1 := (List.getElem?_eq_some_iff.mp hy).1
      omega
    · have hk1 : k < 1 := (List.getElem?_eq_some_iff.mp hk).1
      obtain rfl : k = 0 := by omega
      cases hk
      exact hD7.2 62 _ hl7
  have hVA : ∀ q, va_A (RWi 0 q6 adr cA S0) (s.heap.size + 63) q → s.heap.size + 62 ≤ q := by
    rintro q (⟨k, e, hk⟩ | hk)
    · have hk1 : k < 1 := (List.getElem?_eq_some_iff.mp hk).1
      obtain rfl : k = 0 := by omega
      have e1 : q6 = q := congrArg Prod.fst (Option.some.inj hk)
      omega
    · omega
  subst hadr
  refine va_callv (va_runI (As := []) (rest := [.ref q6]) S (c_X12n l D cA q6 (s.heap.size + 63)) (cwI 0 hts0 good_X12n rfl rfl rfl (hts0 _ (in_wG _ List.mem_cons_self)) (hts0 _ sw_l12) (hts0 _ sw_m12) rfl (by decide +kernel) ⟨Nat.le_of_ble_eq_true rfl, Nat.le_of_ble_eq_true rfl⟩) ⟨fun a U g mk q => by obtain ⟨q0, q1, qP, qK, qD⟩ := q; exact ⟨q0, q1, qP, va_K.moved (u := U) (U := U.calling g mk a) (Vm.Alike.refl U.vm) qK, qD⟩, fun U hU hW => ⟨rfl, by rw [hU]; exact hz7, by rw [hU]; exact hPr, va_K.moved hW.alike hK2, hDr.weaken (fun _ _ _ _ => trivial)⟩⟩ rfl rfl hl5.1 rfl (lv_room (Nat.le_of_ble_eq_true rfl)) dL_law_12 ⟨Nat.le_of_ble_eq_true rfl, Nat.le_of_ble_eq_true rfl⟩) hS7 (fun q _ h => hA q (by have := hVA q h; omega)) (fun q h => hA q (by have := hVA q h; omega)) (fun u9 t9 H9 lo9 ht9 hvm9 hw9 hB9 hz9 hk9 hS9 => ?_)
  obtain ⟨hP9, hD9, hs9⟩ := hB9
  rw [ht9] at hP9 hs9
  have hw : LwI A D ad kA (reR τ 150000 5000000) q6 (fun k => s.heap.size + 63 + ap k) cA S1n H9 := by
    refine ⟨⟨?_, hP9⟩, ?_, ⟨?_, hD9.weaken (fun _ q _ h => hA q.1 (by have := hVA q.1 h; omega))⟩, ?_⟩
    · rw [reR_w]
      refine hPc.kept (fun k x hx => hk9 _ (hPc k x hx).lt (fun z => ?_))
      have hk : k < 62 := by rw [← hlen]; exact (List.getElem?_eq_some_iff.mp hx).1
      rw [CwC_at (by rw [hcn.1]; exact hk)] at hx
      have e1 : ad k = x.1 := congrArg Prod.fst (Option.some.inj hx)
      have := hVA _ z
      rw [← e1, ad1 k hk] at this
      omega
    · intro i hi1 hi2
      replace hi1 : cnC τ ≤ i := hi1
      replace hi2 : i < 150000 := hi2
      show ad i = H9.size + (i - cnC τ)
      rw [hcn.1] at hi1 ⊢
      rw [ad2 i hi1 (by omega), hs9]
      omega
    · rw [reR_w]
      exact hDc
    · rw [reR_w]
      intro i j x y hx hy
      have hk : i < 62 := by rw [← hlen]; exact (List.getElem?_eq_some_iff.mp hx).1
      rw [CwC_at (by rw [hcn.1]; exact hk)] at hx
      have e1 : ad i = x.1 := congrArg Prod.fst (Option.some.inj hx)
      have := hVA _ (hD9.2 j y hy)
      rw [← e1, ad1 i hk]
      omega
  refine W.widen (k := cnC (reR τ 150000 5000000) + 200) (n := slC (reR τ 150000 5000000) + 200000) (by show 63 + 98 ≤ cnC τ + 200; rw [hcn.1]; decide) (by show 23998 + 142380 ≤ slC τ + 200000; rw [hcn.2]; decide) ?_
  refine W.eq (g2 := F0 m 15 ls5 [.ref q6]) rfl ?_
  refine lv_astore_n (lv' := [(2, .ref q6), (1, .ref (ad 0)), (0, .ref b)]) hx hb dL_law_15 rfl hl5 (by decide) rfl (fun ls10 hl10 => ?_)
  refine lv_iconst (v := 0) hx hb dL_law_16 (by decide) ?_
  refine lv_istore_n (lv' := [(3, .int 0), (2, .ref q6), (1, .ref (ad 0)), (0, .ref b)]) hx hb dL_law_17 rfl hl10 (by decide) rfl (fun ls11 hl11 => ?_)
  refine lloop C (fun σ ρ H locs ls n hn hw hS hI => ?_) 513 0 0 _ S1n H9 lo9 ls11 rfl rfl (by decide) hl11 hw hS9 hI IV.new ⟨⟨by show (fIC τ 0 369).toInt = _; rw [hJ8, S1n_z (by decide)], by show (fIC τ 0 370).toInt = _; rw [hJ9, S1n_z (by decide)], fun c _ j hj => absurd (show (j : Int) < (fIC τ 0 369).toInt from hj) (by rw [hJ8]; show ¬ (j : Int) < 0; omega), hW2, hJp⟩, hJd⟩
  obtain ⟨h1, h2, h3, h4, h5, h6⟩ := hI
  have h31 := h3.2.2.1
  refine lv_iconst (v := 1) hx hb dL_law_677 (by decide) ?_
  refine va_forget (fun q hq => hAd _ (hS.2.2 q hq)) ?_
  refine W.widen (k := 600000) (n := 7302250) (by omega) (by omega) ?_
  exact lw_ret hx hb hr hlocks dL_law_678
