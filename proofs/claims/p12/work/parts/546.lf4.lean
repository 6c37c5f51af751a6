/-! the law's loop -/
section LWO
variable {p : Program} {l : Launch} {e : Env} {s : State} {m : MethodId} {args : Array Value} {below : List Frame} {meth : Method} {c : Code} {Q : State → Prop} {b L : Nat} {xs : Nat → Int32} {Ts : List Cond} {A0 : Nat → Prop} {D : va_G} {ad ad2 : Nat → Nat} {kA cA : Nat → ClassId} {h a : Nat}
set_option maxRecDepth 20000 in
theorem lloop (C : LcX p s m args c b L xs Ts A0 D ad kA cA)
    (E : ∀ (σ : CsC) (ρ : RS) (H : Heap) (locs : List Loc) (ls : Array Slot) (n : Nat), n ≤ 512 → LwI A0 D ad kA σ h ad2 cA ρ H → va_S A0 s.heap H locs → IvL a n σ → W p l e room_1 s m args below meth c H locs (cnC σ + 200) (slC σ + 200000) Q (F0 m 677 ls [])) :
    ∀ (k n : Nat) (i : Int32) (σ : CsC) (ρ : RS) (H : Heap) (locs : List Loc) (ls : Array Slot), 513 - n = k → i.toInt = 6 * (n : Int) → n ≤ 512 → lv_has ls 4 [(3, .int i), (2, .ref h), (1, .ref (ad a)), (0, .ref b)] → LwI A0 D ad kA σ h ad2 cA ρ H → va_S A0 s.heap H locs → IvL a n σ → IV ρ → JL a σ ρ ∧ JqD a σ ρ → W p l e room_1 s m args below meth c H locs (cnC σ + 200) (slC σ + 200000) Q (F0 m 18 ls []) := by
  intro k
  induction k with
  | zero => intro n i σ ρ H locs ls hk hi hn; omega
  | succ k ih =>
    intro n i σ ρ H locs ls hk hi hn hl hw hS hI hR hJ
    obtain ⟨⟨hx, hb, hml, hown, hts⟩, ⟨hX, hbl, hbA, hL⟩, -⟩ := id C
    refine lv_iload_n hx hb dL_law_18 rfl (lv_at hl 0 rfl) ?_
    refine lv_aload_n hx hb dL_law_19 rfl (lv_at hl 3 rfl) ?_
    refine va_slen hx hb hX hbl hbA hS dL_law_20 ?_
    refine lv_bipush (v := 6) hx hb dL_law_21 (by decide) ?_
    refine lv_isub hx hb dL_law_23 ?_
    have e1 : (Int32.ofNat L).toInt = (L : Int) := Int32.toInt_ofNat_of_lt (by omega)
    have e2 : (6 : Int32).toInt = 6 := rfl
    have e3 : (Int32.ofNat L - 6).toInt = (L : Int) - 6 := subC (by rw [e1, e2]) (by omega) (by omega)
    refine lv_icmp_gt (tgt := 677) hx hb dL_law_24 (by decide) (fun _ => E σ ρ H locs ls n hn hw hS hI) (fun hc => ?_)
    have hle : i.toInt + 6 ≤ L := by
      have : ¬ (Int32.ofNat L - 6).toInt < i.toInt := fun z => hc (Int32.lt_iff_toInt_lt.mpr z)
      omega
    have hi2 : 0 ≤ i.toInt ∧ i.toInt + 6 ≤ L := ⟨by omega, hle⟩
    have hn2 : n < 512 := by omega
    have e6 : (i + 6).toInt = 6 * ((n + 1 : Nat) : Int) := addC (by rw [hi, e2]; omega) (by omega) (by omega)
    have K : ∀ (σ1 : CsC) (ρ1 : RS) (H1 : Heap) (locs1 : List Loc), LwI A0 D ad kA σ1 h ad2 cA ρ1 H1 → va_S A0 s.heap H1 locs1 → IvL a (n + 1) σ1 → IV ρ1 → JL a σ1 ρ1 ∧ JqD a σ1 ρ1 → W p l e room_1 s m args below meth c H1 locs1 (cnC σ1 + 200) (slC σ1 + 200000) Q (F0 m 671 ls []) := by
      intro σ1 ρ1 H1 locs1 hw1 hS1 hI1 hR1 hJ1
      refine lv_iinc (v := i + 6) (lv' := [(3, .int (i + 6)), (2, .ref h), (1, .ref (ad a)), (0, .ref b)]) hx hb dL_law_671 hl (k := 0) rfl rfl (by decide) rfl (fun ls8 hl8 => ?_)
      exact lv_goto (tgt := 18) hx hb dL_law_674 (by decide) (ih (n + 1) (i + 6) σ1 ρ1 H1 locs1 ls8 (by omega) e6 (by omega) hl8 hw1 hS1 hI1 hR1 hJ1)
    refine lv_aload_n hx hb dL_law_27 rfl (lv_at hl 3 rfl) ?_
    refine lv_iload_n hx hb dL_law_28 rfl (lv_at hl 0 rfl) ?_
    refine va_sld hx hb hX hbl hbA hS (inC_of (by omega) (by omega)) dL_law_29 ?_
    refine lv_bipush (v := 31) hx hb dL_law_30 (by decide) ?_
    refine lv_iand hx hb dL_law_32 ?_
    refine lv_topi (fun x _ => ?_)
    by_cases ho : x.toInt < 0 ∨ 18 < x.toInt
    · exact lv_tableOut (tgt := 671) hx hb dL_law_33 ho (by decide) (K σ ρ H locs hw hS hI.eq hR hJ)
    have hs : x.toInt = 0 ∨ x.toInt = 1 ∨ x.toInt = 2 ∨ x.toInt = 3 ∨ x.toInt = 4 ∨ x.toInt = 5 ∨ x.toInt = 6 ∨ x.toInt = 7 ∨ x.toInt = 8 ∨ x.toInt = 9 ∨ x.toInt = 10 ∨ x.toInt = 11 ∨ x.toInt = 12 ∨ x.toInt = 13 ∨ x.toInt = 14 ∨ x.toInt = 15 ∨ x.toInt = 16 ∨ x.toInt = 17 ∨ x.toInt = 18 := by omega
    rcases hs with z | z | z | z | z | z | z | z | z | z | z | z | z | z | z | z | z | z | z
    · exact lv_tableIn (tgt := 124) hx hb dL_law_33 (by omega) (by omega) (by rw [z]; rfl) (by decide) (lk_feed C hl hi2 hw hS hI hn2 hR hJ K)
    · exact lv_tableIn (tgt := 187) hx hb dL_law_33 (by omega) (by omega) (by rw [z]; rfl) (by decide) (lk_cut C hl hi2 hw hS hI hn2 hR hJ K)
    · exact lv_tableIn (tgt := 210) hx hb dL_law_33 (by omega) (by omega) (by rw [z]; rfl) (by decide) (lk_read C hl hi2 hw hS hI hn2 hR hJ K)
    · exact lv_tableIn (tgt := 223) hx hb dL_law_33 (by omega) (by omega) (by rw [z]; rfl) (by decide) (lk_place C hl hi2 hw hS hI hn2 hR hJ K)
    · exact lv_tableIn (tgt := 236) hx hb dL_law_33 (by omega) (by omega) (by rw [z]; rfl) (by decide) (lk_judge C hl hi2 hw hS hI hn2 hR hJ K)
    · exact lv_tableIn (tgt := 249) hx hb dL_law_33 (by omega) (by omega) (by rw [z]; rfl) (by decide) (lk_told C hl hi2 hw hS hI hn2 hR hJ K)
    · exact lv_tableIn (tgt := 272) hx hb dL_law_33 (by omega) (by omega) (by rw [z]; rfl) (by decide) (lk_token C hl hi2 hw hS hI hn2 hR hJ K)
    · exact lv_tableIn (tgt := 305) hx hb dL_law_33 (by omega) (by omega) (by rw [z]; rfl) (by decide) (lk_method C hl hi2 hw hS hI hn2 hR hJ K)
    · exact lv_tableIn (tgt := 338) hx hb dL_law_33 (by omega) (by omega) (by rw [z]; rfl) (by decide) (lk_variable C hl hi2 hw hS hI hn2 hR hJ K)
    · exact lv_tableIn (tgt := 371) hx hb dL_law_33 (by omega) (by omega) (by rw [z]; rfl) (by decide) (lk_means C hl hi2 hw hS hI hn2 hR hJ K)
    · exact lv_tableIn (tgt := 394) hx hb dL_law_33 (by omega) (by omega) (by rw [z]; rfl) (by decide) (lk_type C hl hi2 hw hS hI hn2 hR hJ K)
    · exact lv_tableIn (tgt := 427) hx hb dL_law_33 (by omega) (by omega) (by rw [z]; rfl) (by decide) (lk_constant C hl hi2 hw hS hI hn2 hR hJ K)
    · exact lv_tableIn (tgt := 460) hx hb dL_law_33 (by omega) (by omega) (by rw [z]; rfl) (by decide) (lk_ends C hl hi2 hw hS hI hn2 hR hJ K)
    · exact lv_tableIn (tgt := 483) hx hb dL_law_33 (by omega) (by omega) (by rw [z]; rfl) (by decide) (lk_assigned C hl hi2 hw hS hI hn2 hR hJ K)
    · exact lv_tableIn (tgt := 516) hx hb dL_law_33 (by omega) (by omega) (by rw [z]; rfl) (by decide) (lk_argument C hl hi2 hw hS hI hn2 hR hJ K)
    · exact lv_tableIn (tgt := 579) hx hb dL_law_33 (by omega) (by omega) (by rw [z]; rfl) (by decide) (lk_input C hl hi2 hw hS hI hn2 hR hJ K)
    · exact lv_tableIn (tgt := 602) hx hb dL_law_33 (by omega) (by omega) (by rw [z]; rfl) (by decide) (lk_drain C hl hi2 hw hS hI hn2 hR hJ K)
    · exact lv_tableIn (tgt := 615) hx hb dL_law_33 (by omega) (by omega) (by rw [z]; rfl) (by decide) (lk_run C hl hi2 hw hS hI hn2 hR hJ K)
    · exact lv_tableIn (tgt := 648) hx hb dL_law_33 (by omega) (by omega) (by rw [z]; rfl) (by decide) (lk_ran C hl hi2 hw hS hI hn2 hR hJ K)
end LWO
