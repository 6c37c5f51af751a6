theorem jl_rd {a n : Nat} {σ τ : CsC} {ρ ρ1 : RS} {r r2 : Int32} (hI : IvL a n σ) (hn : n < 512) (hR : IV ρ) (hJ : JL a σ ρ) (hU : U_read [.inr (.inr (some a))] σ (some (.inl r)) τ) (hrn : RnX ρ r2 ρ1) : r = r2 ∧ (W2C τ a ∧ DsC τ a ∧ DlC τ a) ∧ JpC a τ ρ1 := by
  have h9 := hI.len
  have h5 := hI.2.2.2.2.1
  have c1 : cnC σ < 1000000 := by omega
  obtain ⟨y, m, s0, hy, ⟨hy2, hy1⟩, hE, hTc, hRt, ⟨hZ0, hT0⟩, hLc, hRl⟩ := hJ.2.2.2.2
  obtain ⟨hw, s, k, hZ, hT, ha⟩ := hU (txR ρ, y, m, (prlY 11 s0).2.1) ⟨⟨c1, hJ.1.symm, fun c hc j hj => by
    have q := hJ.2.2.1 c hc j (by rw [hJ.1]; exact hj)
    rw [q]
    rfl, tx_ok hR⟩, hJ.2.2.2.1.1, hJ.2.2.2.1.2.1, hTc, hJ.2.2.2.1.2.2, hLc⟩ r rfl
  obtain ⟨e, q⟩ := rd_same hR hZ hT ha hrn
  refine ⟨e, hw, ?_⟩
  rcases q with ⟨hA, hb⟩ | ⟨hB, hE2, ⟨hRt2, hRl2⟩, hg⟩
  · have hag := rt_again hb hy hy2 hy1 hE hZ0 hT0
    exact ⟨y, m, s0, hy, ⟨by rw [hb.2.1]; exact hy2, fun j hj => by rw [hb.2.2]; exact hy1 j hj⟩, hE, hA.1, hag.1, ⟨hZ0, hT0⟩, hA.2, hag.2⟩
  · refine ⟨txR ρ, k, s, tx_ok hR, ⟨by rw [hg.1]; rfl, fun j hj => ?_⟩, hE2, hB.1, hRt2, ⟨hZ, hT⟩, hB.2, hRl2⟩
    have z : (j : Int) < (gI ρ 1).toInt := hj
    rw [hg.2 j (by show j < (gI ρ 1).toInt.toNat; omega)]
    rfl
theorem jl_fd {a n : Nat} {σ τ : CsC} {ρ ρ1 : RS} {w : Option AvC} {a1 a2 a3 a4 a5 : Int32} (hI : IvL a n σ) (hR : IV ρ) (hJ : JL a σ ρ) (hU : U_feed [.inr (.inr (some a)), .inl a1, .inl a2, .inl a3, .inl a4, .inl a5] σ w τ) (hw : WdT a σ τ) (e7 : (fIC τ a 369).toInt = (gI ρ1 1).toInt) (e8 : (fIC τ a 370).toInt = (gI ρ1 123).toInt) (hl : (2500 < (fIC σ a 369).toInt + 20 ∧ (fIC τ a 369).toInt = (fIC σ a 369).toInt) ∨ ((fIC σ a 369).toInt + 20 ≤ 2500 ∧ (fIC τ a 369).toInt = (fIC σ a 369).toInt + 20)) (hA : KpA ρ ρ1) (hE : (2500 < gI ρ 1 + 20 ∧ aI ρ1 0 = aI ρ 0) ∨ (gI ρ 1 + 20 ≤ 2500 ∧ aI ρ1 0 = fdk (aI ρ 0) (nT (gI ρ 1)) a1 a2 a3 a4 a5)) : JL a τ ρ1 := by
  refine ⟨e7, e8, fun c hc j hj => ?_, hw.1 hJ.2.2.2.1, hJ.2.2.2.2.k hw.2 hA⟩
  obtain ⟨c0, -, e0, -⟩ := cg360 hI.1.1 hI.2.1
  have h9 := hI.len
  have b1 := Int32.le_iff_toInt_le.mp hR.1.2.2.2.1.1.1
  have b2 := Int32.le_iff_toInt_le.mp hR.1.2.2.2.1.1.2
  have z0 : (0 : Int32).toInt = 0 := rfl
  have z20 : (20 : Int32).toInt = 20 := rfl
  have z25 : (2500 : Int32).toInt = 2500 := rfl
  have hl1 := hJ.1
  have hs : (gI ρ 1 + 20).toInt = (gI ρ 1).toInt + 20 := addC (by rw [z20]) (by omega) (by omega)
  rcases hU (fun i => eIC σ c0 i &&& 255) ⟨⟨h9, by omega⟩, fun d hd i => by
    obtain rfl : c0 = d := Option.some.inj (e0.symm.trans hd)
    rfl⟩ with ⟨q1, q2⟩ | ⟨q1, q2⟩
  · subst q2
    rcases hE with ⟨-, q⟩ | ⟨q, -⟩
    · rw [q]
      exact hJ.2.2.1 c hc j hj
    · have := Int32.le_iff_toInt_le.mp q
      omega
  · rcases hE with ⟨q, -⟩ | ⟨-, q⟩
    · have := Int32.lt_iff_toInt_lt.mp q
      omega
    · rw [q2 c hc j, q, show nT (gI ρ 1) = (fIC σ a 369).toInt.toNat from by show (gI ρ 1).toInt.toNat = _; rw [hl1]]
      exact fdk_eq (fun i hi => hJ.2.2.1 c0 e0 i (by omega)) j (by omega)
theorem jl_feed {L L' r : Int} {g g' : Int32} {w : Option Value} (hb : 0 ≤ g ∧ g ≤ 2500) (hJ : L = g.toInt) (h1 : (2500 < L + 20 ∧ r = -3 ∧ L' = L) ∨ (L + 20 ≤ 2500 ∧ r = L' ∧ L' = L + 20)) (h2 : (2500 < g + 20 ∧ w = some (.int (-3)) ∧ g' = g) ∨ (g + 20 ≤ 2500 ∧ w = some (.int g') ∧ g' = g + 20)) : ∃ r2 : Int32, w = some (.int r2) ∧ r = r2.toInt ∧ L' = g'.toInt := by
  have b1 : (0 : Int32).toInt ≤ g.toInt := Int32.le_iff_toInt_le.mp hb.1
  have b2 : g.toInt ≤ (2500 : Int32).toInt := Int32.le_iff_toInt_le.mp hb.2
  have e0 : (0 : Int32).toInt = 0 := rfl
  have e20 : (20 : Int32).toInt = 20 := rfl
  have e25 : (2500 : Int32).toInt = 2500 := rfl
  have em : (-3 : Int32).toInt = -3 := by decide
  have e : (g + 20).toInt = g.toInt + 20 := addC (by rw [e20]) (by omega) (by omega)
  rcases h2 with ⟨z, rfl, rfl⟩ | ⟨z, rfl, rfl⟩
  · have z := Int32.lt_iff_toInt_lt.mp z
    exact ⟨_, rfl, by omega, by omega⟩
  · have z := Int32.le_iff_toInt_le.mp z
    exact ⟨_, rfl, by omega, by omega⟩
theorem jl_cut {L L' r : Int} {p g g' : Int32} {w : Option Value} (hb : 0 ≤ g ∧ g ≤ 2500) (hJ : L = g.toInt) (h1 : ((p.toInt < 0 ∨ L < p.toInt) ∧ r = -1 ∧ L' = L) ∨ ((0 ≤ p.toInt ∧ p.toInt ≤ L) ∧ r = L' ∧ L' = L - p.toInt)) (h2 : ((p < 0 ∨ g < p) ∧ w = some (.int (-1)) ∧ g' = g) ∨ ((0 ≤ p ∧ p ≤ g) ∧ w = some (.int g') ∧ g' = g - p)) : ∃ r2 : Int32, w = some (.int r2) ∧ r = r2.toInt ∧ L' = g'.toInt := by
  have b1 : (0 : Int32).toInt ≤ g.toInt := Int32.le_iff_toInt_le.mp hb.1
  have b2 : g.toInt ≤ (2500 : Int32).toInt := Int32.le_iff_toInt_le.mp hb.2
  have e0 : (0 : Int32).toInt = 0 := rfl
  have e25 : (2500 : Int32).toInt = 2500 := rfl
  have em : (-1 : Int32).toInt = -1 := by decide
  rcases h2 with ⟨z, rfl, rfl⟩ | ⟨⟨z1, z2⟩, rfl, rfl⟩
  · rw [Int32.lt_iff_toInt_lt, Int32.lt_iff_toInt_lt] at z
    exact ⟨_, rfl, by omega, by omega⟩
  · have z1 := Int32.le_iff_toInt_le.mp z1
    have z2 := Int32.le_iff_toInt_le.mp z2
    have e : (g - p).toInt = g.toInt - p.toInt := subC rfl (by omega) (by omega)
    exact ⟨_, rfl, by omega, by omega⟩
theorem jl_input {L L' r : Int} {g g' : Int32} {w : Option Value} (hb : 0 ≤ g ∧ g ≤ 40) (hJ : L = g.toInt) (h1 : (L = 40 ∧ r = -3 ∧ L' = L) ∨ (L < 40 ∧ r = L' ∧ L' = L + 1)) (h2 : (g = 40 ∧ w = some (.int (-3)) ∧ g' = g) ∨ (g < 40 ∧ w = some (.int g') ∧ g' = g + 1)) : ∃ r2 : Int32, w = some (.int r2) ∧ r = r2.toInt ∧ L' = g'.toInt := by
  have b1 : (0 : Int32).toInt ≤ g.toInt := Int32.le_iff_toInt_le.mp hb.1
  have b2 : g.toInt ≤ (40 : Int32).toInt := Int32.le_iff_toInt_le.mp hb.2
  have e0 : (0 : Int32).toInt = 0 := rfl
  have e1 : (1 : Int32).toInt = 1 := rfl
  have e40 : (40 : Int32).toInt = 40 := rfl
  have em : (-3 : Int32).toInt = -3 := by decide
  have e : (g + 1).toInt = g.toInt + 1 := addC (by rw [e1]) (by omega) (by omega)
  rcases h2 with ⟨z, rfl, rfl⟩ | ⟨z, rfl, rfl⟩
  · have z := congrArg Int32.toInt z
    exact ⟨_, rfl, by omega, by omega⟩
  · have z := Int32.lt_iff_toInt_lt.mp z
    exact ⟨_, rfl, by omega, by omega⟩
theorem jl_drain {L L' r : Int} {g g' : Int32} {w : Option Value} (hJ : L = g.toInt) (h1 : r = L ∧ L' = 0) (h2 : w = some (.int g) ∧ g' = 0) : ∃ r2 : Int32, w = some (.int r2) ∧ r = r2.toInt ∧ L' = g'.toInt := by
  obtain ⟨rfl, rfl⟩ := h2
  exact ⟨_, rfl, h1.1.trans hJ, h1.2⟩
theorem arg_no {r x : Int32} (h : (r.toInt = 1 ∧ 0 ≤ x.toInt ∧ x.toInt < 6) ∨ (r.toInt = -1 ∧ (x.toInt < 0 ∨ 6 ≤ x.toInt))) (z : x < 0 ∨ 5 < x) : r.toInt = (-1 : Int32).toInt := by
  have e : (-1 : Int32).toInt = -1 := by decide
  have e0 : (0 : Int32).toInt = 0 := rfl
  have e5 : (5 : Int32).toInt = 5 := rfl
  rw [Int32.lt_iff_toInt_lt, Int32.lt_iff_toInt_lt] at z
  omega
theorem arg_yes {r x : Int32} (h : (r.toInt = 1 ∧ 0 ≤ x.toInt ∧ x.toInt < 6) ∨ (r.toInt = -1 ∧ (x.toInt < 0 ∨ 6 ≤ x.toInt))) (z : 0 ≤ x ∧ x ≤ 5) : r.toInt = (1 : Int32).toInt := by
  have e : (1 : Int32).toInt = 1 := rfl
  have e0 : (0 : Int32).toInt = 0 := rfl
  have e5 : (5 : Int32).toInt = 5 := rfl
  rw [Int32.le_iff_toInt_le, Int32.le_iff_toInt_le] at z
  omega
/-! the law's cases -/
def lwL : List Cond := [.methodLink RZL 13 yX11_feed, .methodLink RZL 17 yX12_feed, .methodLink RZL 18 yX11_cut, .methodLink RZL 22 yX12_cut, .methodLink RZL 23 yX11_read, .methodLink RZL 27 yX12_read, .methodLink RZL 28 yX11_place, .methodLink RZL 31 yX12_place, .methodLink RZL 32 yX11_judge, .methodLink RZL 35 yX12_judge, .methodLink RZL 36 yX11_told, .methodLink RZL 39 yX12_told_, .methodLink RZL 40 yX11_token, .methodLink RZL 44 yX12_token, .methodLink RZL 45 yX11_method, .methodLink RZL 48 yX12_method_, .methodLink RZL 49 yX11_variable, .methodLink RZL 52 yX12_variable_, .methodLink RZL 53 yX11_means, .methodLink RZL 56 yX12_means, .methodLink RZL 57 yX11_type, .methodLink RZL 60 yX12_type, .methodLink RZL 61 yX11_constant, .methodLink RZL 65 yX12_constant, .methodLink RZL 66 yX11_ends, .methodLink RZL 69 yX12_ends, .methodLink RZL 70 yX11_assigned, .methodLink RZL 73 yX12_assigned, .methodLink RZL 76 yX11_argument, .methodLink RZL 80 yX12_argument, .methodLink RZL 81 yX11_input, .methodLink RZL 84 yX12_input, .methodLink RZL 85 yX11_drain, .methodLink RZL 88 yX12_drain, .methodLink RZL 89 yX11_run, .methodLink RZL 92 yX12_run, .methodLink RZL 93 yX11_ran, .methodLink RZL 97 yX12_ran, .constantLong RZL 74 4294967295]
theorem lgoC {Ts : List Cond} {μ j : Nat} {row : CmC} (hr : mtC[μ]? = some row) (hm : Cond.methodLink RZL j row.1 ∈ Ts) (hs : row.2.2.2.2.2.2 = false) (h13 : row.2.2.2.2.2.1 < 13) (hni : row.1.name ≠ "<init>") (hG : ∀ w ∈ cGC, w ∈ Ts) : GoodIn Ts (wsV RZL j row.1.cls row.1 (wcC row :: cGC)) := by
  obtain ⟨hc1, hc2, hc3, hc4, hc5⟩ := mtC_ok μ (mtC_lt hr) row hr
  apply goodIn_sub
  · intro w hw
    unfold wsV at hw
    simp only [List.cons_append, List.nil_append, List.mem_cons] at hw
    rcases hw with rfl | rfl | rfl | rfl | rfl | hw
    · exact hm
    · exact hG _ (cG_i hr hs)
    · have := cG_l hr hs hni
      unfold wlC at this
      rw [← hc1] at this
      exact hG _ this
    · rw [hc1]
      exact hG _ (cG_p h13 (by unfold wpC; simp))
    · exact hG _ (cG_c hr)
    · exact hG _ hw
  · unfold wsV
    simp only [List.cons_append, List.nil_append, List.all_cons]
    rw [cG_good]
    rfl
theorem lgoR {Ts : List Cond} {μ j : Nat} {row : RM} (hr : mtab[μ]? = some row) (hm : Cond.methodLink RZL j row.1 ∈ Ts) (hG : ∀ w ∈ wG, w ∈ Ts) : GoodIn Ts (wsV RZL j RX12 row.1 (wC row :: wG)) := by
  apply goodIn_sub
  · intro w hw
    unfold wsV at hw
    simp only [List.cons_append, List.nil_append, List.mem_cons] at hw
    rcases hw with rfl | rfl | rfl | rfl | rfl | hw
    · exact hm
    · exact hG _ (wG_I hr)
    · exact hG _ (wG_S hr)
    · exact hG _ List.mem_cons_self
    · exact hG _ (wG_C hr)
    · exact hG _ hw
  · unfold wsV
    simp only [List.cons_append, List.nil_append, List.all_cons]
    rw [wG_good]
    rfl
/-- what stays all along -/
def LcX (p : Program) (s : State) (m : MethodId) (args : Array Value) (c : Code) (b L : Nat) (xs : Nat → Int32) (Ts : List Cond) (A0 : Nat → Prop) (D : va_G) (ad : Nat → Nat) (kA cA : Nat → ClassId) : Prop :=
  CallFix p m c cL_law 4 s args Ts RZL ∧ (va_X b L xs s s.heap ∧ b < s.heap.size ∧ ¬ A0 b ∧ L ≤ 3072) ∧ (∀ q, s.heap.size ≤ q → A0 q) ∧ (va_K D vwCl (tyC kA) s ∧ va_K D vwCl (RT cA) s ∧ evC ad A0 s s.heap) ∧ ((∀ w ∈ cGC, w ∈ Ts) ∧ (∀ w ∈ wG, w ∈ Ts) ∧ (∀ w ∈ lwL, w ∈ Ts))
section LWK
variable {p : Program} {l : Launch} {e : Env} {s : State} {m : MethodId} {args : Array Value} {below : List Frame} {meth : Method} {c : Code} {H : Heap} {locs : List Loc} {Q : State → Prop} {b L : Nat} {xs : Nat → Int32} {Ts : List Cond} {A0 : Nat → Prop} {D : va_G} {ad ad2 : Nat → Nat} {kA cA : Nat → ClassId} {σ : CsC} {h a n : Nat} {ρ : RS} {i : Int32} {ls : Array Slot} {R : Room} {cells slots : Nat}
theorem lcell {pc : Nat} {k : Int} {kv : Int32} {st : List Value} (C : LcX p s m args c b L xs Ts A0 D ad kA cA) (hl0 : ls[0]? = some (.val (.ref b))) (hl3 : ls[3]? = some (.val (.int i))) (hi : 0 ≤ i.toInt ∧ i.toInt + 6 ≤ L) (hS : va_S A0 s.heap H locs) (hv : Int32.ofInt k = kv) (hk : 0 ≤ kv.toInt ∧ kv.toInt ≤ 5)
    (d0 : decode cL_law pc = .ok (.aload_n 0, 1)) (d1 : decode cL_law (pc + 1) = .ok (.iload_n 3, 1)) (d2 : decode cL_law (pc + 2) = .ok (.iconst k, 1)) (d3 : decode cL_law (pc + 3) = .ok (.iadd, 1)) (d4 : decode cL_law (pc + 4) = .ok (.iaload, 1))
    (kk : W p l e R s m args below meth c H locs cells slots Q (F0 m (pc + 5) ls (.int (xs (i + kv).toNatClampNeg) :: st))) : W p l e R s m args below meth c H locs cells slots Q (F0 m pc ls st) := by
  obtain ⟨⟨hx, hb, hml, hown, hts⟩, ⟨hX, hbl, hbA, hL⟩, -⟩ := C
  refine lv_aload_n hx hb d0 rfl hl0 (lv_iload_n hx hb d1 rfl hl3 (lv_iconst (v := kv) hx hb d2 hv (lv_iadd hx hb d3 (va_sld hx hb hX hbl hbA hS ?_ d4 kk))))
  have e : (i + kv).toInt = i.toInt + kv.toInt := addC rfl (by omega) (by omega)
  exact inC_of (by omega) (by omega)
set_option maxRecDepth 20000 in
theorem lk_feed (C : LcX p s m args c b L xs Ts A0 D ad kA cA) (hl : lv_has ls 4 [(3, .int i), (2, .ref h), (1, .ref (ad a)), (0, .ref b)]) (hi : 0 ≤ i.toInt ∧ i.toInt + 6 ≤ L) (hw : LwI A0 D ad kA σ h ad2 cA ρ H) (hS : va_S A0 s.heap H locs) (hI : IvL a n σ) (hn : n < 512) (hR : IV ρ) (hJ2 : JL a σ ρ ∧ JqD a σ ρ) (K : ∀ (σ1 : CsC) (ρ1 : RS) (H1 : Heap) (locs1 : List Loc), LwI A0 D ad kA σ1 h ad2 cA ρ1 H1 → va_S A0 s.heap H1 locs1 → IvL a (n + 1) σ1 → IV ρ1 → JL a σ1 ρ1 ∧ JqD a σ1 ρ1 → W p l e room_1 s m args below meth c H1 locs1 (cnC σ1 + 200) (slC σ1 + 200000) Q (F0 m 671 ls [])) : W p l e room_1 s m args below meth c H locs (cnC σ + 200) (slC σ + 200000) Q (F0 m 124 ls []) := by
  obtain ⟨S, -, hA, ⟨hK1, hK2, hEv⟩, hGC, hGR, hGL⟩ := id C
  obtain ⟨hx, hb, hml, hown, hts⟩ := id S
  obtain ⟨hJ, hQD⟩ := hJ2
  obtain ⟨h1, h2, h3, h4, h5, h6⟩ := id hI
  refine lv_aload_n hx hb dL_law_124 rfl (lv_at hl 2 rfl) ?_
  refine lcell (k := 1) (kv := 1) C (lv_at hl 3 rfl) (lv_at hl 0 rfl) hi hS (by decide) (by decide) dL_law_125 dL_law_126 dL_law_127 dL_law_128 dL_law_129 ?_
  refine lcell (k := 2) (kv := 2) C (lv_at hl 3 rfl) (lv_at hl 0 rfl) hi hS (by decide) (by decide) dL_law_130 dL_law_131 dL_law_132 dL_law_133 dL_law_134 ?_
  refine lcell (k := 3) (kv := 3) C (lv_at hl 3 rfl) (lv_at hl 0 rfl) hi hS (by decide) (by decide) dL_law_135 dL_law_136 dL_law_137 dL_law_138 dL_law_139 ?_
  refine lcell (k := 4) (kv := 4) C (lv_at hl 3 rfl) (lv_at hl 0 rfl) hi hS (by decide) (by decide) dL_law_140 dL_law_141 dL_law_142 dL_law_143 dL_law_144 ?_
  refine lcell (k := 5) (kv := 5) C (lv_at hl 3 rfl) (lv_at hl 0 rfl) hi hS (by decide) (by decide) dL_law_145 dL_law_146 dL_law_147 dL_law_148 dL_law_149 ?_
  obtain ⟨hp, hq⟩ := ls_feed hI hn (xs (i + 1).toNatClampNeg) (xs (i + 2).toNatClampNeg) (xs (i + 3).toNatClampNeg) (xs (i + 4).toNatClampNeg) (xs (i + 5).toNatClampNeg)
  have hroom : 2 + 1 ≤ room_1.frames ∧ 8 + (rX11_feed.2.2.1 + 11) + 100 * 2 ≤ room_1.locals := by decide
  refine W.eq (g2 := F0 m 150 ls ((([.inl (xs (i + 1).toNatClampNeg), .inl (xs (i + 2).toNatClampNeg), .inl (xs (i + 3).toNatClampNeg), .inl (xs (i + 4).toNatClampNeg), .inl (xs (i + 5).toNatClampNeg)] : List AvC).map (cvC ad)).reverse ++ .ref (ad a) :: [])) rfl (lwC (As := [.inl (xs (i + 1).toNatClampNeg), .inl (xs (i + 2).toNatClampNeg), .inl (xs (i + 3).toNatClampNeg), .inl (xs (i + 4).toNatClampNeg), .inl (xs (i + 5).toNatClampNeg)]) (rest := []) (P := P_X11_feed) (Qm := (EvQ (2 + 1) 201 (fun As σ w τ => Q_X11_feed As σ w τ ∧ U_feed As σ w τ))) S (v9_feed l) hX11_feed (lgoC hX11_feed (hGL _ (by simp [lwL, rX11_feed])) rfl (by decide) (by decide +kernel) hGC) hroom hw hS hA hK1 hEv h3 (by decide) (h2.ob (by decide)) hp rfl hl.1 (by decide) dL_law_150 ⟨?_, ?_⟩ (fun w τ H1 locs1 hq1 hw1 hS1 g1 => ?_))
  · show cnC σ + 200 + (cpC σ - cnC σ) ≤ 600000; have := h3.2.2.1.1; omega
  · show slC σ + 200000 + (spC σ - slC σ) ≤ 7302250; have := h3.2.2.1.2; omega
  obtain ⟨hI1, hE, hK, r, rfl, hans⟩ := hq w τ hq1.1.1 g1
  have e1 : cnC σ + 200 + (cnC τ - cnC σ) = cnC τ + 200 := by have := g1.1.1; omega
  have e2 : slC σ + 200000 + (slC τ - slC σ) = slC τ + 200000 := by have := g1.1.2; omega
  rw [e1, e2]
  refine W.eq (g2 := F0 m 153 ls [.int r]) rfl ?_
  refine lv_pop hx hb dL_law_153 rfl ?_
  refine lv_aload_n hx hb dL_law_154 rfl (lv_at hl 1 rfl) ?_
  refine lcell (k := 1) (kv := 1) C (lv_at hl 3 rfl) (lv_at hl 0 rfl) hi hS1 (by decide) (by decide) dL_law_155 dL_law_156 dL_law_157 dL_law_158 dL_law_159 ?_
  refine lcell (k := 2) (kv := 2) C (lv_at hl 3 rfl) (lv_at hl 0 rfl) hi hS1 (by decide) (by decide) dL_law_160 dL_law_161 dL_law_162 dL_law_163 dL_law_164 ?_
  refine lcell (k := 3) (kv := 3) C (lv_at hl 3 rfl) (lv_at hl 0 rfl) hi hS1 (by decide) (by decide) dL_law_165 dL_law_166 dL_law_167 dL_law_168 dL_law_169 ?_
  refine lcell (k := 4) (kv := 4) C (lv_at hl 3 rfl) (lv_at hl 0 rfl) hi hS1 (by decide) (by decide) dL_law_170 dL_law_171 dL_law_172 dL_law_173 dL_law_174 ?_
  refine lcell (k := 5) (kv := 5) C (lv_at hl 3 rfl) (lv_at hl 0 rfl) hi hS1 (by decide) (by decide) dL_law_175 dL_law_176 dL_law_177 dL_law_178 dL_law_179 ?_
  refine W.eq (g2 := F0 m 180 ls ((([.int (xs (i + 1).toNatClampNeg), .int (xs (i + 2).toNatClampNeg), .int (xs (i + 3).toNatClampNeg), .int (xs (i + 4).toNatClampNeg), .int (xs (i + 5).toNatClampNeg)] : List Value).map (rcv h ad2)).reverse ++ .ref h :: [])) rfl (lwR (As := [.int (xs (i + 1).toNatClampNeg), .int (xs (i + 2).toNatClampNeg), .int (xs (i + 3).toNatClampNeg), .int (xs (i + 4).toNatClampNeg), .int (xs (i + 5).toNatClampNeg)]) (rest := []) (P := Pi_feed) (Qm := (fun As σ w τ => Qi_feed As σ w τ ∧ F8 σ τ)) S (i8_feed l) (row := _) rfl (lgoR (μ := 0) rfl (hGL _ (by simp [lwL])) hGR) (by decide) hw1 hS1 hA hK2 hR rfl hl.1 (Nat.le_of_ble_eq_true rfl) dL_law_180 ⟨?_, ?_⟩ (fun w2 ρ1 H2 locs2 hq2 hw2 hS2 => ?_))
  · show cnC τ + 200 ≤ 600000; have := hI1.2.2.1.2.2.1.1; have := hI1.2.2.2.1.1; omega
  · show slC τ + 200000 ≤ 7302250; have := hI1.2.2.1.2.2.1.2; have := hI1.2.2.2.1.2; omega
  obtain ⟨⟨hans2, hR1, hE2⟩, h8⟩ := hq2
  obtain ⟨r2, rfl, e8, e7⟩ := jl_feed hR.1.2.2.2.1.1 hJ.1 hans hans2
  have e9 : r = r2 := Int32.toInt_inj.mp e8
  have hJ1 : JL a τ ρ1 := jl_fd hI hR hJ hq1.1.2 hK e7 (by rw [hE, hE2.1]; exact hJ.2.1) (hans.elim (fun z => Or.inl ⟨z.1, z.2.2⟩) (fun z => Or.inr ⟨z.1, z.2.2⟩)) hE2.2.1 hE2.2.2
  obtain ⟨_, _, _, hEx, _⟩ := id hq1.1.1
  have hQ1 : JqD a τ ρ1 := hQD.k h1.1 h2 (CkK.fx h1.1 h2 ((hq1.2.fr (M := [369, 900]) (by decide +kernel))) hEx rfl rfl) (hE2.2.1).2.1 (hE2.2.1).2.2 (fun _ q => q.f8 h8)
  refine W.eq (g2 := F0 m 183 ls [.int r2]) rfl ?_
  refine lv_pop hx hb dL_law_183 rfl ?_
  exact lv_goto (tgt := 671) hx hb dL_law_184 (by decide) (K τ ρ1 H2 locs2 hw2 hS2 hI1 hR1 ⟨hJ1, hQ1⟩)
set_option maxRecDepth 20000 in
theorem lk_cut (C : LcX p s m args c b L xs Ts A0 D ad kA cA) (hl : lv_has ls 4 [(3, .int i), (2, .ref h), (1, .ref (ad a)), (0, .ref b)]) (hi : 0 ≤ i.toInt ∧ i.toInt + 6 ≤ L) (hw : LwI A0 D ad kA σ h ad2 cA ρ H) (hS : va_S A0 s.heap H locs) (hI : IvL a n σ) (hn : n < 512) (hR : IV ρ) (hJ2 : JL a σ ρ ∧ JqD a σ ρ) (K : ∀ (σ1 : CsC) (ρ1 : RS) (H1 : Heap) (locs1 : List Loc), LwI A0 D ad kA σ1 h ad2 cA ρ1 H1 → va_S A0 s.heap H1 locs1 → IvL a (n + 1) σ1 → IV ρ1 → JL a σ1 ρ1 ∧ JqD a σ1 ρ1 → W p l e room_1 s m args below meth c H1 locs1 (cnC σ1 + 200) (slC σ1 + 200000) Q (F0 m 671 ls [])) : W p l e room_1 s m args below meth c H locs (cnC σ + 200) (slC σ + 200000) Q (F0 m 187 ls []) := by
  obtain ⟨S, -, hA, ⟨hK1, hK2, hEv⟩, hGC, hGR, hGL⟩ := id C
  obtain ⟨hx, hb, hml, hown, hts⟩ := id S
  obtain ⟨hJ, hQD⟩ := hJ2
  obtain ⟨h1, h2, h3, h4, h5, h6⟩ := id hI
  refine lv_aload_n hx hb dL_law_187 rfl (lv_at hl 2 rfl) ?_
  refine lcell (k := 1) (kv := 1) C (lv_at hl 3 rfl) (lv_at hl 0 rfl) hi hS (by decide) (by decide) dL_law_188 dL_law_189 dL_law_190 dL_law_191 dL_law_192 ?_
  obtain ⟨hp, hq⟩ := ls_cut hI hn (xs (i + 1).toNatClampNeg)
  have hroom : 1 + 1 ≤ room_1.frames ∧ 8 + (rX11_cut.2.2.1 + 11) + 100 * 1 ≤ room_1.locals := by decide
  refine W.eq (g2 := F0 m 193 ls ((([.inl (xs (i + 1).toNatClampNeg)] : List AvC).map (cvC ad)).reverse ++ .ref (ad a) :: [])) rfl (lwC (As := [.inl (xs (i + 1).toNatClampNeg)]) (rest := []) (P := P_X11_cut) (Qm := (EvQ (1 + 1) 203 Q_X11_cut)) S (v_X11_cut l) hX11_cut (lgoC hX11_cut (hGL _ (by simp [lwL, rX11_cut])) rfl (by decide) (by decide +kernel) hGC) hroom hw hS hA hK1 hEv h3 (by decide) (h2.ob (by decide)) hp rfl hl.1 (by decide) dL_law_193 ⟨?_, ?_⟩ (fun w τ H1 locs1 hq1 hw1 hS1 g1 => ?_))
  · show cnC σ + 200 + (cpC σ - cnC σ) ≤ 600000; have := h3.2.2.1.1; omega
  · show slC σ + 200000 + (spC σ - slC σ) ≤ 7302250; have := h3.2.2.1.2; omega
  obtain ⟨hI1, hE, hK, r, rfl, hans⟩ := hq w τ hq1.1 g1
  have e1 : cnC σ + 200 + (cnC τ - cnC σ) = cnC τ + 200 := by have := g1.1.1; omega
  have e2 : slC σ + 200000 + (slC τ - slC σ) = slC τ + 200000 := by have := g1.1.2; omega
  rw [e1, e2]
  refine W.eq (g2 := F0 m 196 ls [.int r]) rfl ?_
  refine lv_pop hx hb dL_law_196 rfl ?_
  refine lv_aload_n hx hb dL_law_197 rfl (lv_at hl 1 rfl) ?_
  refine lcell (k := 1) (kv := 1) C (lv_at hl 3 rfl) (lv_at hl 0 rfl) hi hS1 (by decide) (by decide) dL_law_198 dL_law_199 dL_law_200 dL_law_201 dL_law_202 ?_
  refine W.eq (g2 := F0 m 203 ls ((([.int (xs (i + 1).toNatClampNeg)] : List Value).map (rcv h ad2)).reverse ++ .ref h :: [])) rfl (lwR (As := [.int (xs (i + 1).toNatClampNeg)]) (rest := []) (P := Pi_cut) (Qm := (fun As σ w τ => Qi_cut As σ w τ ∧ F8 σ τ)) S (i8_cut l) (row := _) rfl (lgoR (μ := 2) rfl (hGL _ (by simp [lwL])) hGR) (by decide) hw1 hS1 hA hK2 hR rfl hl.1 (Nat.le_of_ble_eq_true rfl) dL_law_203 ⟨?_, ?_⟩ (fun w2 ρ1 H2 locs2 hq2 hw2 hS2 => ?_))
  · show cnC τ + 200 ≤ 600000; have := hI1.2.2.1.2.2.1.1; have := hI1.2.2.2.1.1; omega
  · show slC τ + 200000 ≤ 7302250; have := hI1.2.2.1.2.2.1.2; have := hI1.2.2.2.1.2; omega
  obtain ⟨⟨hans2, hR1, hE2⟩, h8⟩ := hq2
  obtain ⟨r2, rfl, e8, e7⟩ := jl_cut hR.1.2.2.2.1.1 hJ.1 hans hans2
  have e9 : r = r2 := Int32.toInt_inj.mp e8
  have hJ1 : JL a τ ρ1 := hJ.k hK e7 (by rw [hE, hE2.1]; exact hJ.2.1) (by rcases hans with ⟨-, -, z⟩ | ⟨⟨z1, -⟩, -, z⟩ <;> omega) hE2.2.1 hE2.2.2
  obtain ⟨_, _, _, hEx, _⟩ := id hq1.1
  have hQ1 : JqD a τ ρ1 := hQD.k h1.1 h2 (CkK.fx h1.1 h2 ((hq1.2.fr (M := [369]) (by decide +kernel))) hEx rfl rfl) (hE2.2.2).2.1 (hE2.2.2).2.2 (fun _ q => q.f8 h8)
  refine W.eq (g2 := F0 m 206 ls [.int r2]) rfl ?_
  refine lv_pop hx hb dL_law_206 rfl ?_
  exact lv_goto (tgt := 671) hx hb dL_law_207 (by decide) (K τ ρ1 H2 locs2 hw2 hS2 hI1 hR1 ⟨hJ1, hQ1⟩)
set_option maxRecDepth 20000 in
theorem lk_read (C : LcX p s m args c b L xs Ts A0 D ad kA cA) (hl : lv_has ls 4 [(3, .int i), (2, .ref h), (1, .ref (ad a)), (0, .ref b)]) (hi : 0 ≤ i.toInt ∧ i.toInt + 6 ≤ L) (hw : LwI A0 D ad kA σ h ad2 cA ρ H) (hS : va_S A0 s.heap H locs) (hI : IvL a n σ) (hn : n < 512) (hR : IV ρ) (hJ2 : JL a σ ρ ∧ JqD a σ ρ) (K : ∀ (σ1 : CsC) (ρ1 : RS) (H1 : Heap) (locs1 : List Loc), LwI A0 D ad kA σ1 h ad2 cA ρ1 H1 → va_S A0 s.heap H1 locs1 → IvL a (n + 1) σ1 → IV ρ1 → JL a σ1 ρ1 ∧ JqD a σ1 ρ1 → W p l e room_1 s m args below meth c H1 locs1 (cnC σ1 + 200) (slC σ1 + 200000) Q (F0 m 671 ls [])) : W p l e room_1 s m args below meth c H locs (cnC σ + 200) (slC σ + 200000) Q (F0 m 210 ls []) := by
  obtain ⟨S, -, hA, ⟨hK1, hK2, hEv⟩, hGC, hGR, hGL⟩ := id C
  obtain ⟨hx, hb, hml, hown, hts⟩ := id S
  obtain ⟨hJ, hQD⟩ := hJ2
  obtain ⟨h1, h2, h3, h4, h5, h6⟩ := id hI
  refine lv_aload_n hx hb dL_law_210 rfl (lv_at hl 2 rfl) ?_
  obtain ⟨hp, hq⟩ := ls_read hI hn 
  have hroom : 515 + 1 ≤ room_1.frames ∧ 8 + (rX11_read.2.2.1 + 11) + 100 * 515 ≤ room_1.locals := by decide
  refine W.eq (g2 := F0 m 211 ls ((([] : List AvC).map (cvC ad)).reverse ++ .ref (ad a) :: [])) rfl (lwC (As := []) (rest := []) (P := P_X11_read) (Qm := (EvQ (515 + 1) 204 (fun As σ w τ => Q_X11_read As σ w τ ∧ U_read As σ w τ))) S (v9_read l) hX11_read (lgoC hX11_read (hGL _ (by simp [lwL, rX11_read])) rfl (by decide) (by decide +kernel) hGC) hroom hw hS hA hK1 hEv h3 (by decide) (h2.ob (by decide)) hp rfl hl.1 (by decide) dL_law_211 ⟨?_, ?_⟩ (fun w τ H1 locs1 hq1 hw1 hS1 g1 => ?_))
  · show cnC σ + 200 + (cpC σ - cnC σ) ≤ 600000; have := h3.2.2.1.1; omega
  · show slC σ + 200000 + (spC σ - slC σ) ≤ 7302250; have := h3.2.2.1.2; omega
  obtain ⟨hI1, hE, r, rfl⟩ := hq w τ hq1.1.1 g1
  have e1 : cnC σ + 200 + (cnC τ - cnC σ) = cnC τ + 200 := by have := g1.1.1; omega
  have e2 : slC σ + 200000 + (slC τ - slC σ) = slC τ + 200000 := by have := g1.1.2; omega
  rw [e1, e2]
  refine W.eq (g2 := F0 m 214 ls [.int r]) rfl ?_
  refine lv_pop hx hb dL_law_214 rfl ?_
  refine lv_aload_n hx hb dL_law_215 rfl (lv_at hl 1 rfl) ?_
  refine W.eq (g2 := F0 m 216 ls ((([] : List Value).map (rcv h ad2)).reverse ++ .ref h :: [])) rfl (lwR (As := []) (rest := []) (P := Pi_read) (Qm := Qi_read) S (i_read l) (row := _) rfl (lgoR (μ := 123) rfl (hGL _ (by simp [lwL])) hGR) (by decide) hw1 hS1 hA hK2 hR rfl hl.1 (Nat.le_of_ble_eq_true rfl) dL_law_216 ⟨?_, ?_⟩ (fun w2 ρ1 H2 locs2 hq2 hw2 hS2 => ?_))
  · show cnC τ + 200 ≤ 600000; have := hI1.2.2.1.2.2.1.1; have := hI1.2.2.2.1.1; omega
  · show slC τ + 200000 ≤ 7302250; have := hI1.2.2.1.2.2.1.2; have := hI1.2.2.2.1.2; omega
  obtain ⟨hans2, hR1, hE2⟩ := hq2
  obtain ⟨r2, rfl, hrn⟩ := hans2
  obtain ⟨e9, hw9, hp9⟩ := jl_rd hI hn hR hJ hq1.1.2 hrn
  have hJ1 : JL a τ ρ1 := ⟨by rw [hE2.1]; exact hE.1, by rw [hE.2, hE2.2]; exact hJ.2.1, fun c hc j hj => absurd hj (by rw [hE.1]; omega), hw9, hp9⟩
  obtain ⟨y9, m9, s9, -, -, -, hTc9, -, -, hLc9, -⟩ := hJ.2.2.2.2
  have hQ1 : JqD a τ ρ1 := jq_rd h1 h2 hR hQD (y0 := y9) (m := m9) (lz := (prlY 11 s9).2.1) ⟨⟨by have := hI.len; have := hI.2.2.2.2.1; omega, hJ.1.symm, fun c hc j hj => by
    have q := hJ.2.2.1 c hc j (by rw [hJ.1]; exact hj)
    rw [q]
    rfl, tx_ok hR⟩, hJ.2.2.2.1.1, hJ.2.2.2.1.2.1, hTc9, hJ.2.2.2.1.2.2, hLc9⟩ hq1.2 hrn
  refine W.eq (g2 := F0 m 219 ls [.int r2]) rfl ?_
  refine lv_pop hx hb dL_law_219 rfl ?_
  exact lv_goto (tgt := 671) hx hb dL_law_220 (by decide) (K τ ρ1 H2 locs2 hw2 hS2 hI1 hR1 ⟨hJ1, hQ1⟩)
set_option maxRecDepth 20000 in
theorem lk_place (C : LcX p s m args c b L xs Ts A0 D ad kA cA) (hl : lv_has ls 4 [(3, .int i), (2, .ref h), (1, .ref (ad a)), (0, .ref b)]) (hi : 0 ≤ i.toInt ∧ i.toInt + 6 ≤ L) (hw : LwI A0 D ad kA σ h ad2 cA ρ H) (hS : va_S A0 s.heap H locs) (hI : IvL a n σ) (hn : n < 512) (hR : IV ρ) (hJ2 : JL a σ ρ ∧ JqD a σ ρ) (K : ∀ (σ1 : CsC) (ρ1 : RS) (H1 : Heap) (locs1 : List Loc), LwI A0 D ad kA σ1 h ad2 cA ρ1 H1 → va_S A0 s.heap H1 locs1 → IvL a (n + 1) σ1 → IV ρ1 → JL a σ1 ρ1 ∧ JqD a σ1 ρ1 → W p l e room_1 s m args below meth c H1 locs1 (cnC σ1 + 200) (slC σ1 + 200000) Q (F0 m 671 ls [])) : W p l e room_1 s m args below meth c H locs (cnC σ + 200) (slC σ + 200000) Q (F0 m 223 ls []) := by
  obtain ⟨S, -, hA, ⟨hK1, hK2, hEv⟩, hGC, hGR, hGL⟩ := id C
  obtain ⟨hx, hb, hml, hown, hts⟩ := id S
  obtain ⟨hJ, hQD⟩ := hJ2
  obtain ⟨h1, h2, h3, h4, h5, h6⟩ := id hI
  refine lv_aload_n hx hb dL_law_223 rfl (lv_at hl 2 rfl) ?_
  obtain ⟨hp, hq⟩ := ls_place hI hn 
  have hroom : 1 + 1 ≤ room_1.frames ∧ 8 + (rX11_place.2.2.1 + 11) + 100 * 1 ≤ room_1.locals := by decide
  refine W.eq (g2 := F0 m 224 ls ((([] : List AvC).map (cvC ad)).reverse ++ .ref (ad a) :: [])) rfl (lwC (As := []) (rest := []) (P := P_X11_place) (Qm := Q_X11_place) S (m_X11_place l) hX11_place (lgoC hX11_place (hGL _ (by simp [lwL, rX11_place])) rfl (by decide) (by decide +kernel) hGC) hroom hw hS hA hK1 hEv h3 (by decide) (h2.ob (by decide)) hp rfl hl.1 (by decide) dL_law_224 ⟨?_, ?_⟩ (fun w τ H1 locs1 hq1 hw1 hS1 g1 => ?_))
  · show cnC σ + 200 + (cpC σ - cnC σ) ≤ 600000; have := h3.2.2.1.1; omega
  · show slC σ + 200000 + (spC σ - slC σ) ≤ 7302250; have := h3.2.2.1.2; omega
  obtain ⟨hI1, hE, hK, r, rfl⟩ := hq w τ hq1 g1
  have e1 : cnC σ + 200 + (cnC τ - cnC σ) = cnC τ + 200 := by have := g1.1.1; omega
  have e2 : slC σ + 200000 + (slC τ - slC σ) = slC τ + 200000 := by have := g1.1.2; omega
  rw [e1, e2]
  refine W.eq (g2 := F0 m 227 ls [.int r]) rfl ?_
  refine lv_pop hx hb dL_law_227 rfl ?_
  refine lv_aload_n hx hb dL_law_228 rfl (lv_at hl 1 rfl) ?_
  refine W.eq (g2 := F0 m 229 ls ((([] : List Value).map (rcv h ad2)).reverse ++ .ref h :: [])) rfl (lwR (As := []) (rest := []) (P := Pi_place) (Qm := (fun As σ w τ => Qi_place As σ w τ ∧ F8 σ τ)) S (i8_place l) (row := _) rfl (lgoR (μ := 124) rfl (hGL _ (by simp [lwL])) hGR) (by decide) hw1 hS1 hA hK2 hR rfl hl.1 (Nat.le_of_ble_eq_true rfl) dL_law_229 ⟨?_, ?_⟩ (fun w2 ρ1 H2 locs2 hq2 hw2 hS2 => ?_))
  · show cnC τ + 200 ≤ 600000; have := hI1.2.2.1.2.2.1.1; have := hI1.2.2.2.1.1; omega
  · show slC τ + 200000 ≤ 7302250; have := hI1.2.2.1.2.2.1.2; have := hI1.2.2.2.1.2; omega
  obtain ⟨⟨hans2, hR1, hE2⟩, h8⟩ := hq2
  obtain ⟨r2, rfl⟩ := hans2
  have hJ1 : JL a τ ρ1 := hJ.k hK (by rw [hE.1, hE2.1]; exact hJ.1) (by rw [hE.2, hE2.2.1]; exact hJ.2.1) (by rw [hE.1]; exact Int.le_refl _) hE2.2.2.1 hE2.2.2.2
  obtain ⟨_, _, hst⟩ := id hq1
  have hQ1 : JqD a τ ρ1 := hQD.k h1.1 h2 (by rw [← hst]; exact CkK.rf) (hE2.2.2.2).2.1 (hE2.2.2.2).2.2 (fun _ q => q.f8 h8)
  refine W.eq (g2 := F0 m 232 ls [.int r2]) rfl ?_
  refine lv_pop hx hb dL_law_232 rfl ?_
  exact lv_goto (tgt := 671) hx hb dL_law_233 (by decide) (K τ ρ1 H2 locs2 hw2 hS2 hI1 hR1 ⟨hJ1, hQ1⟩)
set_option maxRecDepth 20000 in
theorem lk_judge (C : LcX p s m args c b L xs Ts A0 D ad kA cA) (hl : lv_has ls 4 [(3, .int i), (2, .ref h), (1, .ref (ad a)), (0, .ref b)]) (hi : 0 ≤ i.toInt ∧ i.toInt + 6 ≤ L) (hw : LwI A0 D ad kA σ h ad2 cA ρ H) (hS : va_S A0 s.heap H locs) (hI : IvL a n σ) (hn : n < 512) (hR : IV ρ) (hJ2 : JL a σ ρ ∧ JqD a σ ρ) (K : ∀ (σ1 : CsC) (ρ1 : RS) (H1 : Heap) (locs1 : List Loc), LwI A0 D ad kA σ1 h ad2 cA ρ1 H1 → va_S A0 s.heap H1 locs1 → IvL a (n + 1) σ1 → IV ρ1 → JL a σ1 ρ1 ∧ JqD a σ1 ρ1 → W p l e room_1 s m args below meth c H1 locs1 (cnC σ1 + 200) (slC σ1 + 200000) Q (F0 m 671 ls [])) : W p l e room_1 s m args below meth c H locs (cnC σ + 200) (slC σ + 200000) Q (F0 m 236 ls []) := by
  obtain ⟨S, -, hA, ⟨hK1, hK2, hEv⟩, hGC, hGR, hGL⟩ := id C
  obtain ⟨hx, hb, hml, hown, hts⟩ := id S
  obtain ⟨hJ, hQD⟩ := hJ2
  obtain ⟨h1, h2, h3, h4, h5, h6⟩ := id hI
  refine lv_aload_n hx hb dL_law_236 rfl (lv_at hl 2 rfl) ?_
  obtain ⟨hp, hq⟩ := ls_judge hI hn 
  have hroom : 1 + 1 ≤ room_1.frames ∧ 8 + (rX11_judge.2.2.1 + 11) + 100 * 1 ≤ room_1.locals := by decide
  refine W.eq (g2 := F0 m 237 ls ((([] : List AvC).map (cvC ad)).reverse ++ .ref (ad a) :: [])) rfl (lwC (As := []) (rest := []) (P := P_X11_judge) (Qm := (EvQ (1 + 1) 206 Q_X11_judge)) S (v_X11_judge l) hX11_judge (lgoC hX11_judge (hGL _ (by simp [lwL, rX11_judge])) rfl (by decide) (by decide +kernel) hGC) hroom hw hS hA hK1 hEv h3 (by decide) (h2.ob (by decide)) hp rfl hl.1 (by decide) dL_law_237 ⟨?_, ?_⟩ (fun w τ H1 locs1 hq1 hw1 hS1 g1 => ?_))
  · show cnC σ + 200 + (cpC σ - cnC σ) ≤ 600000; have := h3.2.2.1.1; omega
  · show slC σ + 200000 + (spC σ - slC σ) ≤ 7302250; have := h3.2.2.1.2; omega
  obtain ⟨hI1, hE, hK, r, rfl⟩ := hq w τ hq1.1 g1
  have e1 : cnC σ + 200 + (cnC τ - cnC σ) = cnC τ + 200 := by have := g1.1.1; omega
  have e2 : slC σ + 200000 + (slC τ - slC σ) = slC τ + 200000 := by have := g1.1.2; omega
  rw [e1, e2]
  refine W.eq (g2 := F0 m 240 ls [.int r]) rfl ?_
  refine lv_pop hx hb dL_law_240 rfl ?_
  refine lv_aload_n hx hb dL_law_241 rfl (lv_at hl 1 rfl) ?_
  refine W.eq (g2 := F0 m 242 ls ((([] : List Value).map (rcv h ad2)).reverse ++ .ref h :: [])) rfl (lwR (As := []) (rest := []) (P := Pi_judge) (Qm := (fun As σ w τ => Qi_judge As σ w τ ∧ EvM 126 As σ w τ)) S (i8_judge l) (row := _) rfl (lgoR (μ := 126) rfl (hGL _ (by simp [lwL])) hGR) (by decide) hw1 hS1 hA hK2 hR rfl hl.1 (Nat.le_of_ble_eq_true rfl) dL_law_242 ⟨?_, ?_⟩ (fun w2 ρ1 H2 locs2 hq2 hw2 hS2 => ?_))
  · show cnC τ + 200 ≤ 600000; have := hI1.2.2.1.2.2.1.1; have := hI1.2.2.2.1.1; omega
  · show slC τ + 200000 ≤ 7302250; have := hI1.2.2.1.2.2.1.2; have := hI1.2.2.2.1.2; omega
  obtain ⟨⟨hans2, hR1, hE2⟩, h8⟩ := hq2
  obtain ⟨r2, rfl⟩ := hans2
  have hJ1 : JL a τ ρ1 := hJ.k hK (by rw [hE.1, hE2.1]; exact hJ.1) (by rw [hE.2, hE2.2.1]; exact hJ.2.1) (by rw [hE.1]; exact Int.le_refl _) hE2.2.2.1 hE2.2.2.2
  obtain ⟨_, _, _, hEx⟩ := id hq1.1
  have hQ1 : JqD a τ ρ1 := hQD.k h1.1 h2 (CkK.fx h1.1 h2 ((hq1.2.fr (M := [371]) (by decide +kernel))) hEx rfl rfl) (hE2.2.2.2).2.1 (hE2.2.2.2).2.2 (fun _ q => q.judge hR.1.1.1 h8)
  refine W.eq (g2 := F0 m 245 ls [.int r2]) rfl ?_
  refine lv_pop hx hb dL_law_245 rfl ?_
  exact lv_goto (tgt := 671) hx hb dL_law_246 (by decide) (K τ ρ1 H2 locs2 hw2 hS2 hI1 hR1 ⟨hJ1, hQ1⟩)
set_option maxRecDepth 20000 in
theorem lk_told (C : LcX p s m args c b L xs Ts A0 D ad kA cA) (hl : lv_has ls 4 [(3, .int i), (2, .ref h), (1, .ref (ad a)), (0, .ref b)]) (hi : 0 ≤ i.toInt ∧ i.toInt + 6 ≤ L) (hw : LwI A0 D ad kA σ h ad2 cA ρ H) (hS : va_S A0 s.heap H locs) (hI : IvL a n σ) (hn : n < 512) (hR : IV ρ) (hJ2 : JL a σ ρ ∧ JqD a σ ρ) (K : ∀ (σ1 : CsC) (ρ1 : RS) (H1 : Heap) (locs1 : List Loc), LwI A0 D ad kA σ1 h ad2 cA ρ1 H1 → va_S A0 s.heap H1 locs1 → IvL a (n + 1) σ1 → IV ρ1 → JL a σ1 ρ1 ∧ JqD a σ1 ρ1 → W p l e room_1 s m args below meth c H1 locs1 (cnC σ1 + 200) (slC σ1 + 200000) Q (F0 m 671 ls [])) : W p l e room_1 s m args below meth c H locs (cnC σ + 200) (slC σ + 200000) Q (F0 m 249 ls []) := by
  obtain ⟨S, -, hA, ⟨hK1, hK2, hEv⟩, hGC, hGR, hGL⟩ := id C
  obtain ⟨hx, hb, hml, hown, hts⟩ := id S
  obtain ⟨hJ, hQD⟩ := hJ2
  obtain ⟨h1, h2, h3, h4, h5, h6⟩ := id hI
  refine lv_aload_n hx hb dL_law_249 rfl (lv_at hl 2 rfl) ?_
  refine lcell (k := 1) (kv := 1) C (lv_at hl 3 rfl) (lv_at hl 0 rfl) hi hS (by decide) (by decide) dL_law_250 dL_law_251 dL_law_252 dL_law_253 dL_law_254 ?_
  obtain ⟨hp, hq⟩ := ls_told hI hn (xs (i + 1).toNatClampNeg)
  have hroom : 11 + 1 ≤ room_1.frames ∧ 8 + (rX11_told.2.2.1 + 11) + 100 * 11 ≤ room_1.locals := by decide
  refine W.eq (g2 := F0 m 255 ls ((([.inl (xs (i + 1).toNatClampNeg)] : List AvC).map (cvC ad)).reverse ++ .ref (ad a) :: [])) rfl (lwC (As := [.inl (xs (i + 1).toNatClampNeg)]) (rest := []) (P := P_X11_told) (Qm := Q_X11_told) S (m_X11_told l) hX11_told (lgoC hX11_told (hGL _ (by simp [lwL, rX11_told])) rfl (by decide) (by decide +kernel) hGC) hroom hw hS hA hK1 hEv h3 (by decide) (h2.ob (by decide)) hp rfl hl.1 (by decide) dL_law_255 ⟨?_, ?_⟩ (fun w τ H1 locs1 hq1 hw1 hS1 g1 => ?_))
  · show cnC σ + 200 + (cpC σ - cnC σ) ≤ 600000; have := h3.2.2.1.1; omega
  · show slC σ + 200000 + (spC σ - slC σ) ≤ 7302250; have := h3.2.2.1.2; omega
  obtain ⟨hI1, hE, hK, r, rfl⟩ := hq w τ hq1 g1
  have e1 : cnC σ + 200 + (cnC τ - cnC σ) = cnC τ + 200 := by have := g1.1.1; omega
  have e2 : slC σ + 200000 + (slC τ - slC σ) = slC τ + 200000 := by have := g1.1.2; omega
  rw [e1, e2]
  refine W.eq (g2 := F0 m 258 ls [.int r]) rfl ?_
  refine lv_pop hx hb dL_law_258 rfl ?_
  refine lv_aload_n hx hb dL_law_259 rfl (lv_at hl 1 rfl) ?_
  refine lcell (k := 1) (kv := 1) C (lv_at hl 3 rfl) (lv_at hl 0 rfl) hi hS1 (by decide) (by decide) dL_law_260 dL_law_261 dL_law_262 dL_law_263 dL_law_264 ?_
  refine W.eq (g2 := F0 m 265 ls ((([.int (xs (i + 1).toNatClampNeg)] : List Value).map (rcv h ad2)).reverse ++ .ref h :: [])) rfl (lwR (As := [.int (xs (i + 1).toNatClampNeg)]) (rest := []) (P := Pi_told) (Qm := (fun As σ w τ => Qi_told As σ w τ ∧ F8 σ τ)) S (i8_told l) (row := _) rfl (lgoR (μ := 128) rfl (hGL _ (by simp [lwL])) hGR) (by decide) hw1 hS1 hA hK2 hR rfl hl.1 (Nat.le_of_ble_eq_true rfl) dL_law_265 ⟨?_, ?_⟩ (fun w2 ρ1 H2 locs2 hq2 hw2 hS2 => ?_))
  · show cnC τ + 200 ≤ 600000; have := hI1.2.2.1.2.2.1.1; have := hI1.2.2.2.1.1; omega
  · show slC τ + 200000 ≤ 7302250; have := hI1.2.2.1.2.2.1.2; have := hI1.2.2.2.1.2; omega
  obtain ⟨⟨hans2, hR1, hE2⟩, h8⟩ := hq2
  obtain ⟨r2, rfl⟩ := hans2
  have hJ1 : JL a τ ρ1 := hJ.k hK (by rw [hE.1, hE2.1]; exact hJ.1) (by rw [hE.2, hE2.2.1]; exact hJ.2.1) (by rw [hE.1]; exact Int.le_refl _) hE2.2.2.1 hE2.2.2.2
  obtain ⟨_, _, hst⟩ := id hq1
  have hQ1 : JqD a τ ρ1 := hQD.k h1.1 h2 (by rw [← hst]; exact CkK.rf) (hE2.2.2.2).2.1 (hE2.2.2.2).2.2 (fun _ q => q.f8 h8)
  refine W.eq (g2 := F0 m 268 ls [.int r2]) rfl ?_
  refine lv_pop hx hb dL_law_268 rfl ?_
  exact lv_goto (tgt := 671) hx hb dL_law_269 (by decide) (K τ ρ1 H2 locs2 hw2 hS2 hI1 hR1 ⟨hJ1, hQ1⟩)
set_option maxRecDepth 20000 in
theorem lk_token (C : LcX p s m args c b L xs Ts A0 D ad kA cA) (hl : lv_has ls 4 [(3, .int i), (2, .ref h), (1, .ref (ad a)), (0, .ref b)]) (hi : 0 ≤ i.toInt ∧ i.toInt + 6 ≤ L) (hw : LwI A0 D ad kA σ h ad2 cA ρ H) (hS : va_S A0 s.heap H locs) (hI : IvL a n σ) (hn : n < 512) (hR : IV ρ) (hJ2 : JL a σ ρ ∧ JqD a σ ρ) (K : ∀ (σ1 : CsC) (ρ1 : RS) (H1 : Heap) (locs1 : List Loc), LwI A0 D ad kA σ1 h ad2 cA ρ1 H1 → va_S A0 s.heap H1 locs1 → IvL a (n + 1) σ1 → IV ρ1 → JL a σ1 ρ1 ∧ JqD a σ1 ρ1 → W p l e room_1 s m args below meth c H1 locs1 (cnC σ1 + 200) (slC σ1 + 200000) Q (F0 m 671 ls [])) : W p l e room_1 s m args below meth c H locs (cnC σ + 200) (slC σ + 200000) Q (F0 m 272 ls []) := by
  obtain ⟨S, -, hA, ⟨hK1, hK2, hEv⟩, hGC, hGR, hGL⟩ := id C
  obtain ⟨hx, hb, hml, hown, hts⟩ := id S
  obtain ⟨hJ, hQD⟩ := hJ2
  obtain ⟨h1, h2, h3, h4, h5, h6⟩ := id hI
  refine lv_aload_n hx hb dL_law_272 rfl (lv_at hl 2 rfl) ?_
  refine lcell (k := 1) (kv := 1) C (lv_at hl 3 rfl) (lv_at hl 0 rfl) hi hS (by decide) (by decide) dL_law_273 dL_law_274 dL_law_275 dL_law_276 dL_law_277 ?_
  refine lcell (k := 2) (kv := 2) C (lv_at hl 3 rfl) (lv_at hl 0 rfl) hi hS (by decide) (by decide) dL_law_278 dL_law_279 dL_law_280 dL_law_281 dL_law_282 ?_
  obtain ⟨hp, hq⟩ := ls_token hI hn (xs (i + 1).toNatClampNeg) (xs (i + 2).toNatClampNeg)
  have hroom : 2 + 1 ≤ room_1.frames ∧ 8 + (rX11_token.2.2.1 + 11) + 100 * 2 ≤ room_1.locals := by decide
  refine W.eq (g2 := F0 m 283 ls ((([.inl (xs (i + 1).toNatClampNeg), .inl (xs (i + 2).toNatClampNeg)] : List AvC).map (cvC ad)).reverse ++ .ref (ad a) :: [])) rfl (lwC (As := [.inl (xs (i + 1).toNatClampNeg), .inl (xs (i + 2).toNatClampNeg)]) (rest := []) (P := P_X11_token) (Qm := Q_X11_token) S (m_X11_token l) hX11_token (lgoC hX11_token (hGL _ (by simp [lwL, rX11_token])) rfl (by decide) (by decide +kernel) hGC) hroom hw hS hA hK1 hEv h3 (by decide) (h2.ob (by decide)) hp rfl hl.1 (by decide) dL_law_283 ⟨?_, ?_⟩ (fun w τ H1 locs1 hq1 hw1 hS1 g1 => ?_))
  · show cnC σ + 200 + (cpC σ - cnC σ) ≤ 600000; have := h3.2.2.1.1; omega
  · show slC σ + 200000 + (spC σ - slC σ) ≤ 7302250; have := h3.2.2.1.2; omega
  obtain ⟨hI1, hE, hK, r, rfl⟩ := hq w τ hq1 g1
  have e1 : cnC σ + 200 + (cnC τ - cnC σ) = cnC τ + 200 := by have := g1.1.1; omega
  have e2 : slC σ + 200000 + (slC τ - slC σ) = slC τ + 200000 := by have := g1.1.2; omega
  rw [e1, e2]
  refine W.eq (g2 := F0 m 286 ls [.int r]) rfl ?_
  refine lv_pop hx hb dL_law_286 rfl ?_
  refine lv_aload_n hx hb dL_law_287 rfl (lv_at hl 1 rfl) ?_
  refine lcell (k := 1) (kv := 1) C (lv_at hl 3 rfl) (lv_at hl 0 rfl) hi hS1 (by decide) (by decide) dL_law_288 dL_law_289 dL_law_290 dL_law_291 dL_law_292 ?_
  refine lcell (k := 2) (kv := 2) C (lv_at hl 3 rfl) (lv_at hl 0 rfl) hi hS1 (by decide) (by decide) dL_law_293 dL_law_294 dL_law_295 dL_law_296 dL_law_297 ?_
  refine W.eq (g2 := F0 m 298 ls ((([.int (xs (i + 1).toNatClampNeg), .int (xs (i + 2).toNatClampNeg)] : List Value).map (rcv h ad2)).reverse ++ .ref h :: [])) rfl (lwR (As := [.int (xs (i + 1).toNatClampNeg), .int (xs (i + 2).toNatClampNeg)]) (rest := []) (P := Pi_token) (Qm := (fun As σ w τ => Qi_token As σ w τ ∧ F8 σ τ)) S (i8_token l) (row := _) rfl (lgoR (μ := 130) rfl (hGL _ (by simp [lwL])) hGR) (by decide) hw1 hS1 hA hK2 hR rfl hl.1 (Nat.le_of_ble_eq_true rfl) dL_law_298 ⟨?_, ?_⟩ (fun w2 ρ1 H2 locs2 hq2 hw2 hS2 => ?_))
  · show cnC τ + 200 ≤ 600000; have := hI1.2.2.1.2.2.1.1; have := hI1.2.2.2.1.1; omega
  · show slC τ + 200000 ≤ 7302250; have := hI1.2.2.1.2.2.1.2; have := hI1.2.2.2.1.2; omega
  obtain ⟨⟨hans2, hR1, hE2⟩, h8⟩ := hq2
  obtain ⟨r2, rfl⟩ := hans2
  have hJ1 : JL a τ ρ1 := hJ.k hK (by rw [hE.1, hE2.1]; exact hJ.1) (by rw [hE.2, hE2.2.1]; exact hJ.2.1) (by rw [hE.1]; exact Int.le_refl _) hE2.2.2.1 hE2.2.2.2
  obtain ⟨_, _, hst⟩ := id hq1
  have hQ1 : JqD a τ ρ1 := hQD.k h1.1 h2 (by rw [← hst]; exact CkK.rf) (hE2.2.2.2).2.1 (hE2.2.2.2).2.2 (fun _ q => q.f8 h8)
  refine W.eq (g2 := F0 m 301 ls [.int r2]) rfl ?_
  refine lv_pop hx hb dL_law_301 rfl ?_
  exact lv_goto (tgt := 671) hx hb dL_law_302 (by decide) (K τ ρ1 H2 locs2 hw2 hS2 hI1 hR1 ⟨hJ1, hQ1⟩)
set_option maxRecDepth 20000 in
theorem lk_method (C : LcX p s m args c b L xs Ts A0 D ad kA cA) (hl : lv_has ls 4 [(3, .int i), (2, .ref h), (1, .ref (ad a)), (0, .ref b)]) (hi : 0 ≤ i.toInt ∧ i.toInt + 6 ≤ L) (hw : LwI A0 D ad kA σ h ad2 cA ρ H) (hS : va_S A0 s.heap H locs) (hI : IvL a n σ) (hn : n < 512) (hR : IV ρ) (hJ2 : JL a σ ρ ∧ JqD a σ ρ) (K : ∀ (σ1 : CsC) (ρ1 : RS) (H1 : Heap) (locs1 : List Loc), LwI A0 D ad kA σ1 h ad2 cA ρ1 H1 → va_S A0 s.heap H1 locs1 → IvL a (n + 1) σ1 → IV ρ1 → JL a σ1 ρ1 ∧ JqD a σ1 ρ1 → W p l e room_1 s m args below meth c H1 locs1 (cnC σ1 + 200) (slC σ1 + 200000) Q (F0 m 671 ls [])) : W p l e room_1 s m args below meth c H locs (cnC σ + 200) (slC σ + 200000) Q (F0 m 305 ls []) := by
  obtain ⟨S, -, hA, ⟨hK1, hK2, hEv⟩, hGC, hGR, hGL⟩ := id C
  obtain ⟨hx, hb, hml, hown, hts⟩ := id S
  obtain ⟨hJ, hQD⟩ := hJ2
  obtain ⟨h1, h2, h3, h4, h5, h6⟩ := id hI
  refine lv_aload_n hx hb dL_law_305 rfl (lv_at hl 2 rfl) ?_
  refine lcell (k := 1) (kv := 1) C (lv_at hl 3 rfl) (lv_at hl 0 rfl) hi hS (by decide) (by decide) dL_law_306 dL_law_307 dL_law_308 dL_law_309 dL_law_310 ?_
  refine lcell (k := 2) (kv := 2) C (lv_at hl 3 rfl) (lv_at hl 0 rfl) hi hS (by decide) (by decide) dL_law_311 dL_law_312 dL_law_313 dL_law_314 dL_law_315 ?_
  obtain ⟨hp, hq⟩ := ls_method hI hn (xs (i + 1).toNatClampNeg) (xs (i + 2).toNatClampNeg)
  have hroom : 11 + 1 ≤ room_1.frames ∧ 8 + (rX11_method.2.2.1 + 11) + 100 * 11 ≤ room_1.locals := by decide
  refine W.eq (g2 := F0 m 316 ls ((([.inl (xs (i + 1).toNatClampNeg), .inl (xs (i + 2).toNatClampNeg)] : List AvC).map (cvC ad)).reverse ++ .ref (ad a) :: [])) rfl (lwC (As := [.inl (xs (i + 1).toNatClampNeg), .inl (xs (i + 2).toNatClampNeg)]) (rest := []) (P := P_X11_method) (Qm := Q_X11_method) S (m_X11_method l) hX11_method (lgoC hX11_method (hGL _ (by simp [lwL, rX11_method])) rfl (by decide) (by decide +kernel) hGC) hroom hw hS hA hK1 hEv h3 (by decide) (h2.ob (by decide)) hp rfl hl.1 (by decide) dL_law_316 ⟨?_, ?_⟩ (fun w τ H1 locs1 hq1 hw1 hS1 g1 => ?_))
  · show cnC σ + 200 + (cpC σ - cnC σ) ≤ 600000; have := h3.2.2.1.1; omega
  · show slC σ + 200000 + (spC σ - slC σ) ≤ 7302250; have := h3.2.2.1.2; omega
  obtain ⟨hI1, hE, hK, r, rfl⟩ := hq w τ hq1 g1
  have e1 : cnC σ + 200 + (cnC τ - cnC σ) = cnC τ + 200 := by have := g1.1.1; omega
  have e2 : slC σ + 200000 + (slC τ - slC σ) = slC τ + 200000 := by have := g1.1.2; omega
  rw [e1, e2]
  refine W.eq (g2 := F0 m 319 ls [.int r]) rfl ?_
  refine lv_pop hx hb dL_law_319 rfl ?_
  refine lv_aload_n hx hb dL_law_320 rfl (lv_at hl 1 rfl) ?_
  refine lcell (k := 1) (kv := 1) C (lv_at hl 3 rfl) (lv_at hl 0 rfl) hi hS1 (by decide) (by decide) dL_law_321 dL_law_322 dL_law_323 dL_law_324 dL_law_325 ?_
  refine lcell (k := 2) (kv := 2) C (lv_at hl 3 rfl) (lv_at hl 0 rfl) hi hS1 (by decide) (by decide) dL_law_326 dL_law_327 dL_law_328 dL_law_329 dL_law_330 ?_
  refine W.eq (g2 := F0 m 331 ls ((([.int (xs (i + 1).toNatClampNeg), .int (xs (i + 2).toNatClampNeg)] : List Value).map (rcv h ad2)).reverse ++ .ref h :: [])) rfl (lwR (As := [.int (xs (i + 1).toNatClampNeg), .int (xs (i + 2).toNatClampNeg)]) (rest := []) (P := Pi_method) (Qm := (fun As σ w τ => Qi_method As σ w τ ∧ F8 σ τ)) S (i8_method l) (row := _) rfl (lgoR (μ := 131) rfl (hGL _ (by simp [lwL])) hGR) (by decide) hw1 hS1 hA hK2 hR rfl hl.1 (Nat.le_of_ble_eq_true rfl) dL_law_331 ⟨?_, ?_⟩ (fun w2 ρ1 H2 locs2 hq2 hw2 hS2 => ?_))
  · show cnC τ + 200 ≤ 600000; have := hI1.2.2.1.2.2.1.1; have := hI1.2.2.2.1.1; omega
  · show slC τ + 200000 ≤ 7302250; have := hI1.2.2.1.2.2.1.2; have := hI1.2.2.2.1.2; omega
  obtain ⟨⟨hans2, hR1, hE2⟩, h8⟩ := hq2
  obtain ⟨r2, rfl, -⟩ := hans2
  have hJ1 : JL a τ ρ1 := hJ.k hK (by rw [hE.1, hE2.1]; exact hJ.1) (by rw [hE.2, hE2.2.1]; exact hJ.2.1) (by rw [hE.1]; exact Int.le_refl _) hE2.2.2.1 hE2.2.2.2
  obtain ⟨_, _, hst⟩ := id hq1
  have hQ1 : JqD a τ ρ1 := hQD.k h1.1 h2 (by rw [← hst]; exact CkK.rf) (hE2.2.2.2).2.1 (hE2.2.2.2).2.2 (fun _ q => q.f8 h8)
  refine W.eq (g2 := F0 m 334 ls [.int r2]) rfl ?_
  refine lv_pop hx hb dL_law_334 rfl ?_
  exact lv_goto (tgt := 671) hx hb dL_law_335 (by decide) (K τ ρ1 H2 locs2 hw2 hS2 hI1 hR1 ⟨hJ1, hQ1⟩)
set_option maxRecDepth 20000 in
theorem lk_variable (C : LcX p s m args c b L xs Ts A0 D ad kA cA) (hl : lv_has ls 4 [(3, .int i), (2, .ref h), (1, .ref (ad a)), (0, .ref b)]) (hi : 0 ≤ i.toInt ∧ i.toInt + 6 ≤ L) (hw : LwI A0 D ad kA σ h ad2 cA ρ H) (hS : va_S A0 s.heap H locs) (hI : IvL a n σ) (hn : n < 512) (hR : IV ρ) (hJ2 : JL a σ ρ ∧ JqD a σ ρ) (K : ∀ (σ1 : CsC) (ρ1 : RS) (H1 : Heap) (locs1 : List Loc), LwI A0 D ad kA σ1 h ad2 cA ρ1 H1 → va_S A0 s.heap H1 locs1 → IvL a (n + 1) σ1 → IV ρ1 → JL a σ1 ρ1 ∧ JqD a σ1 ρ1 → W p l e room_1 s m args below meth c H1 locs1 (cnC σ1 + 200) (slC σ1 + 200000) Q (F0 m 671 ls [])) : W p l e room_1 s m args below meth c H locs (cnC σ + 200) (slC σ + 200000) Q (F0 m 338 ls []) := by
  obtain ⟨S, -, hA, ⟨hK1, hK2, hEv⟩, hGC, hGR, hGL⟩ := id C
  obtain ⟨hx, hb, hml, hown, hts⟩ := id S
  obtain ⟨hJ, hQD⟩ := hJ2
  obtain ⟨h1, h2, h3, h4, h5, h6⟩ := id hI
  refine lv_aload_n hx hb dL_law_338 rfl (lv_at hl 2 rfl) ?_
  refine lcell (k := 1) (kv := 1) C (lv_at hl 3 rfl) (lv_at hl 0 rfl) hi hS (by decide) (by decide) dL_law_339 dL_law_340 dL_law_341 dL_law_342 dL_law_343 ?_
  refine lcell (k := 2) (kv := 2) C (lv_at hl 3 rfl) (lv_at hl 0 rfl) hi hS (by decide) (by decide) dL_law_344 dL_law_345 dL_law_346 dL_law_347 dL_law_348 ?_
  obtain ⟨hp, hq⟩ := ls_variable hI hn (xs (i + 1).toNatClampNeg) (xs (i + 2).toNatClampNeg)
  have hroom : 11 + 1 ≤ room_1.frames ∧ 8 + (rX11_variable.2.2.1 + 11) + 100 * 11 ≤ room_1.locals := by decide
  refine W.eq (g2 := F0 m 349 ls ((([.inl (xs (i + 1).toNatClampNeg), .inl (xs (i + 2).toNatClampNeg)] : List AvC).map (cvC ad)).reverse ++ .ref (ad a) :: [])) rfl (lwC (As := [.inl (xs (i + 1).toNatClampNeg), .inl (xs (i + 2).toNatClampNeg)]) (rest := []) (P := P_X11_variable) (Qm := Q_X11_variable) S (m_X11_variable l) hX11_variable (lgoC hX11_variable (hGL _ (by simp [lwL, rX11_variable])) rfl (by decide) (by decide +kernel) hGC) hroom hw hS hA hK1 hEv h3 (by decide) (h2.ob (by decide)) hp rfl hl.1 (by decide) dL_law_349 ⟨?_, ?_⟩ (fun w τ H1 locs1 hq1 hw1 hS1 g1 => ?_))
  · show cnC σ + 200 + (cpC σ - cnC σ) ≤ 600000; have := h3.2.2.1.1; omega
  · show slC σ + 200000 + (spC σ - slC σ) ≤ 7302250; have := h3.2.2.1.2; omega
  obtain ⟨hI1, hE, hK, r, rfl⟩ := hq w τ hq1 g1
  have e1 : cnC σ + 200 + (cnC τ - cnC σ) = cnC τ + 200 := by have := g1.1.1; omega
  have e2 : slC σ + 200000 + (slC τ - slC σ) = slC τ + 200000 := by have := g1.1.2; omega
  rw [e1, e2]
  refine W.eq (g2 := F0 m 352 ls [.int r]) rfl ?_
  refine lv_pop hx hb dL_law_352 rfl ?_
  refine lv_aload_n hx hb dL_law_353 rfl (lv_at hl 1 rfl) ?_
  refine lcell (k := 1) (kv := 1) C (lv_at hl 3 rfl) (lv_at hl 0 rfl) hi hS1 (by decide) (by decide) dL_law_354 dL_law_355 dL_law_356 dL_law_357 dL_law_358 ?_
  refine lcell (k := 2) (kv := 2) C (lv_at hl 3 rfl) (lv_at hl 0 rfl) hi hS1 (by decide) (by decide) dL_law_359 dL_law_360 dL_law_361 dL_law_362 dL_law_363 ?_
  refine W.eq (g2 := F0 m 364 ls ((([.int (xs (i + 1).toNatClampNeg), .int (xs (i + 2).toNatClampNeg)] : List Value).map (rcv h ad2)).reverse ++ .ref h :: [])) rfl (lwR (As := [.int (xs (i + 1).toNatClampNeg), .int (xs (i + 2).toNatClampNeg)]) (rest := []) (P := Pi_variable) (Qm := (fun As σ w τ => Qi_variable As σ w τ ∧ F8 σ τ)) S (i8_variable l) (row := _) rfl (lgoR (μ := 132) rfl (hGL _ (by simp [lwL])) hGR) (by decide) hw1 hS1 hA hK2 hR rfl hl.1 (Nat.le_of_ble_eq_true rfl) dL_law_364 ⟨?_, ?_⟩ (fun w2 ρ1 H2 locs2 hq2 hw2 hS2 => ?_))
  · show cnC τ + 200 ≤ 600000; have := hI1.2.2.1.2.2.1.1; have := hI1.2.2.2.1.1; omega
  · show slC τ + 200000 ≤ 7302250; have := hI1.2.2.1.2.2.1.2; have := hI1.2.2.2.1.2; omega
  obtain ⟨⟨hans2, hR1, hE2⟩, h8⟩ := hq2
  obtain ⟨r2, rfl⟩ := hans2
  have hJ1 : JL a τ ρ1 := hJ.k hK (by rw [hE.1, hE2.1]; exact hJ.1) (by rw [hE.2, hE2.2.1]; exact hJ.2.1) (by rw [hE.1]; exact Int.le_refl _) hE2.2.2.1 hE2.2.2.2
  obtain ⟨_, _, hst⟩ := id hq1
  have hQ1 : JqD a τ ρ1 := hQD.k h1.1 h2 (by rw [← hst]; exact CkK.rf) (hE2.2.2.2).2.1 (hE2.2.2.2).2.2 (fun _ q => q.f8 h8)
  refine W.eq (g2 := F0 m 367 ls [.int r2]) rfl ?_
  refine lv_pop hx hb dL_law_367 rfl ?_
  exact lv_goto (tgt := 671) hx hb dL_law_368 (by decide) (K τ ρ1 H2 locs2 hw2 hS2 hI1 hR1 ⟨hJ1, hQ1⟩)
end LWK
