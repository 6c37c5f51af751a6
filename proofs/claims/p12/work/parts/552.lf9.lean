/-! what is given at the law's start -/
set_option maxRecDepth 100000 in
theorem in_nl : ∀ w ∈ (nlC.map (fun q => Cond.methodLinkNest (owC q.1) q.2.1 (ynC q.2.2) "PlainJava")), w ∈ lw_tbl := in_pw [(4, 108), (4, 127), (5, 53), (5, 110), (5, 220), (6, 1), (6, 7), (6, 47), (6, 53), (6, 84), (6, 99), (6, 196), (7, 11), (7, 197), (7, 227), (7, 236), (7, 237)] (by rfl)
set_option maxRecDepth 100000 in
theorem in_rl : ∀ w ∈ (rlC.map (fun q => Cond.stringRef (owC q.1) q.2.1 (txC.getD q.2.2 ""))), w ∈ lw_tbl := in_pw [(1, 46), (1, 169), (2, 102), (3, 198)] (by rfl)
set_option maxRecDepth 100000 in
theorem in_ca : ∀ w ∈ ([2, 6, 9, 11].map (fun c => Cond.castable (owC c) "java/lang/Object")), w ∈ lw_tbl := in_pw [(13, 16), (13, 7), (13, 8), (13, 15)] (by rfl)
theorem sw_zS : Cond.laysStatic "java/lang/String" "COMPACT_STRINGS" "Z" ∈ lw_tbl := lwk_in (q := (1, 56)) (by rfl)
theorem sw_iS : Cond.initialized "java/lang/String" ∈ lw_tbl := lwk_in (q := (1, 4)) (by rfl)
theorem sw_zP : Cond.laysStatic "jdk/internal/util/Preconditions" "SIOOBE_FORMATTER" "Ljava/util/function/BiFunction;" ∈ lw_tbl := lwk_in (q := (1, 72)) (by rfl)
theorem sw_iP : Cond.initialized "jdk/internal/util/Preconditions" ∈ lw_tbl := lwk_in (q := (1, 6)) (by rfl)
theorem sw_zA : Cond.laysStatic "java/util/ArrayList" "DEFAULTCAPACITY_EMPTY_ELEMENTDATA" "[Ljava/lang/Object;" ∈ lw_tbl := lwk_in (q := (1, 154)) (by rfl)
theorem sw_iA : Cond.initialized "java/util/ArrayList" ∈ lw_tbl := lwk_in (q := (1, 10)) (by rfl)
theorem sw_zT : Cond.laysStatic "PlainJava" "STRENGTHS" "[I" ∈ lw_tbl := lwk_in (q := (5, 114)) (by rfl)
theorem sw_zO : Cond.laysStatic "PlainJava" "OPERATORS" "[I" ∈ lw_tbl := lwk_in (q := (5, 57)) (by rfl)
theorem sw_iJ : Cond.initialized "PlainJava" ∈ lw_tbl := lwk_in (q := (1, 1)) (by rfl)
theorem sw_oE : Cond.arrayOver (.object "PlainJava$Exp") ∈ lw_tbl := lwk_in (q := (2, 225)) (by rfl)
theorem sw_oT : Cond.arrayOver (.object "PlainJava$Statement") ∈ lw_tbl := lwk_in (q := (2, 227)) (by rfl)
theorem sw_oO : Cond.arrayOver (.object "java/lang/Object") ∈ lw_tbl := lwk_in (q := (4, 39)) (by rfl)
theorem sw_dG : Cond.declares ⟨"java/lang/Object", "getClass", "()Ljava/lang/Class;"⟩ ∈ lw_tbl := lwk_in (q := (13, 3)) (by rfl)
theorem sw_aI : Cond.arrayClass .int ∈ lw_tbl := lwk_in (q := (1, 139)) (by rfl)
theorem sw_aY : Cond.arrayClass .byte ∈ lw_tbl := lwk_in (q := (1, 138)) (by rfl)
theorem sw_aL : Cond.arrayClass .long ∈ lw_tbl := lwk_in (q := (1, 140)) (by rfl)
theorem sw_aB : Cond.arrayClass .boolean ∈ lw_tbl := lwk_in (q := (10, 35)) (by rfl)
theorem sw_n13 : Cond.instantiable RX12 150 ∈ lw_tbl := lwk_in (q := (8, 59)) (by rfl)
theorem sw_l7 : Cond.classLink RZL 7 RX11 ∈ lw_tbl := lwk_in (q := (1, 26)) (by rfl)
theorem sw_l9 : Cond.methodLink RZL 9 yX11_init ∈ lw_tbl := lwk_in (q := (1, 28)) (by rfl)
theorem sw_l10 : Cond.classLink RZL 10 RX12 ∈ lw_tbl := lwk_in (q := (8, 58)) (by rfl)
theorem sw_l12 : Cond.methodLink RZL 12 yX12_init ∈ lw_tbl := lwk_in (q := (8, 60)) (by rfl)
theorem sw_m12 : Cond.instanceMethod yX12_init ∈ lw_tbl := lwk_in (q := (8, 61)) (by rfl)
theorem sw_c12 : Cond.code yX12_init cX12_init 1 none ∈ lw_tbl := lwk_in (q := (8, 62)) (by rfl)
theorem sw_o12 : Cond.methodLink RX12 1 objectInit ∈ lw_tbl := lwk_in (q := (8, 63)) (by rfl)
theorem vk_S.re {len : List Nat} {byt : List (List Int32)} {aK aV bK bV : Nat → Nat} {A : Nat → Prop} {U : State} {H : Heap} (h : vk_S 4 len byt bK bV A U H) (e1 : ∀ i, i < 4 → aK i = bK i) (e2 : ∀ i, i < 4 → aV i = bV i) : vk_S 4 len byt aK aV A U H := by
  refine ⟨fun i hi => ?_, fun i j hi hj e => h.2 i j hi hj (by rw [← e1 i hi, ← e1 j hj]; exact e)⟩
  rw [e1 i hi, e2 i hi]
  exact h.1 i hi
def jtm : Nat → Term := fun i => match i with
  | 0 => .string "PlainJava$Tokens" 35
  | 1 => .string "PlainJava$Program" 36
  | 2 => .string "PlainJava$Program" 48
  | _ => .string "PlainJava$Tokens" 94
def gvn : List Cond := flatC (Jvm.Cond.and given_1 narrow_1)
def jex : List Nat := [74, 213, 221, 229]
theorem gx_0 : ∀ i, i < 4 → gvn[jex.getD i 0]? = some (Cond.exactly (jtm i) "java/lang/String") := by decide +kernel
theorem gx_1 : ∀ i, i < 4 → gvn[jex.getD i 0 + 1]? = some (Cond.eq (.field (jtm i) "java/lang/String" "coder" "B") (.int 0)) := by decide +kernel
theorem gx_2 : ∀ i, i < 4 → gvn[jex.getD i 0 + 2]? = some (Cond.arrayOf (.field (jtm i) "java/lang/String" "value" "[B") .byte) := by decide +kernel
theorem gx_3 : ∀ i, i < 4 → gvn[jex.getD i 0 + 3]? = some (Cond.eq (.length (.field (jtm i) "java/lang/String" "value" "[B")) (.int (Int32.ofNat (jlen.getD i 0)))) := by decide +kernel
theorem gx_4 : ∀ i, i < 4 → ∀ j, j < jlen.getD i 0 → gvn[jex.getD i 0 + 4 + j]? = some (Cond.eq (.elem (.field (jtm i) "java/lang/String" "value" "[B") (.int (Int32.ofNat j))) (.int ((jbyt.getD i []).getD j 0))) := by decide +kernel
theorem gx_5 : ∀ i, i < 4 → ∀ j, j < 4 → i ≠ j → (Cond.not (Cond.eq (jtm i) (jtm j))) ∈ gvn ∨ (Cond.not (Cond.eq (jtm j) (jtm i))) ∈ gvn := by decide +kernel
abbrev tmE : Term := .static "java/util/ArrayList" "DEFAULTCAPACITY_EMPTY_ELEMENTDATA" "[Ljava/lang/Object;"
abbrev tmS : Term := .static "PlainJava" "STRENGTHS" "[I"
abbrev tmO : Term := .static "PlainJava" "OPERATORS" "[I"
theorem gy_S : ∀ j, j < 43 → gvn[30 + j]? = some (Cond.eq (.elem tmS (.int (Int32.ofNat j))) (.int (stvC.getD j 0))) := by decide +kernel
theorem gy_O : ∀ j, j < 11 → gvn[16 + j]? = some (Cond.eq (.elem tmO (.int (Int32.ofNat j))) (.int (opvC.getD j 0))) := by decide +kernel
/-- what the Statement gives, for any addresses that have the constants' from 1000000 on -/
theorem ev0C {s : State} {b : Nat} (hts : ∀ w ∈ lw_tbl, w.before #[Value.ref b] s = true) (hgv : (Jvm.Cond.and given_1 narrow_1).before #[Value.ref b] s = true) : ∃ g : Nat → Nat, ∀ ad : Nat → Nat, (∀ i, 1000000 ≤ i → ad i = g i) → evC ad (fun q : Nat => s.heap.size ≤ q) s s.heap := by
  have hf : ∀ c ∈ gvn, c.before #[Value.ref b] s = true := flat_of_before _ hgv
  have hA : ∀ a : Nat, a < s.heap.size → ¬ (fun q : Nat => s.heap.size ≤ q) a := fun a h => Nat.not_le.mpr h
  obtain ⟨tE, eE, hE⟩ := va_Tof (args := #[Value.ref b]) (s := s) (tm := tmE) (ty := .object "java/lang/Object") (N := 0) (f := fun _ => .null) (A := fun q : Nat => s.heap.size ≤ q) (by decide) (hf _ (List.mem_of_getElem? (i := 10) (by decide +kernel))) (va_eqt (hf _ (List.mem_of_getElem? (i := 12) (by decide +kernel)))) (fun j hj => absurd hj (Nat.not_lt_zero j)) hA
  obtain ⟨tS, eS, hSt⟩ := va_Tof (args := #[Value.ref b]) (s := s) (tm := tmS) (ty := .int) (N := 43) (f := fun j => .int (stvC.getD j 0)) (A := fun q : Nat => s.heap.size ≤ q) (by decide) (hf _ (List.mem_of_getElem? (i := 28) (by decide +kernel))) (va_eqt (hf _ (List.mem_of_getElem? (i := 29) (by decide +kernel)))) (fun j hj => va_eqt (hf _ (List.mem_of_getElem? (gy_S j hj)))) hA
  obtain ⟨tO, eO, hO⟩ := va_Tof (args := #[Value.ref b]) (s := s) (tm := tmO) (ty := .int) (N := 11) (f := fun j => .int (opvC.getD j 0)) (A := fun q : Nat => s.heap.size ≤ q) (by decide) (hf _ (List.mem_of_getElem? (i := 14) (by decide +kernel))) (va_eqt (hf _ (List.mem_of_getElem? (i := 15) (by decide +kernel)))) (fun j hj => va_eqt (hf _ (List.mem_of_getElem? (gy_O j hj)))) hA
  obtain ⟨adK, adV, hS, hev⟩ := vk_Sof (args := #[Value.ref b]) (N := 4) (tm := jtm) (len := jlen) (byt := jbyt) (A := fun q : Nat => s.heap.size ≤ q) jl_lt (fun i hi => hf _ (List.mem_of_getElem? (gx_0 i hi))) (fun i hi => hf _ (List.mem_of_getElem? (gx_1 i hi))) (fun i hi => hf _ (List.mem_of_getElem? (gx_2 i hi))) (fun i hi => hf _ (List.mem_of_getElem? (gx_3 i hi))) (fun i hi j hj => hf _ (List.mem_of_getElem? (gx_4 i hi j hj))) (fun i j hi hj h => (gx_5 i hi j hj h).elim (fun m => Or.inl (hf _ m)) (fun m => Or.inr (hf _ m))) hA
  obtain ⟨mi, hMi⟩ := va_Mi.of (args := #[Value.ref b]) (s := s) (C := "[Ljava/lang/Object;") (hf _ (List.mem_of_getElem? (i := 73) (by decide +kernel)))
  refine ⟨fun i => if i = 1000000 then tE else if i = 1000001 then tS else if i = 1000002 then tO else if i < 1000007 then adK (i - 1000003) else if i < 1000011 then adV (i - 1000007) else mi, fun ad had => ?_⟩
  have a0 : ad 1000000 = tE := by rw [had _ (by decide)]; rfl
  have a1 : ad 1000001 = tS := by rw [had _ (by decide)]; rfl
  have a2 : ad 1000002 = tO := by rw [had _ (by decide)]; rfl
  have a11 : ad 1000011 = mi := by rw [had _ (by decide)]; rfl
  have aK : ∀ i, i < 4 → ad (1000003 + i) = adK i := fun i hi => by
    rw [had _ (by omega)]
    dsimp only
    rw [if_neg (by omega), if_neg (by omega), if_neg (by omega), if_pos (by omega), show 1000003 + i - 1000003 = i by omega]
  have aV : ∀ i, i < 4 → ad (1000007 + i) = adV i := fun i hi => by
    rw [had _ (by omega)]
    dsimp only
    rw [if_neg (by omega), if_neg (by omega), if_neg (by omega), if_neg (by omega), if_pos (by omega), show 1000007 + i - 1000007 = i by omega]
  refine ⟨⟨hS.re aK aV, va_Zof (hts _ sw_zS) (hts _ sw_iS) (va_eqt (hf _ (List.mem_of_getElem? (i := 4) (by decide +kernel)))) hA, va_Zqof (hts _ sw_zP) (hts _ sw_iP) (hf _ (List.mem_of_getElem? (i := 5) (by decide +kernel))) hA⟩, ⟨by rw [a0]; exact va_Zof (hts _ sw_zA) (hts _ sw_iA) eE hA, by rw [a0]; exact hE⟩, ⟨by rw [a1]; exact va_Zof (hts _ sw_zT) (hts _ sw_iJ) eS hA, by rw [a1]; exact hSt⟩, ⟨by rw [a2]; exact va_Zof (hts _ sw_zO) (hts _ sw_iJ) eO hA, by rw [a2]; exact hO⟩, ⟨va_AO.of (hts _ sw_oE), va_AO.of (hts _ sw_oT), va_AO.of (hts _ sw_oO), fun c hc => ?_⟩, fun q hq => ?_, fun q hq => ?_, by rw [a11]; exact hMi, va_Dc.of (hts _ sw_dG)⟩
  · exact va_Nw.of rfl (hts _ (in_ca _ (List.mem_map.mpr ⟨c, by rcases hc with rfl | rfl | rfl | rfl <;> simp, rfl⟩)))
  · have h1 := hts _ (in_rl _ (List.mem_map.mpr ⟨q, hq, rfl⟩))
    have h2 : q.2.2 < 4 ∧ (Term.string (owC q.1) q.2.1) = jtm q.2.2 := (by decide +kernel : ∀ q ∈ rlC, q.2.2 < 4 ∧ (Term.string (owC q.1) q.2.1) = jtm q.2.2) q hq
    rw [aK _ h2.1]
    exact vk_R.of h1 (by rw [h2.2]; exact hev _ h2.1)
  · exact va_Nw.of rfl (hts _ (in_nl _ (List.mem_map.mpr ⟨q, hq, rfl⟩)))
/-! classes of rows, and of all objects -/
theorem ra_I {s : State} {args : Array Value} (h : (Cond.arrayClass .int).before args s = true) : ∃ cA, ArrOfT s cA .int ∧ va_RA s cA .int := by
  obtain ⟨cA, kA, comp, h1, h2, h3⟩ := Cond.arrayClass_spec h
  exact ⟨cA, fun n z => ⟨fun k h => (by cases h), kA, h2, comp, h3⟩, h1⟩
theorem ra_Y {s : State} {args : Array Value} (h : (Cond.arrayClass .byte).before args s = true) : ∃ cA, ArrOfT s cA .byte ∧ va_RA s cA .byte := by
  obtain ⟨cA, kA, comp, h1, h2, h3⟩ := Cond.arrayClass_spec h
  exact ⟨cA, fun n z => ⟨fun k h => (by cases h), kA, h2, comp, h3⟩, h1⟩
theorem ra_L {s : State} {args : Array Value} (h : (Cond.arrayClass .long).before args s = true) : ∃ cA, ArrOfT s cA .long ∧ va_RA s cA .long := by
  obtain ⟨cA, kA, comp, h1, h2, h3⟩ := Cond.arrayClass_spec h
  exact ⟨cA, fun n z => ⟨fun k h => (by cases h), kA, h2, comp, h3⟩, h1⟩
theorem ra_B {s : State} {args : Array Value} (h : (Cond.arrayClass .boolean).before args s = true) : ∃ cA, ArrOfT s cA .boolean ∧ va_RA s cA .boolean := by
  obtain ⟨cA, kA, comp, h1, h2, h3⟩ := Cond.arrayClass_spec h
  exact ⟨cA, fun n z => ⟨fun k h => (by cases h), kA, h2, comp, h3⟩, h1⟩
theorem ra_O {s : State} {args : Array Value} {C : String} (h : (Cond.arrayOver (.object C)).before args s = true) : ∃ cA, ArrOfT s cA (.object C) ∧ va_RA s cA (.object C) := by
  obtain ⟨comp, cA, kA, f4, -, f2, f3, f1⟩ := Cond.arrayOver_spec h
  exact ⟨cA, fun N z => ⟨(fun k h => by cases h), kA, f2, comp, f3⟩, kA, comp, f2, f3, f4, f1⟩
theorem kn0C {s : State} {args : Array Value} (hts : ∀ w ∈ lw_tbl, w.before args s = true) : ∃ (D : va_G) (kA cA : Nat → ClassId), va_K D vwCl (tyC kA) s ∧ va_K D vwCl (RT cA) s := by
  have h13 : ∀ k : Nat, ∃ x : ClassId × (Nat → Nat), ∀ q : vw_C, vwCl[k]? = some q → u_Kn s q.1 q.2.1 q.2.2 x.1 x.2 := by
    intro k
    by_cases h : k < 13
    · obtain ⟨c, i, h9⟩ := u_known (C := owC k) (T := TcC k) (N := nfC k) (n := nfC k) hts (fun w hw => in_cGC _ (cG_z h (vwC_at h) hw)) (hts _ (in_cGC _ (cG_p h (w := .instantiable (owC k) (nfC k)) (by unfold wpC; simp))))
      refine ⟨(c, i), fun q hq => ?_⟩
      rw [vwC_at h] at hq
      cases hq
      exact h9
    · obtain ⟨c, i, h9⟩ := u_known (C := RX12) (T := TX12) (N := 150) (n := 150) hts (fun w hw => in_wG _ (wG_T hw)) (hts _ sw_n13)
      refine ⟨(c, i), fun q hq => ?_⟩
      have hk : k < 14 := (List.getElem?_eq_some_iff.mp hq).1
      obtain rfl : k = 13 := by omega
      cases hq
      exact h9
  obtain ⟨f, hf⟩ := Classical.skolem.mp h13
  obtain ⟨cI, hI⟩ := ra_I (hts _ sw_aI)
  obtain ⟨cY, hY⟩ := ra_Y (hts _ sw_aY)
  obtain ⟨cL, hL⟩ := ra_L (hts _ sw_aL)
  obtain ⟨cB, hB⟩ := ra_B (hts _ sw_aB)
  obtain ⟨cO, hO⟩ := ra_O (hts _ sw_oO)
  obtain ⟨cE, hE⟩ := ra_O (hts _ sw_oE)
  obtain ⟨cT, hT⟩ := ra_O (hts _ sw_oT)
  refine ⟨(fun k => (f k).1, fun k => (f k).2), fun t => match t with | 100 => cI | 101 => cY | 102 => cL | 103 => cO | 104 => cE | _ => cT, fun k => match kd k with | 3 => cI | 4 => cB | _ => cL, ⟨hf, fun k q hq => ?_⟩, ⟨hf, fun k q hq => ?_⟩⟩
  · match k, hq with
    | 0, hq => cases hq; exact hI
    | 1, hq => cases hq; exact hY
    | 2, hq => cases hq; exact hL
    | 3, hq => cases hq; exact hO
    | 4, hq => cases hq; exact hE
    | 5, hq => cases hq; exact hT
    | k + 6, hq => simp [tyC] at hq
  · obtain ⟨a, ha, rfl⟩ := List.mem_map.mp (List.mem_of_getElem? hq)
    obtain ⟨j, hj⟩ := List.mem_iff_getElem?.mp ha
    obtain ⟨-, h2⟩ := arrs_k hj
    unfold at12
    dsimp only
    rcases h2 with q | q | q <;> rw [q]
    · exact hI
    · exact hB
    · exact hL
