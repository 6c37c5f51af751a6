/-! the class's judge: a whole program -/
def nokM (ms : MfT) (n : Nat) : Prop := ∃ k, k < n ∧ ¬ m1T ms k 12
def nokV (z : ZS) (n : Nat) : Prop := ∃ v, v < n ∧ ¬ clS z v = 0
theorem nokM_s {ms : MfT} {n : Nat} : nokM ms (n + 1) ↔ nokM ms n ∨ ¬ m1T ms n 12 := exq_s
theorem nokV_s {z : ZS} {n : Nat} : nokV z (n + 1) ↔ nokV z n ∨ ¬ clS z n = 0 := exq_s
theorem nokM_0 {ms : MfT} : ¬ nokM ms 0 := fun ⟨_, q, _⟩ => Nat.not_lt_zero _ q
theorem nokV_0 {z : ZS} : ¬ nokV z 0 := fun ⟨_, q, _⟩ => Nat.not_lt_zero _ q
theorem nokM_n {ms : MfT} {n : Nat} : nokM ms n ↔ ¬ ∀ k, k < n → m1T ms k 12 := ⟨fun ⟨k, h1, h2⟩ q => h2 (q k h1), fun h => Classical.byContradiction (fun q => h (fun k hk => Classical.byContradiction (fun r => q ⟨k, hk, r⟩)))⟩
theorem nokV_n {z : ZS} {n : Nat} : nokV z n ↔ ¬ ∀ v, v < n → clS z v = 0 := ⟨fun ⟨k, h1, h2⟩ q => h2 (q k h1), fun h => Classical.byContradiction (fun q => h (fun k hk => Classical.byContradiction (fun r => q ⟨k, hk, r⟩)))⟩
def nokS (N : Int → Int) (z : ZS) (T : TbT) (ms : MfT) (n : Nat) : Prop := ∃ j, j < n ∧ ¬ skT N z T ms j
theorem nokS_s {N : Int → Int} {z : ZS} {T : TbT} {ms : MfT} {n : Nat} : nokS N z T ms (n + 1) ↔ nokS N z T ms n ∨ ¬ skT N z T ms n := exq_s
theorem nokS_0 {N : Int → Int} {z : ZS} {T : TbT} {ms : MfT} : ¬ nokS N z T ms 0 := fun ⟨_, q, _⟩ => Nat.not_lt_zero _ q
theorem nokS_n {N : Int → Int} {z : ZS} {T : TbT} {ms : MfT} {n : Nat} : nokS N z T ms n ↔ ¬ ∀ j, j < n → skT N z T ms j := ⟨fun ⟨k, h1, h2⟩ q => h2 (q k h1), fun h => Classical.byContradiction (fun q => h (fun k hk => Classical.byContradiction (fun r => q ⟨k, hk, r⟩)))⟩
/-- behind the exps: all that the S's and the flow need -/
def Ph4 (N : Int → Int) (E A B : Nat → Nat) (σ s : CsC) (z : ZS) (T : TbT) (ms : MfT) (nm : Nat) (J : Nat → Nat) (V1 : Nat → Int) : Prop := (SsC E A B s z T ms nm ∧ NmC N E s ∧ ¬ erC E s ∧ MbC E B s z ms nm J V1 ∧ E 4 < cnC s) ∧ ((∀ j, j < snM z → fRC s (B j) 281 = none ∧ (fIC s (B j) 282 = 0 ∧ fIC s (B j) 283 = 0 ∧ fIC s (B j) 284 = 0) ∧ fLC s (B j) 287 = -1 ∧ fLC s (B j) 288 = -1) ∧ ∃ u, WzC E s u) ∧ ((LiC s (E 214) (snM z) B ∧ E 214 < cnC s ∧ RoC s (E 214)) ∧ E 303 < cnC s ∧ ∀ q : Nat, (eIC s (E 303) q).toInt = mnT z T.1 (fun i => (eIC σ (E 303) i).toInt) (xnM z) q)
theorem Ph4.of {N : Int → Int} {E A B V : Nat → Nat} {σ σq s : CsC} {z : ZS} {T : TbT} {ms : MfT} {nm : Nat} {J : Nat → Nat} {V1 : Nat → Int} (hS : StC N E A B V σq z ms nm) (hB : BdC E σq ms) (hM : MbC E B σq z ms nm J V1) (he3 : eIC σq = eIC σ) (hU : ∃ u, WzC E σq u) (hJ : JxC E A V z σq s T (xnM z)) (h214 : RoC σq (E 214)) : Ph4 N E A B σ s z T ms nm J V1 := by
  have hZ := hS.1.1
  have hf := hJ.1
  have hc := hf.2.2.2.1
  refine ⟨⟨SsC.of hS hJ hB, NmC.of hS hJ hB, fun q => q (hJ.er hS), hM.jf hf, by rw [hc]; exact hB.2.2.2.2.2.2⟩, ⟨fun j hj => ?_, ?_⟩, ⟨?_, ?_, fun s0 r hr => ?_⟩, ?_, fun q => ?_⟩
  · have q := (hZ.2.2.2.2.2.1.1 j hj).1.2.2.2
    rw [(hf.1 (B j) 281 (by decide)).2.2, (hf.1 (B j) 282 (by decide)).1, (hf.1 (B j) 283 (by decide)).1, (hf.1 (B j) 284 (by decide)).1, (hf.1 (B j) 287 (by decide)).2.1, (hf.1 (B j) 288 (by decide)).2.1]
    exact q
  · obtain ⟨u, hu⟩ := hU
    refine ⟨u, ⟨⟨?_, ?_, ?_⟩, ⟨hu.2.1.1, ?_, by rw [hc]; exact hu.2.1.2.2⟩, fun i hi => ?_, ?_⟩⟩
    · rw [(hf.1 (E 4) 91 (by decide)).2.1]; exact hu.1.1
    · rw [(hf.1 (E 4) 92 (by decide)).2.1]; exact hu.1.2.1
    · rw [(hf.1 (E 4) 94 (by decide)).1]; exact hu.1.2.2
    · rw [(hf.1 (E 4) 93 (by decide)).2.2]; exact hu.2.1.2.1
    · rw [hf.2.2.1.2.1]; exact hu.2.2.1 i hi
    · show (¬ fIC s (E 1) 217 = 0) ↔ _
      rw [(hf.1 (E 1) 217 (by decide)).1]
      exact hu.2.2.2
  · exact (hZ.2.2.2.1.2.1).cg (hf.1 _ 1 (by decide)).2.2 hf.2.2.1.2.2 (hf.1 _ 2 (by decide)).1 (Nat.le_of_eq hc.symm)
  · rw [hc]; exact hZ.1.2.2.2.2.1.2.2.2
  · rw [(hf.1 _ 1 (by decide)).2.2] at hr
    rw [(hf.1 _ 2 (by decide)).1] at s0
    rw [hc]; exact h214 s0 r hr
  · rw [hc]; exact hZ.1.2.2.2.2.2.1.2.1
  · rw [hJ.2.2.2.2 q, he3]
theorem WzC.fr {E : Nat → Nat} {M : List Nat} {σ τ : CsC} {u : WzS} (h : WzC E σ u) (f : FrE M σ τ) (hM : [999, 91, 92, 93, 94, 901].all (fun k => !M.elem k) = true) (h4 : E 4 < cnC σ) (h1 : ¬ erC E σ) (h2 : ¬ erC E τ) : WzC E τ u := by
  have q := (f.2 (nel hM rfl) (E 4) h4).1
  refine ⟨⟨(q 91 (nel hM rfl)).2.1.trans h.1.1, (q 92 (nel hM rfl)).2.1.trans h.1.2.1, by rw [(q 94 (nel hM rfl)).1]; exact h.1.2.2⟩, ⟨h.2.1.1, (q 93 (nel hM rfl)).2.2.trans h.2.1.2.1, Nat.lt_of_lt_of_le h.2.1.2.2 f.1⟩, fun i hi => ?_, ⟨fun r => absurd r h2, fun r => absurd (h.2.2.2.mpr r) h1⟩⟩
  rw [(f.2 (nel hM rfl) (E 93) h.2.1.2.2).2.2.1 (nel hM rfl)]
  exact h.2.2.1 i hi
/-- the flow begins -/
theorem rh_0 {N : Int → Int} {E A B : Nat → Nat} {σ s4 s : CsC} {z : ZS} {T : TbT} {ms : MfT} {nm : Nat} {J : Nat → Nat} {V1 : Nat → Int} (h : Ph4 N E A B σ s4 z T ms nm J V1) (f : FrE [217, 218, 281] s4 s) (he : ¬ erC E s) : RhC E B s z r00 := ⟨fun j hj => by
  have q := (f.2 rfl (B j) (h.1.1.1 j hj).2).1
  rw [(q 282 rfl).1, (q 283 rfl).1, (q 284 rfl).1, (h.2.1.1 j hj).2.1.1, (h.2.1.1 j hj).2.1.2.1, (h.2.1.1 j hj).2.1.2.2]
  exact ⟨rfl, rfl, rfl⟩, iff_of_false he (by decide)⟩
theorem az_0 {N : Int → Int} {E A B : Nat → Nat} {σ s4 s : CsC} {z : ZS} {T : TbT} {ms : MfT} {nm : Nat} {J : Nat → Nat} {V1 : Nat → Int} (h : Ph4 N E A B σ s4 z T ms nm J V1) (f : FrE [90, 217, 218, 281, 282, 283, 284] s4 s) (he : ¬ erC E s) : ∃ g0, G0T z g0 ∧ AzC E B s z g0 := by
  obtain ⟨u, hu⟩ := h.2.1.2
  have hw := hu.fr f rfl h.1.2.2.2.2 h.1.2.2.1 he
  refine ⟨(fun j => fLC s (B j) 285, fun j => fLC s (B j) 286, fun _ => allB, fun _ => allB, u), ⟨fun _ _ => ⟨rfl, rfl⟩, ?_⟩, fun j hj => ⟨rfl, rfl, ?_, ?_⟩, hw⟩
  · cases hb : u.2.2.2 with
    | false => rfl
    | true => exact absurd (hw.2.2.2.mpr hb) he
  · have q := (f.2 rfl (B j) (h.1.1.1 j hj).2).1
    rw [(q 287 rfl).2.1, (h.2.1.1 j hj).2.2.1]
    rfl
  · have q := (f.2 rfl (B j) (h.1.1.1 j hj).2).1
    rw [(q 288 rfl).2.1, (h.2.1.1 j hj).2.2.2]
    rfl
theorem SsC.we_ {E A B : Nat → Nat} {σ τ : CsC} {z : ZS} {T : TbT} {ms : MfT} {nm : Nat} (h : SsC E A B σ z T ms nm) (w : WeC σ τ) : SsC E A B τ z T ms nm := h.fr (M := []) (FrE.we FrE.rf w) rfl
theorem wz_we {E : Nat → Nat} {σ τ : CsC} (h : ∃ u, WzC E σ u) (w : WeC σ τ) : ∃ u, WzC E τ u := h.elim (fun u q => ⟨u, q.we w⟩)
abbrev Pz_judgeProgram : ((Int → Int) × (Nat → Nat) × (Nat → Nat) × (Nat → Nat) × (Nat → Nat) × ZS × MfT × Nat × (Nat → Nat) × (Nat → Int) × Nat) → CpC := fun y As σ => match y with
  | (N, E, A, B, V, z, ms, nm, J, V1, f) => As = [.inr (.inr (some (E 3))), .inr (.inr (some (E 1)))] ∧ (StC N E A B V (pRC σ (E 3) 121 (some (E 1))) z ms nm) ∧ (BdC E (pRC σ (E 3) 121 (some (E 1))) ms) ∧ (MbC E B (pRC σ (E 3) 121 (some (E 1))) z ms nm J V1) ∧ (∃ u, WzC E (pRC σ (E 3) 121 (some (E 1))) u) ∧ (∀ i T, i ≤ xnM z → tbT (CzT N z ms) (fun i => xth z i) i = some T → TyP z T i) ∧ (∀ T, tbT (CzT N z ms) (fun i => xth z i) (xnM z) = some T → WfS z T ∧ UpS z ∧ BiC B z ∧ SxS z) ∧ (∀ j, j < snM z → kjS z j = 61 → ∃ l, RwZ z (bjS z j) l ∧ l.Nodup) ∧ (∀ j, j < snM z → kjS z j = 66 → 0 ≤ ljS z j ∧ ∃ m, ms (ljS z j).toNat = some m) ∧ (∀ j, j < snM z → tjT N z j < (snM z : Int)) ∧ (∀ i, i < xnM z → (xth z i).1.1 = 10 → (xth z i).2.2.1.2.1 = (xth z i).2.2.2.headD (-1)) ∧ (∀ i, i < xnM z → (xth z i).1.1 = 10 → 0 ≤ (xth z i).1.2.2.1) ∧ (∀ i, i < xnM z → (xth z i).1.1 = 10 → (xth z i).2.2.2.length ≤ 500) ∧ (2 * snM z ≤ f) ∧ (∀ k, k < nm → 0 ≤ V1 k ∧ V1 k ≤ 1000) ∧ (snM z ≤ 100000 ∧ xnM z ≤ 100000) ∧ (RoC (pRC σ (E 3) 121 (some (E 1))) (E 214))
abbrev Qz_judgeProgram : ((Int → Int) × (Nat → Nat) × (Nat → Nat) × (Nat → Nat) × (Nat → Nat) × ZS × MfT × Nat × (Nat → Nat) × (Nat → Int) × Nat) → CqC := fun y As σ w τ => match y, As with
  | (N, E, A, B, V, z, ms, nm, J, V1, f), [_, _] => w = none ∧ JdC N E A B σ τ z ms nm J V1 f
  | _, _ => True
abbrev Uz_judgeProgram : CqC := fun As σ w τ => ∀ y, Pz_judgeProgram y As σ → Qz_judgeProgram y As σ w τ
set_option maxHeartbeats 4000000 in
theorem pz_judgeProgram (y : (Int → Int) × (Nat → Nat) × (Nat → Nat) × (Nat → Nat) × (Nat → Nat) × ZS × MfT × Nat × (Nat → Nat) × (Nat → Int) × Nat) : PbC KX3_judgeProgram [(234, TrP, EqC 234), (50, TrP, EqC 50), (235, TrP, EqC 235), (118, TrP, EqC 118), (53, TrP, EqC 53), (28, TrP, EqC 28), (20, TrP, EqC 20), (80, TrP, EqC 80)] [(50, Uz_judgeMethod), (118, Uz_tell), (53, Uz_judgeExp), (28, Uz_assignAll), (20, Uz_reachAll), (80, Uz_judgeStatement)] (fun As σ => Pz_judgeProgram y As σ ∧ cnC σ ≤ 1000000 ∧ ∃ w τ, uqC quL 49 As σ w τ) (Qz_judgeProgram y) := by
  obtain ⟨N, E, A, B, V, z, ms, nm, J, V1, f⟩ := y
  rintro As σ ⟨⟨rfl, hS1, hB1, hM1, hU1, hpur, hwf4, hrow, hrt, htj, hcal, hcf, hcl, hfu, hv1, hsn, h214⟩, hcn, _, _, hQ⟩ K hB hW n_
  obtain ⟨s1, hs1⟩ : ∃ s, pRC σ (E 3) 121 (some (E 1)) = s := ⟨_, rfl⟩
  have e303 : eIC s1 = eIC σ := by rw [← hs1]; rfl
  rw [hs1] at hS1 hB1 hM1 hU1 h214
  have hPq_p := PqC.of hS1 hB1
  have hE1 : fIC s1 (E 1) 217 = 0 := hS1.2.1.2.1
  have hJ1 := JxC.z hS1
  have hSs1 := SsC.of hS1 hJ1 hB1
  have hNm1 := NmC.of hS1 hJ1 hB1
  have hn10 : nm ≤ 10 := hS1.2.2.1.2.2.1
  have hnv : (zVs z.1).length ≤ 60 := hS1.1.1.2.2.2.2.2.2.2.2.2.1
  have B141 : ∀ (n : Nat) (s0 : CsC) (i : Int32), (erC E s0) → (PqC E s0) → (∀ g0 T, ¬ PokT N z ms nm J V1 f g0 T) →  K n 141 [(0, .inr (.inr (some (E 3)))), (1, .inr (.inr (some (E 1)))), (2, .inl i)] [] s0 := by
    intro n
    induction n using Nat.strongRecOn with
    | _ n ih =>
      intro s0 i hbb hPq_0 hno
      refine hB _ _ _ _ _ (fun m51 hm51 => ?_)
      dsimp only [ucgo, ucwp, ucsC, uqC, uoC, ctC, rfd, KX3_judgeProgram, KX3_judgeProgram_0, KX3_judgeProgram_7, KX3_judgeProgram_21, KX3_judgeProgram_32, KX3_judgeProgram_34, KX3_judgeProgram_48, KX3_judgeProgram_68, KX3_judgeProgram_93, KX3_judgeProgram_99, KX3_judgeProgram_101, KX3_judgeProgram_115, KX3_judgeProgram_139, KX3_judgeProgram_141, KX3_judgeProgram_155, KX3_judgeProgram_179, KX3_judgeProgram_189, KX3_judgeProgram_200, KX3_judgeProgram_210, KX3_judgeProgram_221, lkC, s1C, s2C, dlC, kyC, Nat.beq, Nat.ble, rcd, rno, rsw, Nat.reduceAdd, Nat.reduceBEq, Nat.reduceDiv, List.drop, List.take, List.reverse, List.reverseAux, Int.toNat, Option.toList, List.append, List.cons_append, List.nil_append, zg120, zg121, zg211, zg212, zg213, zg214, zg217, zg330, zg334]
      intro a52 e52 ob52
      cases e52
      intro a54 e54 ob54
      obtain rfl : E 1 = a54 := Option.some.inj (hPq_0.1.1.symm.trans e54)
      rw [hPq_0.2.1.2.2.2]
      try dsimp only
      intro w56 τ56 o56 q56
      obtain ⟨r56, rfl, rfl, hr56a, hr56b, hr56, -⟩ := (show Q_Jx4a65c_size_8abf5 [.inr (.inr (some (E 214)))] s0 w56 τ56 from o56.1.1)
      try dsimp only [Option.toList, List.cons_append, List.nil_append, s1C, s2C, dlC, kyC, Nat.beq, lkC, rcd, rno, rsw]
      refine ⟨fun h57 => ?_, fun h57 => ?_⟩
      · have g57 := leI (x := r56) (y := i) h57
        refine hB _ _ _ _ _ (fun m58 hm58 => ?_)
        dsimp only [ucgo, ucwp, ucsC, uqC, uoC, ctC, rfd, KX3_judgeProgram, KX3_judgeProgram_0, KX3_judgeProgram_7, KX3_judgeProgram_21, KX3_judgeProgram_32, KX3_judgeProgram_34, KX3_judgeProgram_48, KX3_judgeProgram_68, KX3_judgeProgram_93, KX3_judgeProgram_99, KX3_judgeProgram_101, KX3_judgeProgram_115, KX3_judgeProgram_139, KX3_judgeProgram_141, KX3_judgeProgram_155, KX3_judgeProgram_179, KX3_judgeProgram_189, KX3_judgeProgram_200, KX3_judgeProgram_210, KX3_judgeProgram_221, lkC, s1C, s2C, dlC, kyC, Nat.beq, Nat.ble, rcd, rno, rsw, Nat.reduceAdd, Nat.reduceBEq, Nat.reduceDiv, List.drop, List.take, List.reverse, List.reverseAux, Int.toNat, Option.toList, List.append, List.cons_append, List.nil_append, zg120, zg121, zg211, zg212, zg213, zg214, zg217, zg330, zg334]
        intro a59 e59 ob59
        cases e59
        intro a61 e61 ob61
        obtain rfl : E 1 = a61 := Option.some.inj (hPq_0.1.1.symm.trans e61)
        have f62 : ¬ (fIC s0 (E 1) 217).toInt = 0 := fun q9 => hbb (Int32.toInt_inj.mp q9)
        refine ⟨fun h63 => ?_, fun h63 => ?_⟩
        · have g63 := (neI (x := (fIC s0 (E 1) 217)) (y := 0) h63 : ¬ ((fIC s0 (E 1) 217) : Int32).toInt = (0 : Int32).toInt)
          have z0_ : (0 : Int32).toInt = 0 := rfl
          refine hB _ _ _ _ _ (fun m64 hm64 => ?_)
          dsimp only [ucgo, ucwp, ucsC, uqC, uoC, ctC, rfd, KX3_judgeProgram, KX3_judgeProgram_0, KX3_judgeProgram_7, KX3_judgeProgram_21, KX3_judgeProgram_32, KX3_judgeProgram_34, KX3_judgeProgram_48, KX3_judgeProgram_68, KX3_judgeProgram_93, KX3_judgeProgram_99, KX3_judgeProgram_101, KX3_judgeProgram_115, KX3_judgeProgram_139, KX3_judgeProgram_141, KX3_judgeProgram_155, KX3_judgeProgram_179, KX3_judgeProgram_189, KX3_judgeProgram_200, KX3_judgeProgram_210, KX3_judgeProgram_221, lkC, s1C, s2C, dlC, kyC, Nat.beq, Nat.ble, rcd, rno, rsw, Nat.reduceAdd, Nat.reduceBEq, Nat.reduceDiv, List.drop, List.take, List.reverse, List.reverseAux, Int.toNat, Option.toList, List.append, List.cons_append, List.nil_append, zg120, zg121, zg211, zg212, zg213, zg214, zg217, zg330, zg334]
          intro a65 e65 ob65
          cases e65
          intro a67 e67 ob67
          obtain rfl : E 1 = a67 := Option.some.inj (hPq_0.1.1.symm.trans e67)
          have f68 : ¬ (fIC s0 (E 1) 217).toInt = 0 := fun q9 => hbb (Int32.toInt_inj.mp q9)
          refine ⟨fun h69 => ?_, fun h69 => ?_⟩
          · have g69 := (neI (x := (fIC s0 (E 1) 217)) (y := 0) h69 : ¬ ((fIC s0 (E 1) 217) : Int32).toInt = (0 : Int32).toInt)
            have z0_ : (0 : Int32).toInt = 0 := rfl
            refine hB _ _ _ _ _ (fun m70 hm70 => ?_)
            dsimp only [ucgo, ucwp, ucsC, uqC, uoC, ctC, rfd, KX3_judgeProgram, KX3_judgeProgram_0, KX3_judgeProgram_7, KX3_judgeProgram_21, KX3_judgeProgram_32, KX3_judgeProgram_34, KX3_judgeProgram_48, KX3_judgeProgram_68, KX3_judgeProgram_93, KX3_judgeProgram_99, KX3_judgeProgram_101, KX3_judgeProgram_115, KX3_judgeProgram_139, KX3_judgeProgram_141, KX3_judgeProgram_155, KX3_judgeProgram_179, KX3_judgeProgram_189, KX3_judgeProgram_200, KX3_judgeProgram_210, KX3_judgeProgram_221, lkC, s1C, s2C, dlC, kyC, Nat.beq, Nat.ble, rcd, rno, rsw, Nat.reduceAdd, Nat.reduceBEq, Nat.reduceDiv, List.drop, List.take, List.reverse, List.reverseAux, Int.toNat, Option.toList, List.append, List.cons_append, List.nil_append, zg120, zg121, zg211, zg212, zg213, zg214, zg217, zg330, zg334]
            try dsimp only [Qz_judgeProgram]
            exact fun τ9 h9 => ⟨rfl, JdC.bad ((er_we h9).mpr hbb) hno⟩
          · have g69 := (eqI (x := (fIC s0 (E 1) 217)) (y := 0) h69 : ((fIC s0 (E 1) 217) : Int32).toInt = (0 : Int32).toInt)
            have z0_ : (0 : Int32).toInt = 0 := rfl
            exfalso
            omega
        · have g63 := (eqI (x := (fIC s0 (E 1) 217)) (y := 0) h63 : ((fIC s0 (E 1) 217) : Int32).toInt = (0 : Int32).toInt)
          have z0_ : (0 : Int32).toInt = 0 := rfl
          exfalso
          omega
      · have g57 := nleI (x := r56) (y := i) h57
        refine hB _ _ _ _ _ (fun m71 hm71 => ?_)
        dsimp only [ucgo, ucwp, ucsC, uqC, uoC, ctC, rfd, KX3_judgeProgram, KX3_judgeProgram_0, KX3_judgeProgram_7, KX3_judgeProgram_21, KX3_judgeProgram_32, KX3_judgeProgram_34, KX3_judgeProgram_48, KX3_judgeProgram_68, KX3_judgeProgram_93, KX3_judgeProgram_99, KX3_judgeProgram_101, KX3_judgeProgram_115, KX3_judgeProgram_139, KX3_judgeProgram_141, KX3_judgeProgram_155, KX3_judgeProgram_179, KX3_judgeProgram_189, KX3_judgeProgram_200, KX3_judgeProgram_210, KX3_judgeProgram_221, lkC, s1C, s2C, dlC, kyC, Nat.beq, Nat.ble, rcd, rno, rsw, Nat.reduceAdd, Nat.reduceBEq, Nat.reduceDiv, List.drop, List.take, List.reverse, List.reverseAux, Int.toNat, Option.toList, List.append, List.cons_append, List.nil_append, zg120, zg121, zg211, zg212, zg213, zg214, zg217, zg330, zg334]
        intro a72 e72 ob72
        cases e72
        intro a74 e74 ob74
        obtain rfl : E 1 = a74 := Option.some.inj (hPq_0.1.1.symm.trans e74)
        rw [hPq_0.2.1.2.2.2]
        try dsimp only
        intro w76 τ76 o76 q76
        have hg76 : Q_Jx4a65c_get_915e3 [.inr (.inr (some (E 214))), .inl i] s0 w76 τ76 ∧ U_get [.inr (.inr (some (E 214))), .inl i] s0 w76 τ76 := o76.1.1
        obtain ⟨b76, rfl, rfl, -⟩ := hg76.1
        try dsimp only [Option.toList, List.cons_append, List.nil_append, s1C, s2C, dlC, kyC, Nat.beq, lkC, rcd, rno, rsw]
        intro oc77
        intro w78 τ78 o78 q78
        obtain rfl : w78 = none := (show TyQ 4 _ _ _ _ ∧ w78 = none from o78.1.1).2
        have hb78 : erC E τ78 := o78.1.2.2.2 rfl (E 1) hPq_0.2.2.2 hbb
        have hPq_78 := PqC.fr hPq_0 o78.2 rfl
        try dsimp only [Option.toList, List.cons_append, List.nil_append, s1C, s2C, dlC, kyC, Nat.beq, lkC, rcd, rno, rsw]
        have c79 : (Int32.ofInt 1).toInt = 1 := by decide
        exact hW _ 141 [(0, .inr (.inr (some (E 3)))), (1, .inr (.inr (some (E 1)))), (2, .inl (i + (Int32.ofInt 1)))] _ _ _ (List.forall_mem_cons.2 ⟨List.Mem.tail _ (List.Mem.head _), List.forall_mem_cons.2 ⟨List.Mem.tail _ (List.Mem.tail _ (List.Mem.head _)), List.forall_mem_cons.2 ⟨List.Mem.head _, fun _ h => absurd h List.not_mem_nil⟩⟩⟩) (ih _ (by omega) τ78 (i + (Int32.ofInt 1)) hb78 hPq_78 hno)
  have B101 : ∀ (n : Nat) (s0 : CsC) (i : Int32), (erC E s0) → (PqC E s0) → (∀ g0 T, ¬ PokT N z ms nm J V1 f g0 T) →  K n 101 [(0, .inr (.inr (some (E 3)))), (1, .inr (.inr (some (E 1)))), (2, .inl i)] [] s0 := by
    intro n
    induction n using Nat.strongRecOn with
    | _ n ih =>
      intro s0 i hbb hPq_0 hno
      refine hB _ _ _ _ _ (fun m81 hm81 => ?_)
      dsimp only [ucgo, ucwp, ucsC, uqC, uoC, ctC, rfd, KX3_judgeProgram, KX3_judgeProgram_0, KX3_judgeProgram_7, KX3_judgeProgram_21, KX3_judgeProgram_32, KX3_judgeProgram_34, KX3_judgeProgram_48, KX3_judgeProgram_68, KX3_judgeProgram_93, KX3_judgeProgram_99, KX3_judgeProgram_101, KX3_judgeProgram_115, KX3_judgeProgram_139, KX3_judgeProgram_141, KX3_judgeProgram_155, KX3_judgeProgram_179, KX3_judgeProgram_189, KX3_judgeProgram_200, KX3_judgeProgram_210, KX3_judgeProgram_221, lkC, s1C, s2C, dlC, kyC, Nat.beq, Nat.ble, rcd, rno, rsw, Nat.reduceAdd, Nat.reduceBEq, Nat.reduceDiv, List.drop, List.take, List.reverse, List.reverseAux, Int.toNat, Option.toList, List.append, List.cons_append, List.nil_append, zg120, zg121, zg211, zg212, zg213, zg214, zg217, zg330, zg334]
      intro a82 e82 ob82
      cases e82
      intro a84 e84 ob84
      obtain rfl : E 1 = a84 := Option.some.inj (hPq_0.1.1.symm.trans e84)
      rw [hPq_0.2.1.2.2.1]
      try dsimp only
      intro w86 τ86 o86 q86
      obtain ⟨r86, rfl, rfl, hr86a, hr86b, hr86, -⟩ := (show Q_Jx4a65c_size_8abf5 [.inr (.inr (some (E 213)))] s0 w86 τ86 from o86.1.1)
      try dsimp only [Option.toList, List.cons_append, List.nil_append, s1C, s2C, dlC, kyC, Nat.beq, lkC, rcd, rno, rsw]
      refine ⟨fun h87 => ?_, fun h87 => ?_⟩
      · have g87 := leI (x := r86) (y := i) h87
        refine hB _ _ _ _ _ (fun m88 hm88 => ?_)
        dsimp only [ucgo, ucwp, ucsC, uqC, uoC, ctC, rfd, KX3_judgeProgram, KX3_judgeProgram_0, KX3_judgeProgram_7, KX3_judgeProgram_21, KX3_judgeProgram_32, KX3_judgeProgram_34, KX3_judgeProgram_48, KX3_judgeProgram_68, KX3_judgeProgram_93, KX3_judgeProgram_99, KX3_judgeProgram_101, KX3_judgeProgram_115, KX3_judgeProgram_139, KX3_judgeProgram_141, KX3_judgeProgram_155, KX3_judgeProgram_179, KX3_judgeProgram_189, KX3_judgeProgram_200, KX3_judgeProgram_210, KX3_judgeProgram_221, lkC, s1C, s2C, dlC, kyC, Nat.beq, Nat.ble, rcd, rno, rsw, Nat.reduceAdd, Nat.reduceBEq, Nat.reduceDiv, List.drop, List.take, List.reverse, List.reverseAux, Int.toNat, Option.toList, List.append, List.cons_append, List.nil_append, zg120, zg121, zg211, zg212, zg213, zg214, zg217, zg330, zg334]
        have c89 : (Int32.ofInt 0).toInt = 0 := by decide
        exact hW _ 141 [(0, .inr (.inr (some (E 3)))), (1, .inr (.inr (some (E 1)))), (2, .inl (Int32.ofInt 0))] _ _ _ (List.forall_mem_cons.2 ⟨List.Mem.tail _ (List.Mem.head _), List.forall_mem_cons.2 ⟨List.Mem.tail _ (List.Mem.tail _ (List.Mem.head _)), List.forall_mem_cons.2 ⟨List.Mem.head _, fun _ h => absurd h List.not_mem_nil⟩⟩⟩) (B141 _ s0 (Int32.ofInt 0) hbb hPq_0 hno)
      · have g87 := nleI (x := r86) (y := i) h87
        refine hB _ _ _ _ _ (fun m90 hm90 => ?_)
        dsimp only [ucgo, ucwp, ucsC, uqC, uoC, ctC, rfd, KX3_judgeProgram, KX3_judgeProgram_0, KX3_judgeProgram_7, KX3_judgeProgram_21, KX3_judgeProgram_32, KX3_judgeProgram_34, KX3_judgeProgram_48, KX3_judgeProgram_68, KX3_judgeProgram_93, KX3_judgeProgram_99, KX3_judgeProgram_101, KX3_judgeProgram_115, KX3_judgeProgram_139, KX3_judgeProgram_141, KX3_judgeProgram_155, KX3_judgeProgram_179, KX3_judgeProgram_189, KX3_judgeProgram_200, KX3_judgeProgram_210, KX3_judgeProgram_221, lkC, s1C, s2C, dlC, kyC, Nat.beq, Nat.ble, rcd, rno, rsw, Nat.reduceAdd, Nat.reduceBEq, Nat.reduceDiv, List.drop, List.take, List.reverse, List.reverseAux, Int.toNat, Option.toList, List.append, List.cons_append, List.nil_append, zg120, zg121, zg211, zg212, zg213, zg214, zg217, zg330, zg334]
        intro a91 e91 ob91
        cases e91
        intro a93 e93 ob93
        obtain rfl : E 1 = a93 := Option.some.inj (hPq_0.1.1.symm.trans e93)
        rw [hPq_0.2.1.2.2.1]
        try dsimp only
        intro w95 τ95 o95 q95
        have hg95 : Q_Jx4a65c_get_915e3 [.inr (.inr (some (E 213))), .inl i] s0 w95 τ95 ∧ U_get [.inr (.inr (some (E 213))), .inl i] s0 w95 τ95 := o95.1.1
        obtain ⟨b95, rfl, rfl, -⟩ := hg95.1
        try dsimp only [Option.toList, List.cons_append, List.nil_append, s1C, s2C, dlC, kyC, Nat.beq, lkC, rcd, rno, rsw]
        intro oc96
        intro w97 τ97 o97 q97
        obtain rfl : w97 = none := (show TyQ 4 _ _ _ _ ∧ w97 = none from o97.1.1).2
        have hb97 : erC E τ97 := o97.1.2.2.2 rfl (E 1) hPq_0.2.2.2 hbb
        have hPq_97 := PqC.fr hPq_0 o97.2 rfl
        try dsimp only [Option.toList, List.cons_append, List.nil_append, s1C, s2C, dlC, kyC, Nat.beq, lkC, rcd, rno, rsw]
        have c98 : (Int32.ofInt 1).toInt = 1 := by decide
        exact hW _ 101 [(0, .inr (.inr (some (E 3)))), (1, .inr (.inr (some (E 1)))), (2, .inl (i + (Int32.ofInt 1)))] _ _ _ (List.forall_mem_cons.2 ⟨List.Mem.tail _ (List.Mem.head _), List.forall_mem_cons.2 ⟨List.Mem.tail _ (List.Mem.tail _ (List.Mem.head _)), List.forall_mem_cons.2 ⟨List.Mem.head _, fun _ h => absurd h List.not_mem_nil⟩⟩⟩) (ih _ (by omega) τ97 (i + (Int32.ofInt 1)) hb97 hPq_97 hno)
  have L141 : ∀ (n : Nat) (T : TbT) (s4 : CsC) (s0 : CsC) (i : Int32), ((∀ k, k < nm → m1T ms k 12) ∧ ∀ v, v < (zVs z.1).length → clS z v = 0) → (tbT (CzT N z ms) (fun i => xth z i) (xnM z) = some T) → (Ph4 N E A B σ s4 z T ms nm J V1) → (PqC E s0) → (FrE [217, 218, 281] s4 s0) → (0 ≤ i.toInt) → (i.toInt ≤ (snM z : Int)) → (erC E s0 ↔ nokS N z T ms i.toInt.toNat) → (∀ j, j < snM z → fRC s0 (B j) 281 = if j < i.toInt.toNat ∧ (kjS z j = 64 ∨ kjS z j = 65) then opA B (tjT N z j) else none) →  K n 141 [(0, .inr (.inr (some (E 3)))), (1, .inr (.inr (some (E 1)))), (2, .inl i)] [] s0 := by
    intro n
    induction n using Nat.strongRecOn with
    | _ n ih =>
      intro T s4 s0 i hok htb hp4 hPq_0 hF0 h1 h2 h5 h281
      have hwf := hwf4 T htb
      have hli : LiC s0 (E 214) (snM z) B := hp4.2.2.1.1.fr hF0 rfl hp4.2.2.1.2.1 hp4.2.2.1.2.2
      refine hB _ _ _ _ _ (fun m100 hm100 => ?_)
      dsimp only [ucgo, ucwp, ucsC, uqC, uoC, ctC, rfd, KX3_judgeProgram, KX3_judgeProgram_0, KX3_judgeProgram_7, KX3_judgeProgram_21, KX3_judgeProgram_32, KX3_judgeProgram_34, KX3_judgeProgram_48, KX3_judgeProgram_68, KX3_judgeProgram_93, KX3_judgeProgram_99, KX3_judgeProgram_101, KX3_judgeProgram_115, KX3_judgeProgram_139, KX3_judgeProgram_141, KX3_judgeProgram_155, KX3_judgeProgram_179, KX3_judgeProgram_189, KX3_judgeProgram_200, KX3_judgeProgram_210, KX3_judgeProgram_221, lkC, s1C, s2C, dlC, kyC, Nat.beq, Nat.ble, rcd, rno, rsw, Nat.reduceAdd, Nat.reduceBEq, Nat.reduceDiv, List.drop, List.take, List.reverse, List.reverseAux, Int.toNat, Option.toList, List.append, List.cons_append, List.nil_append, zg120, zg121, zg211, zg212, zg213, zg214, zg217, zg330, zg334]
      intro a101 e101 ob101
      cases e101
      intro a103 e103 ob103
      obtain rfl : E 1 = a103 := Option.some.inj (hPq_0.1.1.symm.trans e103)
      rw [hPq_0.2.1.2.2.2]
      try dsimp only
      intro w105 τ105 o105 q105
      obtain ⟨r105, rfl, rfl, hr105a, hr105b, hr105, -⟩ := (show Q_Jx4a65c_size_8abf5 [.inr (.inr (some (E 214)))] s0 w105 τ105 from o105.1.1)
      have hs105_ : r105.toInt = ((snM z) : Int) := by rw [← hr105]; exact hli.1
      try dsimp only [Option.toList, List.cons_append, List.nil_append, s1C, s2C, dlC, kyC, Nat.beq, lkC, rcd, rno, rsw]
      refine ⟨fun h106 => ?_, fun h106 => ?_⟩
      · have g106 := leI (x := r105) (y := i) h106
        refine hB _ _ _ _ _ (fun m107 hm107 => ?_)
        dsimp only [ucgo, ucwp, ucsC, uqC, uoC, ctC, rfd, KX3_judgeProgram, KX3_judgeProgram_0, KX3_judgeProgram_7, KX3_judgeProgram_21, KX3_judgeProgram_32, KX3_judgeProgram_34, KX3_judgeProgram_48, KX3_judgeProgram_68, KX3_judgeProgram_93, KX3_judgeProgram_99, KX3_judgeProgram_101, KX3_judgeProgram_115, KX3_judgeProgram_139, KX3_judgeProgram_141, KX3_judgeProgram_155, KX3_judgeProgram_179, KX3_judgeProgram_189, KX3_judgeProgram_200, KX3_judgeProgram_210, KX3_judgeProgram_221, lkC, s1C, s2C, dlC, kyC, Nat.beq, Nat.ble, rcd, rno, rsw, Nat.reduceAdd, Nat.reduceBEq, Nat.reduceDiv, List.drop, List.take, List.reverse, List.reverseAux, Int.toNat, Option.toList, List.append, List.cons_append, List.nil_append, zg120, zg121, zg211, zg212, zg213, zg214, zg217, zg330, zg334]
        intro a108 e108 ob108
        cases e108
        intro a110 e110 ob110
        obtain rfl : E 1 = a110 := Option.some.inj (hPq_0.1.1.symm.trans e110)
        refine ⟨fun h112 => ?_, fun h112 => ?_⟩
        · have g112 := (neI (x := (fIC s0 (E 1) 217)) (y := 0) h112 : ¬ ((fIC s0 (E 1) 217) : Int32).toInt = (0 : Int32).toInt)
          have z0_ : (0 : Int32).toInt = 0 := rfl
          refine hB _ _ _ _ _ (fun m113 hm113 => ?_)
          dsimp only [ucgo, ucwp, ucsC, uqC, uoC, ctC, rfd, KX3_judgeProgram, KX3_judgeProgram_0, KX3_judgeProgram_7, KX3_judgeProgram_21, KX3_judgeProgram_32, KX3_judgeProgram_34, KX3_judgeProgram_48, KX3_judgeProgram_68, KX3_judgeProgram_93, KX3_judgeProgram_99, KX3_judgeProgram_101, KX3_judgeProgram_115, KX3_judgeProgram_139, KX3_judgeProgram_141, KX3_judgeProgram_155, KX3_judgeProgram_179, KX3_judgeProgram_189, KX3_judgeProgram_200, KX3_judgeProgram_210, KX3_judgeProgram_221, lkC, s1C, s2C, dlC, kyC, Nat.beq, Nat.ble, rcd, rno, rsw, Nat.reduceAdd, Nat.reduceBEq, Nat.reduceDiv, List.drop, List.take, List.reverse, List.reverseAux, Int.toNat, Option.toList, List.append, List.cons_append, List.nil_append, zg120, zg121, zg211, zg212, zg213, zg214, zg217, zg330, zg334]
          intro a114 e114 ob114
          cases e114
          intro a116 e116 ob116
          obtain rfl : E 1 = a116 := Option.some.inj (hPq_0.1.1.symm.trans e116)
          refine ⟨fun h118 => ?_, fun h118 => ?_⟩
          · have g118 := (neI (x := (fIC s0 (E 1) 217)) (y := 0) h118 : ¬ ((fIC s0 (E 1) 217) : Int32).toInt = (0 : Int32).toInt)
            have z0_ : (0 : Int32).toInt = 0 := rfl
            have hnz : erC E s0 := fun q9 => by have q8 := congrArg Int32.toInt q9; have q7 : (0 : Int32).toInt = 0 := rfl; omega
            refine hB _ _ _ _ _ (fun m119 hm119 => ?_)
            dsimp only [ucgo, ucwp, ucsC, uqC, uoC, ctC, rfd, KX3_judgeProgram, KX3_judgeProgram_0, KX3_judgeProgram_7, KX3_judgeProgram_21, KX3_judgeProgram_32, KX3_judgeProgram_34, KX3_judgeProgram_48, KX3_judgeProgram_68, KX3_judgeProgram_93, KX3_judgeProgram_99, KX3_judgeProgram_101, KX3_judgeProgram_115, KX3_judgeProgram_139, KX3_judgeProgram_141, KX3_judgeProgram_155, KX3_judgeProgram_179, KX3_judgeProgram_189, KX3_judgeProgram_200, KX3_judgeProgram_210, KX3_judgeProgram_221, lkC, s1C, s2C, dlC, kyC, Nat.beq, Nat.ble, rcd, rno, rsw, Nat.reduceAdd, Nat.reduceBEq, Nat.reduceDiv, List.drop, List.take, List.reverse, List.reverseAux, Int.toNat, Option.toList, List.append, List.cons_append, List.nil_append, zg120, zg121, zg211, zg212, zg213, zg214, zg217, zg330, zg334]
            try dsimp only [Qz_judgeProgram]
            exact fun τ9 h9 => ⟨rfl, JdC.bad ((er_we h9).mpr hnz) (fun g9 T9 q9 => by
              cases htb.symm.trans q9.2.1
              exact nokS_n.mp (h5.mp hnz) (fun j9 q8 => q9.2.2.1 j9 (by omega)))⟩
          · have g118 := (eqI (x := (fIC s0 (E 1) 217)) (y := 0) h118 : ((fIC s0 (E 1) 217) : Int32).toInt = (0 : Int32).toInt)
            have z0_ : (0 : Int32).toInt = 0 := rfl
            exfalso
            omega
        · have g112 := (eqI (x := (fIC s0 (E 1) 217)) (y := 0) h112 : ((fIC s0 (E 1) 217) : Int32).toInt = (0 : Int32).toInt)
          have z0_ : (0 : Int32).toInt = 0 := rfl
          have hne : ¬ erC E s0 := fun q9 => q9 (Int32.toInt_inj.mp (by omega))
          refine hB _ _ _ _ _ (fun m120 hm120 => ?_)
          dsimp only [ucgo, ucwp, ucsC, uqC, uoC, ctC, rfd, KX3_judgeProgram, KX3_judgeProgram_0, KX3_judgeProgram_7, KX3_judgeProgram_21, KX3_judgeProgram_32, KX3_judgeProgram_34, KX3_judgeProgram_48, KX3_judgeProgram_68, KX3_judgeProgram_93, KX3_judgeProgram_99, KX3_judgeProgram_101, KX3_judgeProgram_115, KX3_judgeProgram_139, KX3_judgeProgram_141, KX3_judgeProgram_155, KX3_judgeProgram_179, KX3_judgeProgram_189, KX3_judgeProgram_200, KX3_judgeProgram_210, KX3_judgeProgram_221, lkC, s1C, s2C, dlC, kyC, Nat.beq, Nat.ble, rcd, rno, rsw, Nat.reduceAdd, Nat.reduceBEq, Nat.reduceDiv, List.drop, List.take, List.reverse, List.reverseAux, Int.toNat, Option.toList, List.append, List.cons_append, List.nil_append, zg120, zg121, zg211, zg212, zg213, zg214, zg217, zg330, zg334]
          intro a121 e121 ob121
          cases e121
          intro a123 e123 ob123
          cases e123
          rw [hPq_0.1.2]
          try dsimp only
          intro w125 τ125 o125 q125
          rw [hPq_0.1.1] at q125 o125
          have hsk : ∀ j, j < snM z → skT N z T ms j := Classical.byContradiction (fun q9 => hne (h5.mpr (by rw [show i.toInt.toNat = snM z by omega]; exact nokS_n.mpr q9)))
          have hTg0 : TgC N B s0 z := fun j9 q9 q8 => ⟨by rw [h281 j9 q9]; exact if_pos ⟨by omega, q8⟩, Nat.lt_of_lt_of_le (hp4.1.1.1 j9 q9).2 hF0.1, htj j9 q9⟩
          obtain ⟨rfl, hRr⟩ := q125 (N, E, A, B, V, z, T, ms, nm, J, V1, r00, f) ⟨rfl, hp4.1.1.fr hF0 rfl, hTg0, ⟨hwf.1, hwf.2.1, hwf.2.2.1⟩, rh_0 hp4 hF0 hne, hp4.1.2.2.2.1.fr hF0 rfl, Nat.lt_of_lt_of_le hp4.1.2.2.2.2 hF0.1, by omega⟩
          have hF125 : FrE [90, 217, 218, 281, 282, 283, 284] s4 τ125 := (hF0.mo rfl).tr (o125.2.mo rfl)
          have hTgr : TgC N B τ125 z := hTg0.fr o125.2 rfl
          have hPq_125 := PqC.fr hPq_0 o125.2 rfl
          try dsimp only [Option.toList, List.cons_append, List.nil_append, s1C, s2C, dlC, kyC, Nat.beq, lkC, rcd, rno, rsw]
          refine hB _ _ _ _ _ (fun m126 hm126 => ?_)
          dsimp only [ucgo, ucwp, ucsC, uqC, uoC, ctC, rfd, KX3_judgeProgram, KX3_judgeProgram_0, KX3_judgeProgram_7, KX3_judgeProgram_21, KX3_judgeProgram_32, KX3_judgeProgram_34, KX3_judgeProgram_48, KX3_judgeProgram_68, KX3_judgeProgram_93, KX3_judgeProgram_99, KX3_judgeProgram_101, KX3_judgeProgram_115, KX3_judgeProgram_139, KX3_judgeProgram_141, KX3_judgeProgram_155, KX3_judgeProgram_179, KX3_judgeProgram_189, KX3_judgeProgram_200, KX3_judgeProgram_210, KX3_judgeProgram_221, lkC, s1C, s2C, dlC, kyC, Nat.beq, Nat.ble, rcd, rno, rsw, Nat.reduceAdd, Nat.reduceBEq, Nat.reduceDiv, List.drop, List.take, List.reverse, List.reverseAux, Int.toNat, Option.toList, List.append, List.cons_append, List.nil_append, zg120, zg121, zg211, zg212, zg213, zg214, zg217, zg330, zg334]
          intro a127 e127 ob127
          cases e127
          intro a129 e129 ob129
          obtain rfl : E 1 = a129 := Option.some.inj (hPq_125.1.1.symm.trans e129)
          refine ⟨fun h131 => ?_, fun h131 => ?_⟩
          · have g131 := (neI (x := (fIC τ125 (E 1) 217)) (y := 0) h131 : ¬ ((fIC τ125 (E 1) 217) : Int32).toInt = (0 : Int32).toInt)
            have z0_ : (0 : Int32).toInt = 0 := rfl
            have hnz2 : erC E τ125 := fun q9 => by have q8 := congrArg Int32.toInt q9; have q7 : (0 : Int32).toInt = 0 := rfl; omega
            refine hB _ _ _ _ _ (fun m132 hm132 => ?_)
            dsimp only [ucgo, ucwp, ucsC, uqC, uoC, ctC, rfd, KX3_judgeProgram, KX3_judgeProgram_0, KX3_judgeProgram_7, KX3_judgeProgram_21, KX3_judgeProgram_32, KX3_judgeProgram_34, KX3_judgeProgram_48, KX3_judgeProgram_68, KX3_judgeProgram_93, KX3_judgeProgram_99, KX3_judgeProgram_101, KX3_judgeProgram_115, KX3_judgeProgram_139, KX3_judgeProgram_141, KX3_judgeProgram_155, KX3_judgeProgram_179, KX3_judgeProgram_189, KX3_judgeProgram_200, KX3_judgeProgram_210, KX3_judgeProgram_221, lkC, s1C, s2C, dlC, kyC, Nat.beq, Nat.ble, rcd, rno, rsw, Nat.reduceAdd, Nat.reduceBEq, Nat.reduceDiv, List.drop, List.take, List.reverse, List.reverseAux, Int.toNat, Option.toList, List.append, List.cons_append, List.nil_append, zg120, zg121, zg211, zg212, zg213, zg214, zg217, zg330, zg334]
            try dsimp only [Qz_judgeProgram]
            exact fun τ9 h9 => ⟨rfl, JdC.bad ((er_we h9).mpr hnz2) (fun g9 T9 q9 => by
              cases htb.symm.trans q9.2.1
              have q8 := hRr.2.mp hnz2
              rw [q9.2.2.2.1] at q8
              cases q8)⟩
          · have g131 := (eqI (x := (fIC τ125 (E 1) 217)) (y := 0) h131 : ((fIC τ125 (E 1) 217) : Int32).toInt = (0 : Int32).toInt)
            have z0_ : (0 : Int32).toInt = 0 := rfl
            have hne2 : ¬ erC E τ125 := fun q9 => q9 (Int32.toInt_inj.mp (by omega))
            refine hB _ _ _ _ _ (fun m133 hm133 => ?_)
            dsimp only [ucgo, ucwp, ucsC, uqC, uoC, ctC, rfd, KX3_judgeProgram, KX3_judgeProgram_0, KX3_judgeProgram_7, KX3_judgeProgram_21, KX3_judgeProgram_32, KX3_judgeProgram_34, KX3_judgeProgram_48, KX3_judgeProgram_68, KX3_judgeProgram_93, KX3_judgeProgram_99, KX3_judgeProgram_101, KX3_judgeProgram_115, KX3_judgeProgram_139, KX3_judgeProgram_141, KX3_judgeProgram_155, KX3_judgeProgram_179, KX3_judgeProgram_189, KX3_judgeProgram_200, KX3_judgeProgram_210, KX3_judgeProgram_221, lkC, s1C, s2C, dlC, kyC, Nat.beq, Nat.ble, rcd, rno, rsw, Nat.reduceAdd, Nat.reduceBEq, Nat.reduceDiv, List.drop, List.take, List.reverse, List.reverseAux, Int.toNat, Option.toList, List.append, List.cons_append, List.nil_append, zg120, zg121, zg211, zg212, zg213, zg214, zg217, zg330, zg334]
            intro a134 e134 ob134
            cases e134
            intro a136 e136 ob136
            cases e136
            rw [hPq_125.1.2]
            try dsimp only
            intro w138 τ138 o138 q138
            rw [hPq_125.1.1] at q138 o138
            obtain ⟨g0, hg0, hG0⟩ := az_0 hp4 hF125 hne2
            obtain ⟨rfl, hAa⟩ := q138 (N, E, A, B, V, z, T, ms, nm, J, V1, g0, f) ⟨rfl, hp4.1.1.fr hF125 rfl, hTgr, hwf, hG0, hp4.1.2.2.2.1.fr hF125 rfl, Nat.lt_of_lt_of_le hp4.1.2.2.2.2 hF125.1, hfu, hv1⟩
            have hF138 : FrE [90, 91, 92, 94, 217, 218, 281, 282, 283, 284, 285, 286, 287, 288, 901] s4 τ138 := (hF125.mo rfl).tr (o138.2.mo rfl)
            try dsimp only [Option.toList, List.cons_append, List.nil_append, s1C, s2C, dlC, kyC, Nat.beq, lkC, rcd, rno, rsw]
            refine hB _ _ _ _ _ (fun m139 hm139 => ?_)
            dsimp only [ucgo, ucwp, ucsC, uqC, uoC, ctC, rfd, KX3_judgeProgram, KX3_judgeProgram_0, KX3_judgeProgram_7, KX3_judgeProgram_21, KX3_judgeProgram_32, KX3_judgeProgram_34, KX3_judgeProgram_48, KX3_judgeProgram_68, KX3_judgeProgram_93, KX3_judgeProgram_99, KX3_judgeProgram_101, KX3_judgeProgram_115, KX3_judgeProgram_139, KX3_judgeProgram_141, KX3_judgeProgram_155, KX3_judgeProgram_179, KX3_judgeProgram_189, KX3_judgeProgram_200, KX3_judgeProgram_210, KX3_judgeProgram_221, lkC, s1C, s2C, dlC, kyC, Nat.beq, Nat.ble, rcd, rno, rsw, Nat.reduceAdd, Nat.reduceBEq, Nat.reduceDiv, List.drop, List.take, List.reverse, List.reverseAux, Int.toNat, Option.toList, List.append, List.cons_append, List.nil_append, zg120, zg121, zg211, zg212, zg213, zg214, zg217, zg330, zg334]
            try dsimp only [Qz_judgeProgram]
            exact fun τ9 h9 => ⟨rfl, by
              have hrf : (raL (rcF N z T f) z ms J nm 0 r00).2.2.2 = false := by
                cases hb : (raL (rcF N z T f) z ms J nm 0 r00).2.2.2 with
                | false => rfl
                | true => exact absurd (hRr.2.mpr hb) hne2
              refine ⟨g0, hg0, ?_⟩
              rcases Classical.em (erC E τ138) with hx | hx
              · refine Or.inl ⟨(er_we h9).mpr hx, fun T9 q9 => ?_⟩
                cases htb.symm.trans q9.2.1
                have q8 := hAa.2.2.2.2.mp hx
                rw [q9.2.2.2.2] at q8
                cases q8
              · refine Or.inr ⟨fun q9 => hx ((er_we h9).mp q9), T, ⟨hok, htb, hsk, hrf, ?_⟩, (hp4.1.1.fr hF138 rfl).we_ h9, fun j9 q9 => ⟨?_, ?_⟩, fun q9 => ?_⟩
                · cases hb : (asL (asF N z T f) ms J V1 nm 0 g0).2.2.2.2.2.2.2 with
                  | false => rfl
                  | true => exact absurd (hAa.2.2.2.2.mpr hb) hx
                · rw [we_i h9, ((o138.2.2 rfl (B j9) (Nat.lt_of_lt_of_le (hp4.1.1.1 j9 q9).2 hF125.1)).1 282 rfl).1]
                  exact (hRr.1 j9 q9).1
                · rw [we_l h9]
                  exact (hAa.1 j9 q9).1
                · rw [we_ei h9, (hF138.2 rfl (E 303) hp4.2.2.2.1).2.1 rfl]
                  exact hp4.2.2.2.2 q9⟩
      · have g106 := nleI (x := r105) (y := i) h106
        obtain ⟨ki, hki⟩ : ∃ q, i.toInt.toNat = q := ⟨_, rfl⟩
        have hlki : ki < (snM z) := by omega
        obtain ⟨ob, hob⟩ : ∃ o, B ki = o := ⟨_, rfl⟩
        have h5k := h5
        rw [hki] at h5k
        refine hB _ _ _ _ _ (fun m140 hm140 => ?_)
        dsimp only [ucgo, ucwp, ucsC, uqC, uoC, ctC, rfd, KX3_judgeProgram, KX3_judgeProgram_0, KX3_judgeProgram_7, KX3_judgeProgram_21, KX3_judgeProgram_32, KX3_judgeProgram_34, KX3_judgeProgram_48, KX3_judgeProgram_68, KX3_judgeProgram_93, KX3_judgeProgram_99, KX3_judgeProgram_101, KX3_judgeProgram_115, KX3_judgeProgram_139, KX3_judgeProgram_141, KX3_judgeProgram_155, KX3_judgeProgram_179, KX3_judgeProgram_189, KX3_judgeProgram_200, KX3_judgeProgram_210, KX3_judgeProgram_221, lkC, s1C, s2C, dlC, kyC, Nat.beq, Nat.ble, rcd, rno, rsw, Nat.reduceAdd, Nat.reduceBEq, Nat.reduceDiv, List.drop, List.take, List.reverse, List.reverseAux, Int.toNat, Option.toList, List.append, List.cons_append, List.nil_append, zg120, zg121, zg211, zg212, zg213, zg214, zg217, zg330, zg334]
        intro a141 e141 ob141
        cases e141
        intro a143 e143 ob143
        obtain rfl : E 1 = a143 := Option.some.inj (hPq_0.1.1.symm.trans e143)
        rw [hPq_0.2.1.2.2.2]
        try dsimp only
        intro w145 τ145 o145 q145
        have hg145 : Q_Jx4a65c_get_915e3 [.inr (.inr (some (E 214))), .inl i] s0 w145 τ145 ∧ U_get [.inr (.inr (some (E 214))), .inl i] s0 w145 τ145 := o145.1.1
        obtain ⟨b145, rfl, rfl, -⟩ := hg145.1
        have he145 := hg145.2 b145 rfl
        have hv145 := hli.2 ki hlki
        try dsimp only at hv145
        obtain rfl : ob = b145 := hob.symm.trans (Option.some.inj (hv145.1.symm.trans (by rw [← hki, ← nT_toNat]; exact he145)))
        try dsimp only [Option.toList, List.cons_append, List.nil_append, s1C, s2C, dlC, kyC, Nat.beq, lkC, rcd, rno, rsw]
        intro oc146
        intro w147 τ147 o147 q147
        obtain ⟨rfl, hq9⟩ := q147 (N, E, A, B, V, z, T, ms, nm, ki) ⟨_, rfl, hp4.1.1.fr hF0 rfl, hp4.1.2.1.fr hF0 rfl, hwf.1, hlki, hob.symm, hwf.2.2.1, hrow, hrt, by rw [← hob, h281 ki hlki]; exact if_neg (fun q8 => by omega)⟩
        have hF147 : FrE [217, 218, 281] s4 τ147 := hF0.tr (o147.2.mo rfl)
        have hPq_147 := PqC.fr hPq_0 o147.2 rfl
        try dsimp only [Option.toList, List.cons_append, List.nil_append, s1C, s2C, dlC, kyC, Nat.beq, lkC, rcd, rno, rsw]
        have c148 : (Int32.ofInt 1).toInt = 1 := by decide
        have u149 := tiC i
        have a149 : (i + (Int32.ofInt 1)).toInt = i.toInt + 1 := addC (by omega) (by omega) (by omega)
        exact hW _ 141 [(0, .inr (.inr (some (E 3)))), (1, .inr (.inr (some (E 1)))), (2, .inl (i + (Int32.ofInt 1)))] _ _ _ (List.forall_mem_cons.2 ⟨List.Mem.tail _ (List.Mem.head _), List.forall_mem_cons.2 ⟨List.Mem.tail _ (List.Mem.tail _ (List.Mem.head _)), List.forall_mem_cons.2 ⟨List.Mem.head _, fun _ h => absurd h List.not_mem_nil⟩⟩⟩) (ih _ (by omega) T s4 τ147 (i + (Int32.ofInt 1)) hok htb hp4 hPq_147 hF147 (by omega) (by omega) (by rw [show ((i + (Int32.ofInt 1)) : Int32).toInt.toNat = ki + 1 by omega, nokS_s, ← h5k]; exact hq9.1) (fun j9 q9 => by
          by_cases c9 : j9 = ki
          · rw [c9, ← show B ki = ob from hob] at *
            rw [hq9.2.1]
            by_cases c8 : kjS z ki = 64 ∨ kjS z ki = 65
            · rw [if_pos c8, if_pos ⟨by omega, c8⟩]
            · rw [if_neg c8, if_neg (fun q8 => c8 q8.2)]
          · rw [hq9.2.2 (B j9) (Nat.lt_of_lt_of_le (hp4.1.1.1 j9 q9).2 hF0.1) (fun q8 => c9 (hwf.2.2.1 j9 ki q9 hlki (q8.trans hob.symm))), h281 j9 q9]
            by_cases c8 : j9 < i.toInt.toNat ∧ (kjS z j9 = 64 ∨ kjS z j9 = 65)
            · rw [if_pos c8, if_pos ⟨by omega, c8.2⟩]
            · rw [if_neg c8, if_neg (fun q8 => c8 ⟨by omega, q8.2⟩)]))
  have L101 : ∀ (n : Nat) (σq : CsC) (s0 : CsC) (i : Int32) (T : TbT), ((∀ k, k < nm → m1T ms k 12) ∧ ∀ v, v < (zVs z.1).length → clS z v = 0) → (StC N E A B V σq z ms nm) → (BdC E σq ms) → (MbC E B σq z ms nm J V1) → (eIC σq = eIC σ) → (∃ u, WzC E σq u) → (RoC σq (E 214)) → (PqC E s0) → (JxC E A V z σq s0 T i.toInt.toNat) → (tbT (CzT N z ms) (fun i => xth z i) i.toInt.toNat = some T) → (0 ≤ i.toInt) → (i.toInt ≤ (xnM z : Int)) →  K n 101 [(0, .inr (.inr (some (E 3)))), (1, .inr (.inr (some (E 1)))), (2, .inl i)] [] s0 := by
    intro n
    induction n using Nat.strongRecOn with
    | _ n ih =>
      intro σq s0 i T hok hSq hBq hMq he3 hUq h214q hPq_0 hJ htb h1 h2
      have hli : LiC s0 (E 213) (xnM z) A := (SsC.of hSq hJ hBq).2.2.2.1.2
      refine hB _ _ _ _ _ (fun m150 hm150 => ?_)
      dsimp only [ucgo, ucwp, ucsC, uqC, uoC, ctC, rfd, KX3_judgeProgram, KX3_judgeProgram_0, KX3_judgeProgram_7, KX3_judgeProgram_21, KX3_judgeProgram_32, KX3_judgeProgram_34, KX3_judgeProgram_48, KX3_judgeProgram_68, KX3_judgeProgram_93, KX3_judgeProgram_99, KX3_judgeProgram_101, KX3_judgeProgram_115, KX3_judgeProgram_139, KX3_judgeProgram_141, KX3_judgeProgram_155, KX3_judgeProgram_179, KX3_judgeProgram_189, KX3_judgeProgram_200, KX3_judgeProgram_210, KX3_judgeProgram_221, lkC, s1C, s2C, dlC, kyC, Nat.beq, Nat.ble, rcd, rno, rsw, Nat.reduceAdd, Nat.reduceBEq, Nat.reduceDiv, List.drop, List.take, List.reverse, List.reverseAux, Int.toNat, Option.toList, List.append, List.cons_append, List.nil_append, zg120, zg121, zg211, zg212, zg213, zg214, zg217, zg330, zg334]
      intro a151 e151 ob151
      cases e151
      intro a153 e153 ob153
      obtain rfl : E 1 = a153 := Option.some.inj (hPq_0.1.1.symm.trans e153)
      rw [hPq_0.2.1.2.2.1]
      try dsimp only
      intro w155 τ155 o155 q155
      obtain ⟨r155, rfl, rfl, hr155a, hr155b, hr155, -⟩ := (show Q_Jx4a65c_size_8abf5 [.inr (.inr (some (E 213)))] s0 w155 τ155 from o155.1.1)
      have hs155_ : r155.toInt = ((xnM z) : Int) := by rw [← hr155]; exact hli.1
      try dsimp only [Option.toList, List.cons_append, List.nil_append, s1C, s2C, dlC, kyC, Nat.beq, lkC, rcd, rno, rsw]
      refine ⟨fun h156 => ?_, fun h156 => ?_⟩
      · have g156 := leI (x := r155) (y := i) h156
        refine hB _ _ _ _ _ (fun m157 hm157 => ?_)
        dsimp only [ucgo, ucwp, ucsC, uqC, uoC, ctC, rfd, KX3_judgeProgram, KX3_judgeProgram_0, KX3_judgeProgram_7, KX3_judgeProgram_21, KX3_judgeProgram_32, KX3_judgeProgram_34, KX3_judgeProgram_48, KX3_judgeProgram_68, KX3_judgeProgram_93, KX3_judgeProgram_99, KX3_judgeProgram_101, KX3_judgeProgram_115, KX3_judgeProgram_139, KX3_judgeProgram_141, KX3_judgeProgram_155, KX3_judgeProgram_179, KX3_judgeProgram_189, KX3_judgeProgram_200, KX3_judgeProgram_210, KX3_judgeProgram_221, lkC, s1C, s2C, dlC, kyC, Nat.beq, Nat.ble, rcd, rno, rsw, Nat.reduceAdd, Nat.reduceBEq, Nat.reduceDiv, List.drop, List.take, List.reverse, List.reverseAux, Int.toNat, Option.toList, List.append, List.cons_append, List.nil_append, zg120, zg121, zg211, zg212, zg213, zg214, zg217, zg330, zg334]
        have c158 : (Int32.ofInt 0).toInt = 0 := by decide
        rw [show i.toInt.toNat = xnM z by omega] at hJ htb
        have hp4 : Ph4 N E A B σ s0 z T ms nm J V1 := Ph4.of hSq hBq hMq he3 hUq hJ h214q
        exact hW _ 141 [(0, .inr (.inr (some (E 3)))), (1, .inr (.inr (some (E 1)))), (2, .inl (Int32.ofInt 0))] _ _ _ (List.forall_mem_cons.2 ⟨List.Mem.tail _ (List.Mem.head _), List.forall_mem_cons.2 ⟨List.Mem.tail _ (List.Mem.tail _ (List.Mem.head _)), List.forall_mem_cons.2 ⟨List.Mem.head _, fun _ h => absurd h List.not_mem_nil⟩⟩⟩) (L141 _ T s0 s0 (Int32.ofInt 0) hok htb hp4 hPq_0 FrE.rf (by omega) (by omega) (by rw [show ((Int32.ofInt 0) : Int32).toInt.toNat = 0 by omega]; exact iff_of_false hp4.1.2.2.1 nokS_0) (fun j9 q9 => by rw [if_neg (fun q8 => by omega)]; exact (hp4.2.1.1 j9 q9).1))
      · have g156 := nleI (x := r155) (y := i) h156
        obtain ⟨ki, hki⟩ : ∃ q, i.toInt.toNat = q := ⟨_, rfl⟩
        have hlki : ki < (xnM z) := by omega
        obtain ⟨ob, hob⟩ : ∃ o, A ki = o := ⟨_, rfl⟩
        rw [hki] at hJ htb
        refine hB _ _ _ _ _ (fun m159 hm159 => ?_)
        dsimp only [ucgo, ucwp, ucsC, uqC, uoC, ctC, rfd, KX3_judgeProgram, KX3_judgeProgram_0, KX3_judgeProgram_7, KX3_judgeProgram_21, KX3_judgeProgram_32, KX3_judgeProgram_34, KX3_judgeProgram_48, KX3_judgeProgram_68, KX3_judgeProgram_93, KX3_judgeProgram_99, KX3_judgeProgram_101, KX3_judgeProgram_115, KX3_judgeProgram_139, KX3_judgeProgram_141, KX3_judgeProgram_155, KX3_judgeProgram_179, KX3_judgeProgram_189, KX3_judgeProgram_200, KX3_judgeProgram_210, KX3_judgeProgram_221, lkC, s1C, s2C, dlC, kyC, Nat.beq, Nat.ble, rcd, rno, rsw, Nat.reduceAdd, Nat.reduceBEq, Nat.reduceDiv, List.drop, List.take, List.reverse, List.reverseAux, Int.toNat, Option.toList, List.append, List.cons_append, List.nil_append, zg120, zg121, zg211, zg212, zg213, zg214, zg217, zg330, zg334]
        intro a160 e160 ob160
        cases e160
        intro a162 e162 ob162
        obtain rfl : E 1 = a162 := Option.some.inj (hPq_0.1.1.symm.trans e162)
        rw [hPq_0.2.1.2.2.1]
        try dsimp only
        intro w164 τ164 o164 q164
        have hg164 : Q_Jx4a65c_get_915e3 [.inr (.inr (some (E 213))), .inl i] s0 w164 τ164 ∧ U_get [.inr (.inr (some (E 213))), .inl i] s0 w164 τ164 := o164.1.1
        obtain ⟨b164, rfl, rfl, -⟩ := hg164.1
        have he164 := hg164.2 b164 rfl
        have hv164 := hli.2 ki hlki
        try dsimp only at hv164
        obtain rfl : ob = b164 := hob.symm.trans (Option.some.inj (hv164.1.symm.trans (by rw [← hki, ← nT_toNat]; exact he164)))
        try dsimp only [Option.toList, List.cons_append, List.nil_append, s1C, s2C, dlC, kyC, Nat.beq, lkC, rcd, rno, rsw]
        intro oc165
        intro w166 τ166 o166 q166
        obtain ⟨rfl, hjo⟩ := q166 (N, E, A, B, V, z, σq, T, ki, ms, nm) ⟨_, rfl, hSq, hJ, hlki, hob.symm, hpur ki T (by omega) htb, hcal, hcf, hcl⟩
        rcases hjo with ⟨hn1, hn2⟩ | ⟨e9, hn1, hn2⟩
        · have hPq_166 := PqC.fr hPq_0 o166.2 rfl
          try dsimp only [Option.toList, List.cons_append, List.nil_append, s1C, s2C, dlC, kyC, Nat.beq, lkC, rcd, rno, rsw]
          have c167 : (Int32.ofInt 1).toInt = 1 := by decide
          exact hW _ 101 [(0, .inr (.inr (some (E 3)))), (1, .inr (.inr (some (E 1)))), (2, .inl (i + (Int32.ofInt 1)))] _ _ _ (List.forall_mem_cons.2 ⟨List.Mem.tail _ (List.Mem.head _), List.forall_mem_cons.2 ⟨List.Mem.tail _ (List.Mem.tail _ (List.Mem.head _)), List.forall_mem_cons.2 ⟨List.Mem.head _, fun _ h => absurd h List.not_mem_nil⟩⟩⟩) (B101 _ τ166 (i + (Int32.ofInt 1)) hn2 hPq_166 (fun g9 T9 q9 => by have q8 := tb_n (tb_e (xs := fun i => xth z i) htb hn1) (xnM z) (by omega); exact absurd (q8.symm.trans q9.2.1) (by intro q7; cases q7)))
        · have hPq_166 := PqC.fr hPq_0 o166.2 rfl
          try dsimp only [Option.toList, List.cons_append, List.nil_append, s1C, s2C, dlC, kyC, Nat.beq, lkC, rcd, rno, rsw]
          have c169 : (Int32.ofInt 1).toInt = 1 := by decide
          have u170 := tiC i
          have a170 : (i + (Int32.ofInt 1)).toInt = i.toInt + 1 := addC (by omega) (by omega) (by omega)
          exact hW _ 101 [(0, .inr (.inr (some (E 3)))), (1, .inr (.inr (some (E 1)))), (2, .inl (i + (Int32.ofInt 1)))] _ _ _ (List.forall_mem_cons.2 ⟨List.Mem.tail _ (List.Mem.head _), List.forall_mem_cons.2 ⟨List.Mem.tail _ (List.Mem.tail _ (List.Mem.head _)), List.forall_mem_cons.2 ⟨List.Mem.head _, fun _ h => absurd h List.not_mem_nil⟩⟩⟩) (ih _ (by omega) σq τ166 (i + (Int32.ofInt 1)) (fun k => if k = ki then e9 else T.1 k, vrT (CzT N z ms) T (xth z ki)) hok hSq hBq hMq he3 hUq h214q hPq_166 (by rw [show (i + Int32.ofInt 1).toInt.toNat = ki + 1 by omega]; exact hn2) (by rw [show (i + Int32.ofInt 1).toInt.toNat = ki + 1 by omega]; exact tb_s (xs := fun i => xth z i) htb hn1) (by omega) (by omega))
  have L34 : ∀ (n : Nat) (s0 : CsC) (i : Int32), (PqC E s0) → (FrE [217, 218] s1 s0) → (erC E s0 ∨ WeC s1 s0) → (0 ≤ i.toInt) → (i.toInt ≤ ((zVs z.1).length : Int)) → (erC E s0 ↔ (nokM ms nm ∨ nokV z i.toInt.toNat)) →  K n 34 [(0, .inr (.inr (some (E 3)))), (1, .inr (.inr (some (E 1)))), (2, .inl i)] [] s0 := by
    intro n
    induction n using Nat.strongRecOn with
    | _ n ih =>
      intro s0 i hPq_0 hF0 hg h1 h2 h5
      have hli : LiC s0 (E 212) (zVs z.1).length V := (hS1.1.1.2.2.2.1.2.2.1).fr hF0 rfl hS1.1.1.1.2.2.2.2.1.2.1 hB1.2.2.1
      refine hB _ _ _ _ _ (fun m171 hm171 => ?_)
      dsimp only [ucgo, ucwp, ucsC, uqC, uoC, ctC, rfd, KX3_judgeProgram, KX3_judgeProgram_0, KX3_judgeProgram_7, KX3_judgeProgram_21, KX3_judgeProgram_32, KX3_judgeProgram_34, KX3_judgeProgram_48, KX3_judgeProgram_68, KX3_judgeProgram_93, KX3_judgeProgram_99, KX3_judgeProgram_101, KX3_judgeProgram_115, KX3_judgeProgram_139, KX3_judgeProgram_141, KX3_judgeProgram_155, KX3_judgeProgram_179, KX3_judgeProgram_189, KX3_judgeProgram_200, KX3_judgeProgram_210, KX3_judgeProgram_221, lkC, s1C, s2C, dlC, kyC, Nat.beq, Nat.ble, rcd, rno, rsw, Nat.reduceAdd, Nat.reduceBEq, Nat.reduceDiv, List.drop, List.take, List.reverse, List.reverseAux, Int.toNat, Option.toList, List.append, List.cons_append, List.nil_append, zg120, zg121, zg211, zg212, zg213, zg214, zg217, zg330, zg334]
      intro a172 e172 ob172
      cases e172
      intro a174 e174 ob174
      obtain rfl : E 1 = a174 := Option.some.inj (hPq_0.1.1.symm.trans e174)
      rw [hPq_0.2.1.2.1]
      try dsimp only
      intro w176 τ176 o176 q176
      obtain ⟨r176, rfl, rfl, hr176a, hr176b, hr176, -⟩ := (show Q_Jx4a65c_size_8abf5 [.inr (.inr (some (E 212)))] s0 w176 τ176 from o176.1.1)
      have hs176_ : r176.toInt = ((zVs z.1).length : Int) := by rw [← hr176]; exact hli.1
      try dsimp only [Option.toList, List.cons_append, List.nil_append, s1C, s2C, dlC, kyC, Nat.beq, lkC, rcd, rno, rsw]
      refine ⟨fun h177 => ?_, fun h177 => ?_⟩
      · have g177 := leI (x := r176) (y := i) h177
        refine hB _ _ _ _ _ (fun m178 hm178 => ?_)
        dsimp only [ucgo, ucwp, ucsC, uqC, uoC, ctC, rfd, KX3_judgeProgram, KX3_judgeProgram_0, KX3_judgeProgram_7, KX3_judgeProgram_21, KX3_judgeProgram_32, KX3_judgeProgram_34, KX3_judgeProgram_48, KX3_judgeProgram_68, KX3_judgeProgram_93, KX3_judgeProgram_99, KX3_judgeProgram_101, KX3_judgeProgram_115, KX3_judgeProgram_139, KX3_judgeProgram_141, KX3_judgeProgram_155, KX3_judgeProgram_179, KX3_judgeProgram_189, KX3_judgeProgram_200, KX3_judgeProgram_210, KX3_judgeProgram_221, lkC, s1C, s2C, dlC, kyC, Nat.beq, Nat.ble, rcd, rno, rsw, Nat.reduceAdd, Nat.reduceBEq, Nat.reduceDiv, List.drop, List.take, List.reverse, List.reverseAux, Int.toNat, Option.toList, List.append, List.cons_append, List.nil_append, zg120, zg121, zg211, zg212, zg213, zg214, zg217, zg330, zg334]
        have c179 : (Int32.ofInt 0).toInt = 0 := by decide
        have h5n := h5
        rw [show i.toInt.toNat = (zVs z.1).length by omega] at h5n
        rcases Classical.em (erC E s0) with hbd | hgd
        · exact hW _ 101 [(0, .inr (.inr (some (E 3)))), (1, .inr (.inr (some (E 1)))), (2, .inl (Int32.ofInt 0))] _ _ _ (List.forall_mem_cons.2 ⟨List.Mem.tail _ (List.Mem.head _), List.forall_mem_cons.2 ⟨List.Mem.tail _ (List.Mem.tail _ (List.Mem.head _)), List.forall_mem_cons.2 ⟨List.Mem.head _, fun _ h => absurd h List.not_mem_nil⟩⟩⟩) (B101 _ s0 (Int32.ofInt 0) hbd hPq_0 (fun g9 T9 q9 => by
            rcases (h5n.mp hbd) with q8 | q8
            · exact nokM_n.mp q8 q9.1.1
            · exact nokV_n.mp q8 q9.1.2))
        · have hwe := hg.elim (fun q9 => absurd q9 hgd) id
          have hok : (∀ k, k < nm → m1T ms k 12) ∧ ∀ v, v < (zVs z.1).length → clS z v = 0 := ⟨Classical.byContradiction (fun q9 => hgd (h5n.mpr (Or.inl (nokM_n.mpr q9)))), Classical.byContradiction (fun q9 => hgd (h5n.mpr (Or.inr (nokV_n.mpr q9))))⟩
          exact hW _ 101 [(0, .inr (.inr (some (E 3)))), (1, .inr (.inr (some (E 1)))), (2, .inl (Int32.ofInt 0))] _ _ _ (List.forall_mem_cons.2 ⟨List.Mem.tail _ (List.Mem.head _), List.forall_mem_cons.2 ⟨List.Mem.tail _ (List.Mem.tail _ (List.Mem.head _)), List.forall_mem_cons.2 ⟨List.Mem.head _, fun _ h => absurd h List.not_mem_nil⟩⟩⟩) (L101 _ s0 s0 (Int32.ofInt 0) (t0T N (fun i => xth z i)) hok (hS1.we hwe) (hB1.we hwe) (hM1.we hwe) (by rw [we_ei hwe]; exact e303) (wz_we hU1 hwe) (by unfold RoC; rw [we_r hwe, we_c hwe, we_i hwe]; exact h214) hPq_0 (JxC.z (hS1.we hwe)) rfl (by omega) (by omega))
      · have g177 := nleI (x := r176) (y := i) h177
        obtain ⟨ki, hki⟩ : ∃ q, i.toInt.toNat = q := ⟨_, rfl⟩
        have hlki : ki < (zVs z.1).length := by omega
        obtain ⟨ob, hob⟩ : ∃ o, V ki = o := ⟨_, rfl⟩
        rw [hki] at h5
        have h5k := h5
        refine hB _ _ _ _ _ (fun m180 hm180 => ?_)
        dsimp only [ucgo, ucwp, ucsC, uqC, uoC, ctC, rfd, KX3_judgeProgram, KX3_judgeProgram_0, KX3_judgeProgram_7, KX3_judgeProgram_21, KX3_judgeProgram_32, KX3_judgeProgram_34, KX3_judgeProgram_48, KX3_judgeProgram_68, KX3_judgeProgram_93, KX3_judgeProgram_99, KX3_judgeProgram_101, KX3_judgeProgram_115, KX3_judgeProgram_139, KX3_judgeProgram_141, KX3_judgeProgram_155, KX3_judgeProgram_179, KX3_judgeProgram_189, KX3_judgeProgram_200, KX3_judgeProgram_210, KX3_judgeProgram_221, lkC, s1C, s2C, dlC, kyC, Nat.beq, Nat.ble, rcd, rno, rsw, Nat.reduceAdd, Nat.reduceBEq, Nat.reduceDiv, List.drop, List.take, List.reverse, List.reverseAux, Int.toNat, Option.toList, List.append, List.cons_append, List.nil_append, zg120, zg121, zg211, zg212, zg213, zg214, zg217, zg330, zg334]
        intro a181 e181 ob181
        cases e181
        intro a183 e183 ob183
        obtain rfl : E 1 = a183 := Option.some.inj (hPq_0.1.1.symm.trans e183)
        rw [hPq_0.2.1.2.1]
        try dsimp only
        intro w185 τ185 o185 q185
        have hg185 : Q_Jx4a65c_get_915e3 [.inr (.inr (some (E 212))), .inl i] s0 w185 τ185 ∧ U_get [.inr (.inr (some (E 212))), .inl i] s0 w185 τ185 := o185.1.1
        obtain ⟨b185, rfl, rfl, -⟩ := hg185.1
        have he185 := hg185.2 b185 rfl
        have hv185 := hli.2 ki hlki
        try dsimp only at hv185
        obtain rfl : ob = b185 := hob.symm.trans (Option.some.inj (hv185.1.symm.trans (by rw [← hki, ← nT_toNat]; exact he185)))
        try dsimp only [Option.toList, List.cons_append, List.nil_append, s1C, s2C, dlC, kyC, Nat.beq, lkC, rcd, rno, rsw]
        intro oc186
        intro a187 e187 ob187
        cases e187
        have f188 : (fIC s0 ob 334).toInt = clS z ki := by
          rw [← hob, ((hF0.2 rfl (V ki) (hS1.1.1.2.2.2.1.2.2.1.2 ki hlki).2).1 334 rfl).1]
          exact (hS1.1.1.2.2.2.2.2.2.1 ki hlki).2.2.2.2.1
        refine ⟨fun h189 => ?_, fun h189 => ?_⟩
        · have g189 := (eqI (x := (fIC s0 ob 334)) (y := 0) h189 : ((fIC s0 ob 334) : Int32).toInt = (0 : Int32).toInt)
          have z0_ : (0 : Int32).toInt = 0 := rfl
          refine hB _ _ _ _ _ (fun m190 hm190 => ?_)
          dsimp only [ucgo, ucwp, ucsC, uqC, uoC, ctC, rfd, KX3_judgeProgram, KX3_judgeProgram_0, KX3_judgeProgram_7, KX3_judgeProgram_21, KX3_judgeProgram_32, KX3_judgeProgram_34, KX3_judgeProgram_48, KX3_judgeProgram_68, KX3_judgeProgram_93, KX3_judgeProgram_99, KX3_judgeProgram_101, KX3_judgeProgram_115, KX3_judgeProgram_139, KX3_judgeProgram_141, KX3_judgeProgram_155, KX3_judgeProgram_179, KX3_judgeProgram_189, KX3_judgeProgram_200, KX3_judgeProgram_210, KX3_judgeProgram_221, lkC, s1C, s2C, dlC, kyC, Nat.beq, Nat.ble, rcd, rno, rsw, Nat.reduceAdd, Nat.reduceBEq, Nat.reduceDiv, List.drop, List.take, List.reverse, List.reverseAux, Int.toNat, Option.toList, List.append, List.cons_append, List.nil_append, zg120, zg121, zg211, zg212, zg213, zg214, zg217, zg330, zg334]
          have c191 : (Int32.ofInt 1).toInt = 1 := by decide
          have u192 := tiC i
          have a192 : (i + (Int32.ofInt 1)).toInt = i.toInt + 1 := addC (by omega) (by omega) (by omega)
          exact hW _ 34 [(0, .inr (.inr (some (E 3)))), (1, .inr (.inr (some (E 1)))), (2, .inl (i + (Int32.ofInt 1)))] _ _ _ (List.forall_mem_cons.2 ⟨List.Mem.tail _ (List.Mem.head _), List.forall_mem_cons.2 ⟨List.Mem.tail _ (List.Mem.tail _ (List.Mem.head _)), List.forall_mem_cons.2 ⟨List.Mem.head _, fun _ h => absurd h List.not_mem_nil⟩⟩⟩) (ih _ (by omega) s0 (i + (Int32.ofInt 1)) hPq_0 hF0 hg (by omega) (by omega) (by rw [show ((i + (Int32.ofInt 1)) : Int32).toInt.toNat = ki + 1 by omega, nokV_s, ← or_assoc, ← h5k]; exact ⟨Or.inl, fun q9 => q9.elim id (fun q8 => absurd (by omega) q8)⟩))
        · have g189 := (neI (x := (fIC s0 ob 334)) (y := 0) h189 : ¬ ((fIC s0 ob 334) : Int32).toInt = (0 : Int32).toInt)
          have z0_ : (0 : Int32).toInt = 0 := rfl
          refine hB _ _ _ _ _ (fun m193 hm193 => ?_)
          dsimp only [ucgo, ucwp, ucsC, uqC, uoC, ctC, rfd, KX3_judgeProgram, KX3_judgeProgram_0, KX3_judgeProgram_7, KX3_judgeProgram_21, KX3_judgeProgram_32, KX3_judgeProgram_34, KX3_judgeProgram_48, KX3_judgeProgram_68, KX3_judgeProgram_93, KX3_judgeProgram_99, KX3_judgeProgram_101, KX3_judgeProgram_115, KX3_judgeProgram_139, KX3_judgeProgram_141, KX3_judgeProgram_155, KX3_judgeProgram_179, KX3_judgeProgram_189, KX3_judgeProgram_200, KX3_judgeProgram_210, KX3_judgeProgram_221, lkC, s1C, s2C, dlC, kyC, Nat.beq, Nat.ble, rcd, rno, rsw, Nat.reduceAdd, Nat.reduceBEq, Nat.reduceDiv, List.drop, List.take, List.reverse, List.reverseAux, Int.toNat, Option.toList, List.append, List.cons_append, List.nil_append, zg120, zg121, zg211, zg212, zg213, zg214, zg217, zg330, zg334]
          intro a194 e194 ob194
          cases e194
          have c196 : (Int32.ofInt 2).toInt = 2 := by decide
          intro a197 e197 ob197
          cases e197
          intro a199 e199 ob199
          obtain rfl : E 1 = a199 := Option.some.inj (hPq_0.1.1.symm.trans e199)
          rw [hPq_0.2.1.2.1]
          try dsimp only
          intro w201 τ201 o201 q201
          have hg201 : Q_Jx4a65c_get_915e3 [.inr (.inr (some (E 212))), .inl i] s0 w201 τ201 ∧ U_get [.inr (.inr (some (E 212))), .inl i] s0 w201 τ201 := o201.1.1
          obtain ⟨b201, rfl, rfl, -⟩ := hg201.1
          have he201 := hg201.2 b201 rfl
          have hv201 := hli.2 ki hlki
          try dsimp only at hv201
          obtain rfl : ob = b201 := hob.symm.trans (Option.some.inj (hv201.1.symm.trans (by rw [← hki, ← nT_toNat]; exact he201)))
          try dsimp only [Option.toList, List.cons_append, List.nil_append, s1C, s2C, dlC, kyC, Nat.beq, lkC, rcd, rno, rsw]
          intro oc202
          intro a203 e203 ob203
          cases e203
          rw [hPq_0.1.1]
          try dsimp only
          intro w205 τ205 o205 q205
          obtain ⟨rfl, hb205⟩ := q205 (N, E, A, B, V, z) ⟨_, _, rfl, by omega⟩
          have hF205 : FrE [217, 218] s1 τ205 := hF0.tr (o205.2.mo rfl)
          have hPq_205 := PqC.fr hPq_0 o205.2 rfl
          try dsimp only [Option.toList, List.cons_append, List.nil_append, s1C, s2C, dlC, kyC, Nat.beq, lkC, rcd, rno, rsw]
          refine hB _ _ _ _ _ (fun m206 hm206 => ?_)
          dsimp only [ucgo, ucwp, ucsC, uqC, uoC, ctC, rfd, KX3_judgeProgram, KX3_judgeProgram_0, KX3_judgeProgram_7, KX3_judgeProgram_21, KX3_judgeProgram_32, KX3_judgeProgram_34, KX3_judgeProgram_48, KX3_judgeProgram_68, KX3_judgeProgram_93, KX3_judgeProgram_99, KX3_judgeProgram_101, KX3_judgeProgram_115, KX3_judgeProgram_139, KX3_judgeProgram_141, KX3_judgeProgram_155, KX3_judgeProgram_179, KX3_judgeProgram_189, KX3_judgeProgram_200, KX3_judgeProgram_210, KX3_judgeProgram_221, lkC, s1C, s2C, dlC, kyC, Nat.beq, Nat.ble, rcd, rno, rsw, Nat.reduceAdd, Nat.reduceBEq, Nat.reduceDiv, List.drop, List.take, List.reverse, List.reverseAux, Int.toNat, Option.toList, List.append, List.cons_append, List.nil_append, zg120, zg121, zg211, zg212, zg213, zg214, zg217, zg330, zg334]
          have c207 : (Int32.ofInt 1).toInt = 1 := by decide
          have u208 := tiC i
          have a208 : (i + (Int32.ofInt 1)).toInt = i.toInt + 1 := addC (by omega) (by omega) (by omega)
          exact hW _ 34 [(0, .inr (.inr (some (E 3)))), (1, .inr (.inr (some (E 1)))), (2, .inl (i + (Int32.ofInt 1)))] _ _ _ (List.forall_mem_cons.2 ⟨List.Mem.tail _ (List.Mem.head _), List.forall_mem_cons.2 ⟨List.Mem.tail _ (List.Mem.tail _ (List.Mem.head _)), List.forall_mem_cons.2 ⟨List.Mem.head _, fun _ h => absurd h List.not_mem_nil⟩⟩⟩) (ih _ (by omega) τ205 (i + (Int32.ofInt 1)) hPq_205 hF205 (Or.inl hb205) (by omega) (by omega) (by rw [show ((i + (Int32.ofInt 1)) : Int32).toInt.toNat = ki + 1 by omega, nokV_s, ← or_assoc, ← h5k]; exact iff_of_true hb205 (Or.inr (by omega))))
  have L7 : ∀ (n : Nat) (s0 : CsC) (i : Int32), (PqC E s0) → (FrE [217, 218] s1 s0) → (erC E s0 ∨ WeC s1 s0) → (0 ≤ i.toInt) → (i.toInt ≤ (nm : Int)) → (erC E s0 ↔ nokM ms i.toInt.toNat) →  K n 7 [(0, .inr (.inr (some (E 3)))), (1, .inr (.inr (some (E 1)))), (2, .inl i)] [] s0 := by
    intro n
    induction n using Nat.strongRecOn with
    | _ n ih =>
      intro s0 i hPq_0 hF0 hg h1 h2 h5
      have hli : LiC s0 (E 211) nm (fun k => E (1000 + k)) := (hS1.2.2.1.2.1).fr hF0 rfl hS1.1.1.1.2.2.2.2.1.1 hB1.1
      refine hB _ _ _ _ _ (fun m209 hm209 => ?_)
      dsimp only [ucgo, ucwp, ucsC, uqC, uoC, ctC, rfd, KX3_judgeProgram, KX3_judgeProgram_0, KX3_judgeProgram_7, KX3_judgeProgram_21, KX3_judgeProgram_32, KX3_judgeProgram_34, KX3_judgeProgram_48, KX3_judgeProgram_68, KX3_judgeProgram_93, KX3_judgeProgram_99, KX3_judgeProgram_101, KX3_judgeProgram_115, KX3_judgeProgram_139, KX3_judgeProgram_141, KX3_judgeProgram_155, KX3_judgeProgram_179, KX3_judgeProgram_189, KX3_judgeProgram_200, KX3_judgeProgram_210, KX3_judgeProgram_221, lkC, s1C, s2C, dlC, kyC, Nat.beq, Nat.ble, rcd, rno, rsw, Nat.reduceAdd, Nat.reduceBEq, Nat.reduceDiv, List.drop, List.take, List.reverse, List.reverseAux, Int.toNat, Option.toList, List.append, List.cons_append, List.nil_append, zg120, zg121, zg211, zg212, zg213, zg214, zg217, zg330, zg334]
      intro a210 e210 ob210
      cases e210
      intro a212 e212 ob212
      obtain rfl : E 1 = a212 := Option.some.inj (hPq_0.1.1.symm.trans e212)
      rw [hPq_0.2.1.1]
      try dsimp only
      intro w214 τ214 o214 q214
      obtain ⟨r214, rfl, rfl, hr214a, hr214b, hr214, -⟩ := (show Q_Jx4a65c_size_8abf5 [.inr (.inr (some (E 211)))] s0 w214 τ214 from o214.1.1)
      have hs214_ : r214.toInt = (nm : Int) := by rw [← hr214]; exact hli.1
      try dsimp only [Option.toList, List.cons_append, List.nil_append, s1C, s2C, dlC, kyC, Nat.beq, lkC, rcd, rno, rsw]
      refine ⟨fun h215 => ?_, fun h215 => ?_⟩
      · have g215 := leI (x := r214) (y := i) h215
        refine hB _ _ _ _ _ (fun m216 hm216 => ?_)
        dsimp only [ucgo, ucwp, ucsC, uqC, uoC, ctC, rfd, KX3_judgeProgram, KX3_judgeProgram_0, KX3_judgeProgram_7, KX3_judgeProgram_21, KX3_judgeProgram_32, KX3_judgeProgram_34, KX3_judgeProgram_48, KX3_judgeProgram_68, KX3_judgeProgram_93, KX3_judgeProgram_99, KX3_judgeProgram_101, KX3_judgeProgram_115, KX3_judgeProgram_139, KX3_judgeProgram_141, KX3_judgeProgram_155, KX3_judgeProgram_179, KX3_judgeProgram_189, KX3_judgeProgram_200, KX3_judgeProgram_210, KX3_judgeProgram_221, lkC, s1C, s2C, dlC, kyC, Nat.beq, Nat.ble, rcd, rno, rsw, Nat.reduceAdd, Nat.reduceBEq, Nat.reduceDiv, List.drop, List.take, List.reverse, List.reverseAux, Int.toNat, Option.toList, List.append, List.cons_append, List.nil_append, zg120, zg121, zg211, zg212, zg213, zg214, zg217, zg330, zg334]
        have c217 : (Int32.ofInt 0).toInt = 0 := by decide
        exact hW _ 34 [(0, .inr (.inr (some (E 3)))), (1, .inr (.inr (some (E 1)))), (2, .inl (Int32.ofInt 0))] _ _ _ (List.forall_mem_cons.2 ⟨List.Mem.tail _ (List.Mem.head _), List.forall_mem_cons.2 ⟨List.Mem.tail _ (List.Mem.tail _ (List.Mem.head _)), List.forall_mem_cons.2 ⟨List.Mem.head _, fun _ h => absurd h List.not_mem_nil⟩⟩⟩) (L34 _ s0 (Int32.ofInt 0) hPq_0 hF0 hg (by omega) (by omega) (by rw [show ((Int32.ofInt 0) : Int32).toInt.toNat = 0 by omega]; rw [show i.toInt.toNat = nm by omega] at h5; exact h5.trans ⟨Or.inl, fun q9 => q9.elim id (fun q8 => absurd q8 nokV_0)⟩))
      · have g215 := nleI (x := r214) (y := i) h215
        obtain ⟨ki, hki⟩ : ∃ q, i.toInt.toNat = q := ⟨_, rfl⟩
        have hlki : ki < nm := by omega
        obtain ⟨ob, hob⟩ : ∃ o, E (1000 + ki) = o := ⟨_, rfl⟩
        rw [hki] at h5
        have h5k := h5
        refine hB _ _ _ _ _ (fun m218 hm218 => ?_)
        dsimp only [ucgo, ucwp, ucsC, uqC, uoC, ctC, rfd, KX3_judgeProgram, KX3_judgeProgram_0, KX3_judgeProgram_7, KX3_judgeProgram_21, KX3_judgeProgram_32, KX3_judgeProgram_34, KX3_judgeProgram_48, KX3_judgeProgram_68, KX3_judgeProgram_93, KX3_judgeProgram_99, KX3_judgeProgram_101, KX3_judgeProgram_115, KX3_judgeProgram_139, KX3_judgeProgram_141, KX3_judgeProgram_155, KX3_judgeProgram_179, KX3_judgeProgram_189, KX3_judgeProgram_200, KX3_judgeProgram_210, KX3_judgeProgram_221, lkC, s1C, s2C, dlC, kyC, Nat.beq, Nat.ble, rcd, rno, rsw, Nat.reduceAdd, Nat.reduceBEq, Nat.reduceDiv, List.drop, List.take, List.reverse, List.reverseAux, Int.toNat, Option.toList, List.append, List.cons_append, List.nil_append, zg120, zg121, zg211, zg212, zg213, zg214, zg217, zg330, zg334]
        intro w219 τ219 o219 q219
        obtain ⟨m9, hm9⟩ := (hM1 ki hlki).2.2.2.2
        obtain ⟨rfl, hj1, hj2⟩ := q219 (N, E, A, B, V, z, (t0T N (fun i => xth z i)), ms, nm, ki, m9) ⟨_, rfl, hSs1.fr hF0 rfl, hNm1.fr hF0 rfl, by omega, hlki, hm9⟩
        have hF219 : FrE [217, 218] s1 τ219 := hF0.tr (o219.2.mo rfl)
        have hg219 : erC E τ219 ∨ WeC s1 τ219 := hj2.elim Or.inl (fun q9 => hg.elim (fun q8 => Or.inl ((er_we q9).mpr q8)) (fun q8 => Or.inr (q8.tr q9)))
        have hPq_219 := PqC.fr hPq_0 o219.2 rfl
        try dsimp only [Option.toList, List.cons_append, List.nil_append, s1C, s2C, dlC, kyC, Nat.beq, lkC, rcd, rno, rsw]
        have c220 : (Int32.ofInt 1).toInt = 1 := by decide
        have u221 := tiC i
        have a221 : (i + (Int32.ofInt 1)).toInt = i.toInt + 1 := addC (by omega) (by omega) (by omega)
        exact hW _ 7 [(0, .inr (.inr (some (E 3)))), (1, .inr (.inr (some (E 1)))), (2, .inl (i + (Int32.ofInt 1)))] _ _ _ (List.forall_mem_cons.2 ⟨List.Mem.tail _ (List.Mem.head _), List.forall_mem_cons.2 ⟨List.Mem.tail _ (List.Mem.tail _ (List.Mem.head _)), List.forall_mem_cons.2 ⟨List.Mem.head _, fun _ h => absurd h List.not_mem_nil⟩⟩⟩) (ih _ (by omega) τ219 (i + (Int32.ofInt 1)) hPq_219 hF219 hg219 (by omega) (by omega) (by rw [show ((i + (Int32.ofInt 1)) : Int32).toInt.toNat = ki + 1 by omega, nokM_s, ← h5k]; exact hj1))
  change K n_ 0 [(0, .inr (.inr (some (E 3)))), (1, .inr (.inr (some (E 1))))] [] σ
  refine hB _ _ _ _ _ (fun m222 hm222 => ?_)
  dsimp only [ucgo, ucwp, ucsC, uqC, uoC, ctC, rfd, KX3_judgeProgram, KX3_judgeProgram_0, KX3_judgeProgram_7, KX3_judgeProgram_21, KX3_judgeProgram_32, KX3_judgeProgram_34, KX3_judgeProgram_48, KX3_judgeProgram_68, KX3_judgeProgram_93, KX3_judgeProgram_99, KX3_judgeProgram_101, KX3_judgeProgram_115, KX3_judgeProgram_139, KX3_judgeProgram_141, KX3_judgeProgram_155, KX3_judgeProgram_179, KX3_judgeProgram_189, KX3_judgeProgram_200, KX3_judgeProgram_210, KX3_judgeProgram_221, lkC, s1C, s2C, dlC, kyC, Nat.beq, Nat.ble, rcd, rno, rsw, Nat.reduceAdd, Nat.reduceBEq, Nat.reduceDiv, List.drop, List.take, List.reverse, List.reverseAux, Int.toNat, Option.toList, List.append, List.cons_append, List.nil_append, zg120, zg121, zg211, zg212, zg213, zg214, zg217, zg330, zg334]
  intro a223 e223 ob223 fk223
  cases e223
  clear fk223 ob223
  generalize hs223 : pRC σ (E 3) 121 (some (E 1)) = s223
  obtain rfl : s1 = s223 := hs1.symm.trans hs223
  have c224 : (Int32.ofInt 0).toInt = 0 := by decide
  exact hW _ 7 [(0, .inr (.inr (some (E 3)))), (1, .inr (.inr (some (E 1)))), (2, .inl (Int32.ofInt 0))] _ _ _ (List.forall_mem_cons.2 ⟨List.Mem.tail _ (List.Mem.head _), List.forall_mem_cons.2 ⟨List.Mem.tail _ (List.Mem.tail _ (List.Mem.head _)), List.forall_mem_cons.2 ⟨List.Mem.head _, fun _ h => absurd h List.not_mem_nil⟩⟩⟩) (L7 _ s1 (Int32.ofInt 0) hPq_p FrE.rf (Or.inr WeC.rf) (by omega) (by omega) (by rw [show ((Int32.ofInt 0) : Int32).toInt.toNat = 0 by omega]; exact ⟨fun q9 => absurd hE1 q9, fun q9 => absurd q9 nokM_0⟩))
theorem wz_judgeProgram : ∀ (L : Nat) (As : List AvC) (σ : CsC) (w : Option AvC) (τ : CsC), EvF L 49 As σ w τ → Uz_judgeProgram As σ w τ := by
  intro L
  cases L with
  | zero => exact fun _ _ _ _ h => h.elim
  | succ L => exact fun As σ w τ h y hy => EvF.us (cs := [234, 50, 235, 118, 53, 28, 20, 80]) (pz_judgeProgram y) rfl (List.forall_mem_cons.2 ⟨fun _ _ _ _ _ => trivial, List.forall_mem_cons.2 ⟨wz_judgeMethod L, List.forall_mem_cons.2 ⟨fun _ _ _ _ _ => trivial, List.forall_mem_cons.2 ⟨wz_tell L, List.forall_mem_cons.2 ⟨wz_judgeExp L, List.forall_mem_cons.2 ⟨wz_assignAll L, List.forall_mem_cons.2 ⟨wz_reachAll L, List.forall_mem_cons.2 ⟨wz_judgeStatement L, fun _ h => absurd h List.not_mem_nil⟩⟩⟩⟩⟩⟩⟩⟩) h hy
