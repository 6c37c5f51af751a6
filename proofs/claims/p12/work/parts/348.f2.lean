abbrev Pz_markTarget : ((Int → Int) × (Nat → Nat) × (Nat → Nat) × (Nat → Nat) × (Nat → Nat) × ZS × TbT × MfT × Nat × Nat × RR) → CpC := fun y As σ => match y with
  | (N, E, A, B, V, z, T, ms, nm, j, r) => ∃ (p0 : Nat), As = [.inr (.inr (some p0))] ∧ (SsC E A B σ z T ms nm) ∧ (PfC E σ) ∧ (TgC N B σ z) ∧ (WfS z T ∧ UpS z ∧ BiC B z) ∧ (j < snM z) ∧ (p0 = B j) ∧ (RhC E B σ z r) ∧ (kjS z j = 64 ∨ kjS z j = 65)
abbrev Qz_markTarget : ((Int → Int) × (Nat → Nat) × (Nat → Nat) × (Nat → Nat) × (Nat → Nat) × ZS × TbT × MfT × Nat × Nat × RR) → CqC := fun y As σ w τ => match y, As with
  | (N, E, A, B, V, z, T, ms, nm, j, r), [.inr (.inr (some p0))] => w = none ∧ RhC E B τ z (mkR N z j r)
  | _, _ => True
abbrev Uz_markTarget : CqC := fun As σ w τ => ∀ y, Pz_markTarget y As σ → Qz_markTarget y As σ w τ
set_option maxHeartbeats 4000000 in
theorem pz_markTarget (y : (Int → Int) × (Nat → Nat) × (Nat → Nat) × (Nat → Nat) × (Nat → Nat) × ZS × TbT × MfT × Nat × Nat × RR) : PbC KX2_markTarget [(181, TrP, EqC 181)] [(181, Uz_hasFinallyAhead)] (fun As σ => Pz_markTarget y As σ ∧ cnC σ ≤ 1000000 ∧ ∃ w τ, uqC quL 27 As σ w τ) (Qz_markTarget y) := by
  obtain ⟨N, E, A, B, V, z, T, ms, nm, j, r⟩ := y
  rintro As σ ⟨⟨p0, rfl, hSs, hPf, hTg, hwf, hj, hp, hR, hk⟩, hcn, _, _, hQ⟩ K hB hW n_
  obtain ⟨hwf, hup, hBi⟩ := hwf
  have op : SlC A B σ z j p0 ∧ p0 < cnC σ := by rw [hp]; exact hSs.1 j hj
  have L2 : ∀ (n : Nat) (e9 : Option Nat) (x9 : Int) (fu : Nat), (x9 < (fu : Int) ∧ fu ≤ snM z) → (e9 = opA B x9) → (mtF z r.1 (tjT N z j) (snM z) (j : Int) = mtF z r.1 (tjT N z j) fu x9) →  K n 2 [(0, .inr (.inr (some p0))), (1, .inr (.inr e9))] [] σ := by
    intro n
    induction n using Nat.strongRecOn with
    | _ n ih =>
      intro e9 x9 fu h1 he9 h5
      refine hB _ _ _ _ _ (fun m51 hm51 => ?_)
      dsimp only [ucgo, ucwp, ucsC, uqC, uoC, ctC, rfd, KX2_markTarget, KX2_markTarget_0, KX2_markTarget_2, KX2_markTarget_6, KX2_markTarget_14, KX2_markTarget_21, KX2_markTarget_34, KX2_markTarget_35, KX2_markTarget_43, KX2_markTarget_50, KX2_markTarget_59, KX2_markTarget_70, KX2_markTarget_77, KX2_markTarget_85, lkC, s1C, s2C, dlC, kyC, Nat.beq, Nat.ble, rcd, rno, rsw, Nat.reduceAdd, Nat.reduceBEq, Nat.reduceDiv, List.drop, List.take, List.reverse, List.reverseAux, Int.toNat, Option.toList, List.append, List.cons_append, List.nil_append, zg270, zg273, zg278, zg281, zg282]
      refine ⟨fun h52 => ?_, fun b52 h52 => ?_⟩
      · have hx52 := opA_nn (he9.symm.trans h52)
        refine hB _ _ _ _ _ (fun m53 hm53 => ?_)
        dsimp only [ucgo, ucwp, ucsC, uqC, uoC, ctC, rfd, KX2_markTarget, KX2_markTarget_0, KX2_markTarget_2, KX2_markTarget_6, KX2_markTarget_14, KX2_markTarget_21, KX2_markTarget_34, KX2_markTarget_35, KX2_markTarget_43, KX2_markTarget_50, KX2_markTarget_59, KX2_markTarget_70, KX2_markTarget_77, KX2_markTarget_85, lkC, s1C, s2C, dlC, kyC, Nat.beq, Nat.ble, rcd, rno, rsw, Nat.reduceAdd, Nat.reduceBEq, Nat.reduceDiv, List.drop, List.take, List.reverse, List.reverseAux, Int.toNat, Option.toList, List.append, List.cons_append, List.nil_append, zg270, zg273, zg278, zg281, zg282]
        intro a54 e54 ob54
        cases e54
        have f55 : (fRC σ p0 281) = opA B (tjT N z j) := by rw [hp]; exact (hTg j hj hk).1
        refine ⟨fun h56 => ?_, fun b56 h56 => ?_⟩
        · have hx56 := opA_nn (f55.symm.trans h56)
          refine hB _ _ _ _ _ (fun m57 hm57 => ?_)
          dsimp only [ucgo, ucwp, ucsC, uqC, uoC, ctC, rfd, KX2_markTarget, KX2_markTarget_0, KX2_markTarget_2, KX2_markTarget_6, KX2_markTarget_14, KX2_markTarget_21, KX2_markTarget_34, KX2_markTarget_35, KX2_markTarget_43, KX2_markTarget_50, KX2_markTarget_59, KX2_markTarget_70, KX2_markTarget_77, KX2_markTarget_85, lkC, s1C, s2C, dlC, kyC, Nat.beq, Nat.ble, rcd, rno, rsw, Nat.reduceAdd, Nat.reduceBEq, Nat.reduceDiv, List.drop, List.take, List.reverse, List.reverseAux, Int.toNat, Option.toList, List.append, List.cons_append, List.nil_append, zg270, zg273, zg278, zg281, zg282]
          intro a58 e58 ob58
          cases e58
          have f59 : (fRC σ p0 281) = opA B (tjT N z j) := by rw [hp]; exact (hTg j hj hk).1
          refine ⟨fun h60 => ?_, fun b60 h60 => ?_⟩
          · have hx60 := opA_nn (f59.symm.trans h60)
            refine hB _ _ _ _ _ (fun m61 hm61 => ?_)
            dsimp only [ucgo, ucwp, ucsC, uqC, uoC, ctC, rfd, KX2_markTarget, KX2_markTarget_0, KX2_markTarget_2, KX2_markTarget_6, KX2_markTarget_14, KX2_markTarget_21, KX2_markTarget_34, KX2_markTarget_35, KX2_markTarget_43, KX2_markTarget_50, KX2_markTarget_59, KX2_markTarget_70, KX2_markTarget_77, KX2_markTarget_85, lkC, s1C, s2C, dlC, kyC, Nat.beq, Nat.ble, rcd, rno, rsw, Nat.reduceAdd, Nat.reduceBEq, Nat.reduceDiv, List.drop, List.take, List.reverse, List.reverseAux, Int.toNat, Option.toList, List.append, List.cons_append, List.nil_append, zg270, zg273, zg278, zg281, zg282]
            try dsimp only [Qz_markTarget]
            exact fun τ9 h9 => ⟨rfl, by unfold mkR; rw [if_neg (by rw [h5.trans (mt_neg hx52)]; decide), if_pos (by omega)]; exact hR.we h9⟩
          · have htl60 := (hTg j hj hk).2.2
            obtain ⟨j60, hj60, hb60⟩ := opA_j (f59.symm.trans h60)
            have hl60 : j60 < snM z := by omega
            have o62 := hSs.1 j60 hl60
            exfalso
            omega
        · have htl56 := (hTg j hj hk).2.2
          obtain ⟨j56, hj56, hb56⟩ := opA_j (f55.symm.trans h56)
          have hl56 : j56 < snM z := by omega
          have o63 := hSs.1 j56 hl56
          refine hB _ _ _ _ _ (fun m64 hm64 => ?_)
          dsimp only [ucgo, ucwp, ucsC, uqC, uoC, ctC, rfd, KX2_markTarget, KX2_markTarget_0, KX2_markTarget_2, KX2_markTarget_6, KX2_markTarget_14, KX2_markTarget_21, KX2_markTarget_34, KX2_markTarget_35, KX2_markTarget_43, KX2_markTarget_50, KX2_markTarget_59, KX2_markTarget_70, KX2_markTarget_77, KX2_markTarget_85, lkC, s1C, s2C, dlC, kyC, Nat.beq, Nat.ble, rcd, rno, rsw, Nat.reduceAdd, Nat.reduceBEq, Nat.reduceDiv, List.drop, List.take, List.reverse, List.reverseAux, Int.toNat, Option.toList, List.append, List.cons_append, List.nil_append, zg270, zg273, zg278, zg281, zg282]
          intro a65 e65 ob65
          cases e65
          have f66 : (fIC σ p0 270).toInt = kjS z j := op.1.1.1
          have c67 : (Int32.ofInt 64).toInt = 64 := by decide
          refine ⟨fun h68 => ?_, fun h68 => ?_⟩
          · have g68 := (neI (x := (fIC σ p0 270)) (y := (Int32.ofInt 64)) h68 : ¬ ((fIC σ p0 270) : Int32).toInt = ((Int32.ofInt 64) : Int32).toInt)
            refine hB _ _ _ _ _ (fun m69 hm69 => ?_)
            dsimp only [ucgo, ucwp, ucsC, uqC, uoC, ctC, rfd, KX2_markTarget, KX2_markTarget_0, KX2_markTarget_2, KX2_markTarget_6, KX2_markTarget_14, KX2_markTarget_21, KX2_markTarget_34, KX2_markTarget_35, KX2_markTarget_43, KX2_markTarget_50, KX2_markTarget_59, KX2_markTarget_70, KX2_markTarget_77, KX2_markTarget_85, lkC, s1C, s2C, dlC, kyC, Nat.beq, Nat.ble, rcd, rno, rsw, Nat.reduceAdd, Nat.reduceBEq, Nat.reduceDiv, List.drop, List.take, List.reverse, List.reverseAux, Int.toNat, Option.toList, List.append, List.cons_append, List.nil_append, zg270, zg273, zg278, zg281, zg282]
            intro a70 e70 ob70
            cases e70
            have f71 : (fRC σ p0 281) = opA B (tjT N z j) := by rw [hp]; exact (hTg j hj hk).1
            refine ⟨fun h72 => ?_, fun b72 h72 => ?_⟩
            · have hx72 := opA_nn (f71.symm.trans h72)
              exfalso
              omega
            · have htl72 := (hTg j hj hk).2.2
              obtain ⟨j72, hj72, hb72⟩ := opA_j (f71.symm.trans h72)
              have hl72 : j72 < snM z := by omega
              have o73 := hSs.1 j72 hl72
              refine hB _ _ _ _ _ (fun m74 hm74 => ?_)
              dsimp only [ucgo, ucwp, ucsC, uqC, uoC, ctC, rfd, KX2_markTarget, KX2_markTarget_0, KX2_markTarget_2, KX2_markTarget_6, KX2_markTarget_14, KX2_markTarget_21, KX2_markTarget_34, KX2_markTarget_35, KX2_markTarget_43, KX2_markTarget_50, KX2_markTarget_59, KX2_markTarget_70, KX2_markTarget_77, KX2_markTarget_85, lkC, s1C, s2C, dlC, kyC, Nat.beq, Nat.ble, rcd, rno, rsw, Nat.reduceAdd, Nat.reduceBEq, Nat.reduceDiv, List.drop, List.take, List.reverse, List.reverseAux, Int.toNat, Option.toList, List.append, List.cons_append, List.nil_append, zg270, zg273, zg278, zg281, zg282]
              intro a75 e75 ob75
              cases e75
              have f76 : (fRC σ p0 281) = opA B (tjT N z j) := by rw [hp]; exact (hTg j hj hk).1
              have c77 : (Int32.ofInt 1).toInt = 1 := by decide
              intro a78 e78 ob78 fk78
              have htl78 := (hTg j hj hk).2.2
              obtain ⟨j78, hj78, hb78⟩ := opA_j (f76.symm.trans e78)
              have hl78 : j78 < snM z := by omega
              have o79 := hSs.1 j78 hl78
              subst hb78
              clear fk78 ob78
              generalize hs78 : pIC σ (B j78) 284 (Int32.ofInt 1) = s78
              have hR78 := RhC.c hR hBi hl78 hs78 (by omega)
              refine hB _ _ _ _ _ (fun m80 hm80 => ?_)
              dsimp only [ucgo, ucwp, ucsC, uqC, uoC, ctC, rfd, KX2_markTarget, KX2_markTarget_0, KX2_markTarget_2, KX2_markTarget_6, KX2_markTarget_14, KX2_markTarget_21, KX2_markTarget_34, KX2_markTarget_35, KX2_markTarget_43, KX2_markTarget_50, KX2_markTarget_59, KX2_markTarget_70, KX2_markTarget_77, KX2_markTarget_85, lkC, s1C, s2C, dlC, kyC, Nat.beq, Nat.ble, rcd, rno, rsw, Nat.reduceAdd, Nat.reduceBEq, Nat.reduceDiv, List.drop, List.take, List.reverse, List.reverseAux, Int.toNat, Option.toList, List.append, List.cons_append, List.nil_append, zg270, zg273, zg278, zg281, zg282]
              try dsimp only [Qz_markTarget]
              exact fun τ9 h9 => ⟨rfl, by unfold mkR; rw [if_neg (by rw [h5.trans (mt_neg hx52)]; decide), if_neg (by omega), if_neg (by omega), show (tjT N z j).toNat = j78 by omega]; exact hR78.we h9⟩
          · have g68 := (eqI (x := (fIC σ p0 270)) (y := (Int32.ofInt 64)) h68 : ((fIC σ p0 270) : Int32).toInt = ((Int32.ofInt 64) : Int32).toInt)
            refine hB _ _ _ _ _ (fun m81 hm81 => ?_)
            dsimp only [ucgo, ucwp, ucsC, uqC, uoC, ctC, rfd, KX2_markTarget, KX2_markTarget_0, KX2_markTarget_2, KX2_markTarget_6, KX2_markTarget_14, KX2_markTarget_21, KX2_markTarget_34, KX2_markTarget_35, KX2_markTarget_43, KX2_markTarget_50, KX2_markTarget_59, KX2_markTarget_70, KX2_markTarget_77, KX2_markTarget_85, lkC, s1C, s2C, dlC, kyC, Nat.beq, Nat.ble, rcd, rno, rsw, Nat.reduceAdd, Nat.reduceBEq, Nat.reduceDiv, List.drop, List.take, List.reverse, List.reverseAux, Int.toNat, Option.toList, List.append, List.cons_append, List.nil_append, zg270, zg273, zg278, zg281, zg282]
            intro a82 e82 ob82
            cases e82
            have f83 : (fRC σ p0 281) = opA B (tjT N z j) := by rw [hp]; exact (hTg j hj hk).1
            have c84 : (Int32.ofInt 1).toInt = 1 := by decide
            intro a85 e85 ob85 fk85
            have htl85 := (hTg j hj hk).2.2
            obtain ⟨j85, hj85, hb85⟩ := opA_j (f83.symm.trans e85)
            have hl85 : j85 < snM z := by omega
            have o86 := hSs.1 j85 hl85
            subst hb85
            clear fk85 ob85
            generalize hs85 : pIC σ (B j85) 283 (Int32.ofInt 1) = s85
            have hR85 := RhC.b hR hBi hl85 hs85 (by omega)
            refine hB _ _ _ _ _ (fun m87 hm87 => ?_)
            dsimp only [ucgo, ucwp, ucsC, uqC, uoC, ctC, rfd, KX2_markTarget, KX2_markTarget_0, KX2_markTarget_2, KX2_markTarget_6, KX2_markTarget_14, KX2_markTarget_21, KX2_markTarget_34, KX2_markTarget_35, KX2_markTarget_43, KX2_markTarget_50, KX2_markTarget_59, KX2_markTarget_70, KX2_markTarget_77, KX2_markTarget_85, lkC, s1C, s2C, dlC, kyC, Nat.beq, Nat.ble, rcd, rno, rsw, Nat.reduceAdd, Nat.reduceBEq, Nat.reduceDiv, List.drop, List.take, List.reverse, List.reverseAux, Int.toNat, Option.toList, List.append, List.cons_append, List.nil_append, zg270, zg273, zg278, zg281, zg282]
            try dsimp only [Qz_markTarget]
            exact fun τ9 h9 => ⟨rfl, by unfold mkR; rw [if_neg (by rw [h5.trans (mt_neg hx52)]; decide), if_neg (by omega), if_pos (by omega), show (tjT N z j).toNat = j85 by omega]; exact hR85.we h9⟩
      · obtain ⟨j52, hj52, hb52⟩ := opA_j (he9.symm.trans h52)
        have hl52 : j52 < snM z := by omega
        have o88 := hSs.1 j52 hl52
        obtain ⟨k9, rfl⟩ : ∃ k9, fu = k9 + 1 := ⟨fu - 1, by omega⟩
        rw [hj52] at h1 h5
        refine hB _ _ _ _ _ (fun m89 hm89 => ?_)
        dsimp only [ucgo, ucwp, ucsC, uqC, uoC, ctC, rfd, KX2_markTarget, KX2_markTarget_0, KX2_markTarget_2, KX2_markTarget_6, KX2_markTarget_14, KX2_markTarget_21, KX2_markTarget_34, KX2_markTarget_35, KX2_markTarget_43, KX2_markTarget_50, KX2_markTarget_59, KX2_markTarget_70, KX2_markTarget_77, KX2_markTarget_85, lkC, s1C, s2C, dlC, kyC, Nat.beq, Nat.ble, rcd, rno, rsw, Nat.reduceAdd, Nat.reduceBEq, Nat.reduceDiv, List.drop, List.take, List.reverse, List.reverseAux, Int.toNat, Option.toList, List.append, List.cons_append, List.nil_append, zg270, zg273, zg278, zg281, zg282]
        intro a90 e90 ob90
        cases e90
        have f91 : (fRC σ p0 281) = opA B (tjT N z j) := by rw [hp]; exact (hTg j hj hk).1
        refine ⟨fun h92 => ?_, fun h92 => ?_⟩
        · obtain ⟨jg, hjg, hbg⟩ := opA_j (f91.symm.trans (h92.symm.trans (h52.trans (congrArg some hb52))))
          have hjj : j52 = jg := hBi _ _ (by omega) (by have := (hTg j hj hk).2.2; omega) hbg
          refine hB _ _ _ _ _ (fun m93 hm93 => ?_)
          dsimp only [ucgo, ucwp, ucsC, uqC, uoC, ctC, rfd, KX2_markTarget, KX2_markTarget_0, KX2_markTarget_2, KX2_markTarget_6, KX2_markTarget_14, KX2_markTarget_21, KX2_markTarget_34, KX2_markTarget_35, KX2_markTarget_43, KX2_markTarget_50, KX2_markTarget_59, KX2_markTarget_70, KX2_markTarget_77, KX2_markTarget_85, lkC, s1C, s2C, dlC, kyC, Nat.beq, Nat.ble, rcd, rno, rsw, Nat.reduceAdd, Nat.reduceBEq, Nat.reduceDiv, List.drop, List.take, List.reverse, List.reverseAux, Int.toNat, Option.toList, List.append, List.cons_append, List.nil_append, zg270, zg273, zg278, zg281, zg282]
          intro a94 e94 ob94
          cases e94
          have f95 : (fRC σ p0 281) = opA B (tjT N z j) := by rw [hp]; exact (hTg j hj hk).1
          refine ⟨fun h96 => ?_, fun b96 h96 => ?_⟩
          · have hx96 := opA_nn (f95.symm.trans h96)
            exfalso
            omega
          · have htl96 := (hTg j hj hk).2.2
            obtain ⟨j96, hj96, hb96⟩ := opA_j (f95.symm.trans h96)
            have hl96 : j96 < snM z := by omega
            have o97 := hSs.1 j96 hl96
            refine hB _ _ _ _ _ (fun m98 hm98 => ?_)
            dsimp only [ucgo, ucwp, ucsC, uqC, uoC, ctC, rfd, KX2_markTarget, KX2_markTarget_0, KX2_markTarget_2, KX2_markTarget_6, KX2_markTarget_14, KX2_markTarget_21, KX2_markTarget_34, KX2_markTarget_35, KX2_markTarget_43, KX2_markTarget_50, KX2_markTarget_59, KX2_markTarget_70, KX2_markTarget_77, KX2_markTarget_85, lkC, s1C, s2C, dlC, kyC, Nat.beq, Nat.ble, rcd, rno, rsw, Nat.reduceAdd, Nat.reduceBEq, Nat.reduceDiv, List.drop, List.take, List.reverse, List.reverseAux, Int.toNat, Option.toList, List.append, List.cons_append, List.nil_append, zg270, zg273, zg278, zg281, zg282]
            intro a99 e99 ob99
            cases e99
            have f100 : (fIC σ p0 270).toInt = kjS z j := op.1.1.1
            have c101 : (Int32.ofInt 64).toInt = 64 := by decide
            refine ⟨fun h102 => ?_, fun h102 => ?_⟩
            · have g102 := (neI (x := (fIC σ p0 270)) (y := (Int32.ofInt 64)) h102 : ¬ ((fIC σ p0 270) : Int32).toInt = ((Int32.ofInt 64) : Int32).toInt)
              refine hB _ _ _ _ _ (fun m103 hm103 => ?_)
              dsimp only [ucgo, ucwp, ucsC, uqC, uoC, ctC, rfd, KX2_markTarget, KX2_markTarget_0, KX2_markTarget_2, KX2_markTarget_6, KX2_markTarget_14, KX2_markTarget_21, KX2_markTarget_34, KX2_markTarget_35, KX2_markTarget_43, KX2_markTarget_50, KX2_markTarget_59, KX2_markTarget_70, KX2_markTarget_77, KX2_markTarget_85, lkC, s1C, s2C, dlC, kyC, Nat.beq, Nat.ble, rcd, rno, rsw, Nat.reduceAdd, Nat.reduceBEq, Nat.reduceDiv, List.drop, List.take, List.reverse, List.reverseAux, Int.toNat, Option.toList, List.append, List.cons_append, List.nil_append, zg270, zg273, zg278, zg281, zg282]
              intro a104 e104 ob104
              cases e104
              have f105 : (fRC σ p0 281) = opA B (tjT N z j) := by rw [hp]; exact (hTg j hj hk).1
              refine ⟨fun h106 => ?_, fun b106 h106 => ?_⟩
              · have hx106 := opA_nn (f105.symm.trans h106)
                exfalso
                omega
              · have htl106 := (hTg j hj hk).2.2
                obtain ⟨j106, hj106, hb106⟩ := opA_j (f105.symm.trans h106)
                have hl106 : j106 < snM z := by omega
                have o107 := hSs.1 j106 hl106
                refine hB _ _ _ _ _ (fun m108 hm108 => ?_)
                dsimp only [ucgo, ucwp, ucsC, uqC, uoC, ctC, rfd, KX2_markTarget, KX2_markTarget_0, KX2_markTarget_2, KX2_markTarget_6, KX2_markTarget_14, KX2_markTarget_21, KX2_markTarget_34, KX2_markTarget_35, KX2_markTarget_43, KX2_markTarget_50, KX2_markTarget_59, KX2_markTarget_70, KX2_markTarget_77, KX2_markTarget_85, lkC, s1C, s2C, dlC, kyC, Nat.beq, Nat.ble, rcd, rno, rsw, Nat.reduceAdd, Nat.reduceBEq, Nat.reduceDiv, List.drop, List.take, List.reverse, List.reverseAux, Int.toNat, Option.toList, List.append, List.cons_append, List.nil_append, zg270, zg273, zg278, zg281, zg282]
                intro a109 e109 ob109
                cases e109
                have f110 : (fRC σ p0 281) = opA B (tjT N z j) := by rw [hp]; exact (hTg j hj hk).1
                have c111 : (Int32.ofInt 1).toInt = 1 := by decide
                intro a112 e112 ob112 fk112
                have htl112 := (hTg j hj hk).2.2
                obtain ⟨j112, hj112, hb112⟩ := opA_j (f110.symm.trans e112)
                have hl112 : j112 < snM z := by omega
                have o113 := hSs.1 j112 hl112
                subst hb112
                clear fk112 ob112
                generalize hs112 : pIC σ (B j112) 284 (Int32.ofInt 1) = s112
                have hR112 := RhC.c hR hBi hl112 hs112 (by omega)
                refine hB _ _ _ _ _ (fun m114 hm114 => ?_)
                dsimp only [ucgo, ucwp, ucsC, uqC, uoC, ctC, rfd, KX2_markTarget, KX2_markTarget_0, KX2_markTarget_2, KX2_markTarget_6, KX2_markTarget_14, KX2_markTarget_21, KX2_markTarget_34, KX2_markTarget_35, KX2_markTarget_43, KX2_markTarget_50, KX2_markTarget_59, KX2_markTarget_70, KX2_markTarget_77, KX2_markTarget_85, lkC, s1C, s2C, dlC, kyC, Nat.beq, Nat.ble, rcd, rno, rsw, Nat.reduceAdd, Nat.reduceBEq, Nat.reduceDiv, List.drop, List.take, List.reverse, List.reverseAux, Int.toNat, Option.toList, List.append, List.cons_append, List.nil_append, zg270, zg273, zg278, zg281, zg282]
                try dsimp only [Qz_markTarget]
                exact fun τ9 h9 => ⟨rfl, by unfold mkR; rw [if_neg (by rw [h5.trans (mt_eq (show (j52 : Int) = tjT N z j by omega))]; decide), if_neg (by omega), if_neg (by omega), show (tjT N z j).toNat = j112 by omega]; exact hR112.we h9⟩
            · have g102 := (eqI (x := (fIC σ p0 270)) (y := (Int32.ofInt 64)) h102 : ((fIC σ p0 270) : Int32).toInt = ((Int32.ofInt 64) : Int32).toInt)
              refine hB _ _ _ _ _ (fun m115 hm115 => ?_)
              dsimp only [ucgo, ucwp, ucsC, uqC, uoC, ctC, rfd, KX2_markTarget, KX2_markTarget_0, KX2_markTarget_2, KX2_markTarget_6, KX2_markTarget_14, KX2_markTarget_21, KX2_markTarget_34, KX2_markTarget_35, KX2_markTarget_43, KX2_markTarget_50, KX2_markTarget_59, KX2_markTarget_70, KX2_markTarget_77, KX2_markTarget_85, lkC, s1C, s2C, dlC, kyC, Nat.beq, Nat.ble, rcd, rno, rsw, Nat.reduceAdd, Nat.reduceBEq, Nat.reduceDiv, List.drop, List.take, List.reverse, List.reverseAux, Int.toNat, Option.toList, List.append, List.cons_append, List.nil_append, zg270, zg273, zg278, zg281, zg282]
              intro a116 e116 ob116
              cases e116
              have f117 : (fRC σ p0 281) = opA B (tjT N z j) := by rw [hp]; exact (hTg j hj hk).1
              have c118 : (Int32.ofInt 1).toInt = 1 := by decide
              intro a119 e119 ob119 fk119
              have htl119 := (hTg j hj hk).2.2
              obtain ⟨j119, hj119, hb119⟩ := opA_j (f117.symm.trans e119)
              have hl119 : j119 < snM z := by omega
              have o120 := hSs.1 j119 hl119
              subst hb119
              clear fk119 ob119
              generalize hs119 : pIC σ (B j119) 283 (Int32.ofInt 1) = s119
              have hR119 := RhC.b hR hBi hl119 hs119 (by omega)
              refine hB _ _ _ _ _ (fun m121 hm121 => ?_)
              dsimp only [ucgo, ucwp, ucsC, uqC, uoC, ctC, rfd, KX2_markTarget, KX2_markTarget_0, KX2_markTarget_2, KX2_markTarget_6, KX2_markTarget_14, KX2_markTarget_21, KX2_markTarget_34, KX2_markTarget_35, KX2_markTarget_43, KX2_markTarget_50, KX2_markTarget_59, KX2_markTarget_70, KX2_markTarget_77, KX2_markTarget_85, lkC, s1C, s2C, dlC, kyC, Nat.beq, Nat.ble, rcd, rno, rsw, Nat.reduceAdd, Nat.reduceBEq, Nat.reduceDiv, List.drop, List.take, List.reverse, List.reverseAux, Int.toNat, Option.toList, List.append, List.cons_append, List.nil_append, zg270, zg273, zg278, zg281, zg282]
              try dsimp only [Qz_markTarget]
              exact fun τ9 h9 => ⟨rfl, by unfold mkR; rw [if_neg (by rw [h5.trans (mt_eq (show (j52 : Int) = tjT N z j by omega))]; decide), if_neg (by omega), if_pos (by omega), show (tjT N z j).toNat = j119 by omega]; exact hR119.we h9⟩
        · have hne : ¬ (j52 : Int) = tjT N z j := fun q9 => h92 (by rw [(h52.trans (congrArg some hb52)), f91, ← q9, opA_k])
          refine hB _ _ _ _ _ (fun m122 hm122 => ?_)
          dsimp only [ucgo, ucwp, ucsC, uqC, uoC, ctC, rfd, KX2_markTarget, KX2_markTarget_0, KX2_markTarget_2, KX2_markTarget_6, KX2_markTarget_14, KX2_markTarget_21, KX2_markTarget_34, KX2_markTarget_35, KX2_markTarget_43, KX2_markTarget_50, KX2_markTarget_59, KX2_markTarget_70, KX2_markTarget_77, KX2_markTarget_85, lkC, s1C, s2C, dlC, kyC, Nat.beq, Nat.ble, rcd, rno, rsw, Nat.reduceAdd, Nat.reduceBEq, Nat.reduceDiv, List.drop, List.take, List.reverse, List.reverseAux, Int.toNat, Option.toList, List.append, List.cons_append, List.nil_append, zg270, zg273, zg278, zg281, zg282]
          rw [(h52.trans (congrArg some hb52))]
          try dsimp only
          intro w123 τ123 o123 q123
          obtain ⟨r123, rfl, hr123, rfl⟩ := q123 (N, E, A, B, V, z, T, ms, nm, j52) ⟨_, rfl, hSs, hwf, hBi, hl52, rfl⟩
          try dsimp only [Option.toList, List.cons_append, List.nil_append, s1C, s2C, dlC, kyC, Nat.beq, lkC, rcd, rno, rsw]
          refine ⟨fun h124 => ?_, fun h124 => ?_⟩
          · have g124 := (eqI (x := r123) (y := 0) h124 : (r123 : Int32).toInt = (0 : Int32).toInt)
            have z0_ : (0 : Int32).toInt = 0 := rfl
            have hb124 : (hfA z j52) = false := bZI_f (by omega)
            refine hB _ _ _ _ _ (fun m125 hm125 => ?_)
            dsimp only [ucgo, ucwp, ucsC, uqC, uoC, ctC, rfd, KX2_markTarget, KX2_markTarget_0, KX2_markTarget_2, KX2_markTarget_6, KX2_markTarget_14, KX2_markTarget_21, KX2_markTarget_34, KX2_markTarget_35, KX2_markTarget_43, KX2_markTarget_50, KX2_markTarget_59, KX2_markTarget_70, KX2_markTarget_77, KX2_markTarget_85, lkC, s1C, s2C, dlC, kyC, Nat.beq, Nat.ble, rcd, rno, rsw, Nat.reduceAdd, Nat.reduceBEq, Nat.reduceDiv, List.drop, List.take, List.reverse, List.reverseAux, Int.toNat, Option.toList, List.append, List.cons_append, List.nil_append, zg270, zg273, zg278, zg281, zg282]
            intro a126 e126 ob126
            cases e126
            have f127 : (fRC σ (B j52) 273) = opA B (paS z j52) := o88.1.1.2.2.2
            exact hW _ 2 [(0, .inr (.inr (some p0))), (1, .inr (.inr (fRC σ (B j52) 273)))] _ _ _ (List.forall_mem_cons.2 ⟨List.Mem.tail _ (List.Mem.head _), List.forall_mem_cons.2 ⟨List.Mem.head _, fun _ h => absurd h List.not_mem_nil⟩⟩) (ih _ (by omega) (fRC σ (B j52) 273) (paS z j52) k9 (by have := (hwf j52 hl52).1; omega) f127 (h5.trans ((mt_s hne).trans (if_neg (by simp only [hb124, Bool.true_or, Bool.or_true, Bool.false_or, Bool.or_false, Bool.and_true, Bool.true_and, Bool.and_false, Bool.false_and, Bool.not_true, Bool.not_false]; decide)))))
          · have g124 := (neI (x := r123) (y := 0) h124 : ¬ (r123 : Int32).toInt = (0 : Int32).toInt)
            have z0_ : (0 : Int32).toInt = 0 := rfl
            have hb124 : (hfA z j52) = true := bZI_t (by omega)
            refine hB _ _ _ _ _ (fun m128 hm128 => ?_)
            dsimp only [ucgo, ucwp, ucsC, uqC, uoC, ctC, rfd, KX2_markTarget, KX2_markTarget_0, KX2_markTarget_2, KX2_markTarget_6, KX2_markTarget_14, KX2_markTarget_21, KX2_markTarget_34, KX2_markTarget_35, KX2_markTarget_43, KX2_markTarget_50, KX2_markTarget_59, KX2_markTarget_70, KX2_markTarget_77, KX2_markTarget_85, lkC, s1C, s2C, dlC, kyC, Nat.beq, Nat.ble, rcd, rno, rsw, Nat.reduceAdd, Nat.reduceBEq, Nat.reduceDiv, List.drop, List.take, List.reverse, List.reverseAux, Int.toNat, Option.toList, List.append, List.cons_append, List.nil_append, zg270, zg273, zg278, zg281, zg282]
            intro a129 e129 ob129
            cases e129
            have f130 : (fRC σ (B j52) 273) = opA B (paS z j52) := o88.1.1.2.2.2
            intro a131 e131 ob131
            obtain ⟨j131, hj131, hb131⟩ := opA_j (f130.symm.trans e131)
            have hwx131 := (hwf j52 hl52).1
            have hl131 : j131 < snM z := by omega
            have o132 := hSs.1 j131 hl131
            subst hb131
            have f133 : (fRC σ (B j131) 278) = opA B (gjS z j131) := o132.1.2.2.2.2.1
            intro a134 e134 ob134
            obtain ⟨j134, hj134, hb134⟩ := opA_j (f133.symm.trans e134)
            have hwx134 := (hwf j131 hl131).1
            have hl134 : j134 < snM z := by omega
            have o135 := hSs.1 j134 hl134
            subst hb134
            have f136 : (fIC σ (B j134) 282).toInt = bZI (r.1 (gjS z (paS z j52).toNat).toNat) := by
              rw [show (paS z j52).toNat = j131 by omega, show (gjS z j131).toNat = j134 by omega]
              exact (hR.1 j134 hl134).1
            refine ⟨fun h137 => ?_, fun h137 => ?_⟩
            · have g137 := (neI (x := (fIC σ (B j134) 282)) (y := 0) h137 : ¬ ((fIC σ (B j134) 282) : Int32).toInt = (0 : Int32).toInt)
              have z0_ : (0 : Int32).toInt = 0 := rfl
              have hb137 : (r.1 (gjS z (paS z j52).toNat).toNat) = true := bZI_t (by omega)
              refine hB _ _ _ _ _ (fun m138 hm138 => ?_)
              dsimp only [ucgo, ucwp, ucsC, uqC, uoC, ctC, rfd, KX2_markTarget, KX2_markTarget_0, KX2_markTarget_2, KX2_markTarget_6, KX2_markTarget_14, KX2_markTarget_21, KX2_markTarget_34, KX2_markTarget_35, KX2_markTarget_43, KX2_markTarget_50, KX2_markTarget_59, KX2_markTarget_70, KX2_markTarget_77, KX2_markTarget_85, lkC, s1C, s2C, dlC, kyC, Nat.beq, Nat.ble, rcd, rno, rsw, Nat.reduceAdd, Nat.reduceBEq, Nat.reduceDiv, List.drop, List.take, List.reverse, List.reverseAux, Int.toNat, Option.toList, List.append, List.cons_append, List.nil_append, zg270, zg273, zg278, zg281, zg282]
              intro a139 e139 ob139
              cases e139
              have f140 : (fRC σ (B j52) 273) = opA B (paS z j52) := o88.1.1.2.2.2
              exact hW _ 2 [(0, .inr (.inr (some p0))), (1, .inr (.inr (fRC σ (B j52) 273)))] _ _ _ (List.forall_mem_cons.2 ⟨List.Mem.tail _ (List.Mem.head _), List.forall_mem_cons.2 ⟨List.Mem.head _, fun _ h => absurd h List.not_mem_nil⟩⟩) (ih _ (by omega) (fRC σ (B j52) 273) (paS z j52) k9 (by have := (hwf j52 hl52).1; omega) f140 (h5.trans ((mt_s hne).trans (if_neg (by simp only [hb124, hb137, Bool.true_or, Bool.or_true, Bool.false_or, Bool.or_false, Bool.and_true, Bool.true_and, Bool.and_false, Bool.false_and, Bool.not_true, Bool.not_false]; decide)))))
            · have g137 := (eqI (x := (fIC σ (B j134) 282)) (y := 0) h137 : ((fIC σ (B j134) 282) : Int32).toInt = (0 : Int32).toInt)
              have z0_ : (0 : Int32).toInt = 0 := rfl
              have hb137 : (r.1 (gjS z (paS z j52).toNat).toNat) = false := bZI_f (by omega)
              refine hB _ _ _ _ _ (fun m141 hm141 => ?_)
              dsimp only [ucgo, ucwp, ucsC, uqC, uoC, ctC, rfd, KX2_markTarget, KX2_markTarget_0, KX2_markTarget_2, KX2_markTarget_6, KX2_markTarget_14, KX2_markTarget_21, KX2_markTarget_34, KX2_markTarget_35, KX2_markTarget_43, KX2_markTarget_50, KX2_markTarget_59, KX2_markTarget_70, KX2_markTarget_77, KX2_markTarget_85, lkC, s1C, s2C, dlC, kyC, Nat.beq, Nat.ble, rcd, rno, rsw, Nat.reduceAdd, Nat.reduceBEq, Nat.reduceDiv, List.drop, List.take, List.reverse, List.reverseAux, Int.toNat, Option.toList, List.append, List.cons_append, List.nil_append, zg270, zg273, zg278, zg281, zg282]
              try dsimp only [Qz_markTarget]
              exact fun τ9 h9 => ⟨rfl, by unfold mkR; rw [if_pos (h5.trans ((mt_s hne).trans (if_pos (by simp only [hb124, hb137, Bool.true_or, Bool.or_true, Bool.false_or, Bool.or_false, Bool.and_true, Bool.true_and, Bool.and_false, Bool.false_and, Bool.not_true, Bool.not_false]))))]; exact hR.we h9⟩
  change K n_ 0 [(0, .inr (.inr (some p0)))] [] σ
  refine hB _ _ _ _ _ (fun m142 hm142 => ?_)
  dsimp only [ucgo, ucwp, ucsC, uqC, uoC, ctC, rfd, KX2_markTarget, KX2_markTarget_0, KX2_markTarget_2, KX2_markTarget_6, KX2_markTarget_14, KX2_markTarget_21, KX2_markTarget_34, KX2_markTarget_35, KX2_markTarget_43, KX2_markTarget_50, KX2_markTarget_59, KX2_markTarget_70, KX2_markTarget_77, KX2_markTarget_85, lkC, s1C, s2C, dlC, kyC, Nat.beq, Nat.ble, rcd, rno, rsw, Nat.reduceAdd, Nat.reduceBEq, Nat.reduceDiv, List.drop, List.take, List.reverse, List.reverseAux, Int.toNat, Option.toList, List.append, List.cons_append, List.nil_append, zg270, zg273, zg278, zg281, zg282]
  exact hW _ 2 [(0, .inr (.inr (some p0))), (1, .inr (.inr (some p0)))] _ _ _ (List.forall_mem_cons.2 ⟨List.Mem.tail _ (List.Mem.head _), List.forall_mem_cons.2 ⟨List.Mem.head _, fun _ h => absurd h List.not_mem_nil⟩⟩) (L2 _ (some p0) (j : Int) (snM z) (by omega) (by rw [hp, opA_k]) rfl)
theorem wz_markTarget : ∀ (L : Nat) (As : List AvC) (σ : CsC) (w : Option AvC) (τ : CsC), EvF L 27 As σ w τ → Uz_markTarget As σ w τ := by
  intro L
  cases L with
  | zero => exact fun _ _ _ _ h => h.elim
  | succ L => exact fun As σ w τ h y hy => EvF.us (cs := [181]) (pz_markTarget y) rfl (List.forall_mem_cons.2 ⟨wz_hasFinallyAhead L, fun _ h => absurd h List.not_mem_nil⟩) h hy
