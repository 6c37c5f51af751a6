/-! the class's judge: methods -/
/-- method k is told before -/
def m1T (ms : MfT) (k : Nat) : Nat → Prop
  | 0 => True
  | n + 1 => m1T ms k n ∧ ((n < k ∨ 10 ≤ n) → ∀ b m, ms n = some b → ms k = some m → ¬ (b.1 = m.1 ∧ b.2.2 = m.2.2))
/-- bodies of methods, their first variables -/
def MbC (E B : Nat → Nat) (σ : CsC) (z : ZS) (ms : MfT) (nm : Nat) (J : Nat → Nat) (V1 : Nat → Int) : Prop := ∀ k, k < nm → fRC σ (E (1000 + k)) 186 = some (B (J k)) ∧ J k < snM z ∧ (fIC σ (E (1000 + k)) 184).toInt = V1 k ∧ E (1000 + k) < cnC σ ∧ ∃ m, ms k = some m
theorem MbC.fr {E B : Nat → Nat} {M : List Nat} {σ τ : CsC} {z : ZS} {ms : MfT} {nm : Nat} {J : Nat → Nat} {V1 : Nat → Int} (h : MbC E B σ z ms nm J V1) (f : FrE M σ τ) (hM : [999, 186, 184].all (fun k => !M.elem k) = true) : MbC E B τ z ms nm J V1 := fun k hk => by
  obtain ⟨h1, h2, h3, h4, h5⟩ := h k hk
  have q := (f.2 (nel hM rfl) _ h4).1
  exact ⟨(q 186 (nel hM rfl)).2.2.trans h1, h2, by rw [(q 184 (nel hM rfl)).1]; exact h3, Nat.lt_of_lt_of_le h4 f.1, h5⟩
def mtyN (ms : MfT) (k : Nat) : Int := match ms k with
  | some m => m.2.1
  | none => 5
theorem mty_s {ms : MfT} {k : Nat} {m : MtT} (h : ms k = some m) : mtyN ms k = m.2.1 := by unfold mtyN; rw [h]
/-- all methods REACHED, from the k-th on -/
def raL (F : RcT) (z : ZS) (ms : MfT) (J : Nat → Nat) : Nat → Nat → RR → RR
  | 0, _, r => r
  | n + 1, k, r => raL F z ms J n (k + 1) (if (rwR F z (J k) r).1 = true ∧ ¬ mtyN ms k = 5 then rrX (rwR F z (J k) r).2 else (rwR F z (J k) r).2)
/-- params of a method -/
def pbL (v : Int) : Nat → Nat → Int64 → Int64
  | 0, _, m => m
  | n + 1, i, m => pbL v n (i + 1) (m ||| bitQ (v + (i : Int)))
def npT (ms : MfT) (k : Nat) : Nat := match ms k with
  | some m => m.2.2.length
  | none => 0
theorem np_s {ms : MfT} {k : Nat} {m : MtT} (h : ms k = some m) : npT ms k = m.2.2.length := by unfold npT; rw [h]
/-- all methods SURELY assigned -/
def asL (F : AsT) (ms : MfT) (J : Nat → Nat) (V1 : Nat → Int) : Nat → Nat → GzA → GzA
  | 0, _, g => g
  | n + 1, k, g => asL F ms J V1 n (k + 1) (F.2.2 (J k) (pbL (V1 k) (npT ms k) 0 zerB) g).2
abbrev Pz_judgeMethod : ((Int → Int) × (Nat → Nat) × (Nat → Nat) × (Nat → Nat) × (Nat → Nat) × ZS × TbT × MfT × Nat × Nat × MtT) → CpC := fun y As σ => match y with
  | (N, E, A, B, V, z, T, ms, nm, k, m) => ∃ (p1 : Int32), As = [.inr (.inr (some (E 3))), .inl p1] ∧ (SsC E A B σ z T ms nm) ∧ (NmC N E σ) ∧ (p1.toInt = (k : Int)) ∧ (k < nm) ∧ (ms k = some m)
abbrev Qz_judgeMethod : ((Int → Int) × (Nat → Nat) × (Nat → Nat) × (Nat → Nat) × (Nat → Nat) × ZS × TbT × MfT × Nat × Nat × MtT) → CqC := fun y As σ w τ => match y, As with
  | (N, E, A, B, V, z, T, ms, nm, k, m), [_, .inl p1] => w = none ∧ (erC E τ ↔ erC E σ ∨ ¬ m1T ms k 12) ∧ (erC E τ ∨ WeC σ τ)
  | _, _ => True
abbrev Uz_judgeMethod : CqC := fun As σ w τ => ∀ y, Pz_judgeMethod y As σ → Qz_judgeMethod y As σ w τ
set_option maxHeartbeats 4000000 in
theorem pz_judgeMethod (y : (Int → Int) × (Nat → Nat) × (Nat → Nat) × (Nat → Nat) × (Nat → Nat) × ZS × TbT × MfT × Nat × Nat × MtT) : PbC KX3_judgeMethod [(235, TrP, EqC 235), (119, TrP, EqC 119), (113, TrP, EqC 113), (118, TrP, EqC 118)] [(119, Uz_methodOf), (113, Uz_hasSameParams), (118, Uz_tell)] (fun As σ => Pz_judgeMethod y As σ ∧ cnC σ ≤ 1000000 ∧ ∃ w τ, uqC quL 50 As σ w τ) (Qz_judgeMethod y) := by
  obtain ⟨N, E, A, B, V, z, T, ms, nm, k, m⟩ := y
  rintro As σ ⟨⟨p1, rfl, hSs, hNm, hp, hk, hm⟩, hcn, _, _, hQ⟩ K hB hW n_
  obtain ⟨mk, hmk0⟩ : ∃ o, E (1000 + k) = o := ⟨_, rfl⟩
  have hn10 := hSs.2.2.1.1.2.2.1
  have hmo0 : ∀ (s : CsC) (_ : True), SsC E A B s z T ms nm → MkC s m (E (1000 + k)) := fun s _ hs => by
    have q := (hs.2.2.1.1.2.2.2.1 k m hm).2
    unfold MoE at q
    rw [if_neg (by omega), if_neg (by omega)] at q
    exact q
  have L17 : ∀ (n : Nat) (s0 : CsC) (i : Int32), (FrE [217, 218] σ s0) → (0 ≤ i.toInt) → (i.toInt ≤ 12) → (erC E s0 ∨ s0 = σ) → (erC E s0 ↔ erC E σ ∨ ¬ m1T ms k i.toInt.toNat) →  K n 17 [(0, .inr (.inr (some (E 3)))), (1, .inl p1), (2, .inr (.inr (some mk))), (3, .inl i)] [] s0 := by
    intro n
    induction n using Nat.strongRecOn with
    | _ n ih =>
      intro s0 i hF0 h1 h2 hs9 h5
      have hSs_0 := SsC.fr hSs hF0 rfl
      have hNm_0 := NmC.fr hNm hF0 rfl
      have hmk_0 : MkC s0 m mk := by rw [← hmk0]; exact hmo0 s0 trivial hSs_0
      refine hB _ _ _ _ _ (fun m51 hm51 => ?_)
      dsimp only [ucgo, ucwp, ucsC, uqC, uoC, ctC, rfd, KX3_judgeMethod, KX3_judgeMethod_0, KX3_judgeMethod_17, KX3_judgeMethod_23, KX3_judgeMethod_28, KX3_judgeMethod_34, KX3_judgeMethod_45, KX3_judgeMethod_46, KX3_judgeMethod_53, KX3_judgeMethod_66, KX3_judgeMethod_75, KX3_judgeMethod_87, KX3_judgeMethod_93, lkC, s1C, s2C, dlC, kyC, Nat.beq, Nat.ble, rcd, rno, rsw, Nat.reduceAdd, Nat.reduceBEq, Nat.reduceDiv, List.drop, List.take, List.reverse, List.reverseAux, Int.toNat, Option.toList, List.append, List.cons_append, List.nil_append, zg121, zg180, zg181, zg211]
      have c52 : (Int32.ofInt 11).toInt = 11 := by decide
      refine ⟨fun h53 => ?_, fun h53 => ?_⟩
      · have g53 := ltI (x := (Int32.ofInt 11)) (y := i) h53
        refine hB _ _ _ _ _ (fun m54 hm54 => ?_)
        dsimp only [ucgo, ucwp, ucsC, uqC, uoC, ctC, rfd, KX3_judgeMethod, KX3_judgeMethod_0, KX3_judgeMethod_17, KX3_judgeMethod_23, KX3_judgeMethod_28, KX3_judgeMethod_34, KX3_judgeMethod_45, KX3_judgeMethod_46, KX3_judgeMethod_53, KX3_judgeMethod_66, KX3_judgeMethod_75, KX3_judgeMethod_87, KX3_judgeMethod_93, lkC, s1C, s2C, dlC, kyC, Nat.beq, Nat.ble, rcd, rno, rsw, Nat.reduceAdd, Nat.reduceBEq, Nat.reduceDiv, List.drop, List.take, List.reverse, List.reverseAux, Int.toNat, Option.toList, List.append, List.cons_append, List.nil_append, zg121, zg180, zg181, zg211]
        try dsimp only [Qz_judgeMethod]
        exact fun τ9 h9 => ⟨rfl, (er_we h9).trans (by rw [show (12 : Nat) = i.toInt.toNat by omega]; exact h5), hs9.elim (fun q9 => Or.inl ((er_we h9).mpr q9)) (fun q9 => Or.inr (q9 ▸ h9))⟩
      · have g53 := nltI (x := (Int32.ofInt 11)) (y := i) h53
        refine hB _ _ _ _ _ (fun m55 hm55 => ?_)
        dsimp only [ucgo, ucwp, ucsC, uqC, uoC, ctC, rfd, KX3_judgeMethod, KX3_judgeMethod_0, KX3_judgeMethod_17, KX3_judgeMethod_23, KX3_judgeMethod_28, KX3_judgeMethod_34, KX3_judgeMethod_45, KX3_judgeMethod_46, KX3_judgeMethod_53, KX3_judgeMethod_66, KX3_judgeMethod_75, KX3_judgeMethod_87, KX3_judgeMethod_93, lkC, s1C, s2C, dlC, kyC, Nat.beq, Nat.ble, rcd, rno, rsw, Nat.reduceAdd, Nat.reduceBEq, Nat.reduceDiv, List.drop, List.take, List.reverse, List.reverseAux, Int.toNat, Option.toList, List.append, List.cons_append, List.nil_append, zg121, zg180, zg181, zg211]
        refine ⟨fun h56 => ?_, fun h56 => ?_⟩
        · have g56 := ltI (x := i) (y := p1) h56
          refine hB _ _ _ _ _ (fun m57 hm57 => ?_)
          dsimp only [ucgo, ucwp, ucsC, uqC, uoC, ctC, rfd, KX3_judgeMethod, KX3_judgeMethod_0, KX3_judgeMethod_17, KX3_judgeMethod_23, KX3_judgeMethod_28, KX3_judgeMethod_34, KX3_judgeMethod_45, KX3_judgeMethod_46, KX3_judgeMethod_53, KX3_judgeMethod_66, KX3_judgeMethod_75, KX3_judgeMethod_87, KX3_judgeMethod_93, lkC, s1C, s2C, dlC, kyC, Nat.beq, Nat.ble, rcd, rno, rsw, Nat.reduceAdd, Nat.reduceBEq, Nat.reduceDiv, List.drop, List.take, List.reverse, List.reverseAux, Int.toNat, Option.toList, List.append, List.cons_append, List.nil_append, zg121, zg180, zg181, zg211]
          intro a58 e58 ob58
          cases e58
          rw [hNm_0.1.1]
          try dsimp only
          intro w60 τ60 o60 q60
          obtain ⟨rfl, qq60⟩ := q60 (N, E, A, B, V, z, ms, nm) ⟨_, rfl, hSs_0.2.2.1.1⟩
          rcases qq60 with ⟨m9, hi60, hm60_, rfl⟩ | ⟨hm60_, rfl⟩
          · obtain ⟨mo, hmo⟩ : ∃ o, MoE E i.toInt.toNat = o := ⟨_, rfl⟩
            have hmo9 : MkC s0 m9 mo := by rw [← hmo]; exact (hSs_0.2.2.1.1.2.2.2.1 _ _ hm60_).2
            rw [hmo]
            have hi9 : ms i.toInt.toNat = some m9 := hm60_
            try dsimp only [Option.toList, List.cons_append, List.nil_append, s1C, s2C, dlC, kyC, Nat.beq, lkC, rcd, rno, rsw]
            refine hB _ _ _ _ _ (fun m61 hm61 => ?_)
            dsimp only [ucgo, ucwp, ucsC, uqC, uoC, ctC, rfd, KX3_judgeMethod, KX3_judgeMethod_0, KX3_judgeMethod_17, KX3_judgeMethod_23, KX3_judgeMethod_28, KX3_judgeMethod_34, KX3_judgeMethod_45, KX3_judgeMethod_46, KX3_judgeMethod_53, KX3_judgeMethod_66, KX3_judgeMethod_75, KX3_judgeMethod_87, KX3_judgeMethod_93, lkC, s1C, s2C, dlC, kyC, Nat.beq, Nat.ble, rcd, rno, rsw, Nat.reduceAdd, Nat.reduceBEq, Nat.reduceDiv, List.drop, List.take, List.reverse, List.reverseAux, Int.toNat, Option.toList, List.append, List.cons_append, List.nil_append, zg121, zg180, zg181, zg211]
            refine ⟨fun h62 => ?_, fun b62 h62 => ?_⟩
            · exact absurd ((Eq.refl (some mo)).symm.trans h62) (by intro q9; cases q9)
            · skip
              refine hB _ _ _ _ _ (fun m63 hm63 => ?_)
              dsimp only [ucgo, ucwp, ucsC, uqC, uoC, ctC, rfd, KX3_judgeMethod, KX3_judgeMethod_0, KX3_judgeMethod_17, KX3_judgeMethod_23, KX3_judgeMethod_28, KX3_judgeMethod_34, KX3_judgeMethod_45, KX3_judgeMethod_46, KX3_judgeMethod_53, KX3_judgeMethod_66, KX3_judgeMethod_75, KX3_judgeMethod_87, KX3_judgeMethod_93, lkC, s1C, s2C, dlC, kyC, Nat.beq, Nat.ble, rcd, rno, rsw, Nat.reduceAdd, Nat.reduceBEq, Nat.reduceDiv, List.drop, List.take, List.reverse, List.reverseAux, Int.toNat, Option.toList, List.append, List.cons_append, List.nil_append, zg121, zg180, zg181, zg211]
              intro a64 e64 ob64
              cases e64
              have f65 : (fLC s0 mo 181).toInt = m9.1 := hmo9.1
              intro a66 e66 ob66
              cases e66
              have f67 : (fLC s0 mk 181).toInt = m.1 := hmk_0.1
              have lc68 : (lg_cmp (fLC s0 mo 181) (fLC s0 mk 181)).toInt = 0 → (fLC s0 mo 181) = (fLC s0 mk 181) := lcmpC
              have ld68 : (fLC s0 mo 181) = (fLC s0 mk 181) → (lg_cmp (fLC s0 mo 181) (fLC s0 mk 181)).toInt = 0 := fun e => by rw [e]; exact lcmp0
              refine ⟨fun h69 => ?_, fun h69 => ?_⟩
              · have g69 := (neI (x := (lg_cmp (fLC s0 mo 181) (fLC s0 mk 181))) (y := 0) h69 : ¬ ((lg_cmp (fLC s0 mo 181) (fLC s0 mk 181)) : Int32).toInt = (0 : Int32).toInt)
                have z0_ : (0 : Int32).toInt = 0 := rfl
                refine hB _ _ _ _ _ (fun m70 hm70 => ?_)
                dsimp only [ucgo, ucwp, ucsC, uqC, uoC, ctC, rfd, KX3_judgeMethod, KX3_judgeMethod_0, KX3_judgeMethod_17, KX3_judgeMethod_23, KX3_judgeMethod_28, KX3_judgeMethod_34, KX3_judgeMethod_45, KX3_judgeMethod_46, KX3_judgeMethod_53, KX3_judgeMethod_66, KX3_judgeMethod_75, KX3_judgeMethod_87, KX3_judgeMethod_93, lkC, s1C, s2C, dlC, kyC, Nat.beq, Nat.ble, rcd, rno, rsw, Nat.reduceAdd, Nat.reduceBEq, Nat.reduceDiv, List.drop, List.take, List.reverse, List.reverseAux, Int.toNat, Option.toList, List.append, List.cons_append, List.nil_append, zg121, zg180, zg181, zg211]
                have c71 : (Int32.ofInt 1).toInt = 1 := by decide
                have u72 := tiC i
                have a72 : (i + (Int32.ofInt 1)).toInt = i.toInt + 1 := addC (by omega) (by omega) (by omega)
                refine hW _ 17 [(0, .inr (.inr (some (E 3)))), (1, .inl p1), (2, .inr (.inr (some mk))), (3, .inl (i + (Int32.ofInt 1)))] _ _ _ (List.forall_mem_cons.2 ⟨List.Mem.tail _ (List.Mem.tail _ (List.Mem.head _)), List.forall_mem_cons.2 ⟨List.Mem.tail _ (List.Mem.tail _ (List.Mem.tail _ (List.Mem.head _))), List.forall_mem_cons.2 ⟨List.Mem.tail _ (List.Mem.tail _ (List.Mem.tail _ (List.Mem.tail _ (List.Mem.head _)))), List.forall_mem_cons.2 ⟨List.Mem.head _, fun _ h => absurd h List.not_mem_nil⟩⟩⟩⟩) (ih _ (by omega) s0 (i + (Int32.ofInt 1)) hF0 (by omega) (by omega) hs9 ?_)
                rw [show ((i + (Int32.ofInt 1)) : Int32).toInt.toNat = i.toInt.toNat + 1 by omega]
                exact h5.trans (or_congr Iff.rfl (not_congr ⟨fun q9 => ⟨q9, (fun q8 b9 m8 q7 q6 => by cases hi9.symm.trans q7; cases hm.symm.trans q6; intro q5; first | exact absurd (ld68 (Int64.toInt_inj.mp (f65.trans (q5.1.trans f67.symm)))) (by omega))⟩, fun q9 => q9.1⟩))
              · have g69 := (eqI (x := (lg_cmp (fLC s0 mo 181) (fLC s0 mk 181))) (y := 0) h69 : ((lg_cmp (fLC s0 mo 181) (fLC s0 mk 181)) : Int32).toInt = (0 : Int32).toInt)
                have z0_ : (0 : Int32).toInt = 0 := rfl
                refine hB _ _ _ _ _ (fun m73 hm73 => ?_)
                dsimp only [ucgo, ucwp, ucsC, uqC, uoC, ctC, rfd, KX3_judgeMethod, KX3_judgeMethod_0, KX3_judgeMethod_17, KX3_judgeMethod_23, KX3_judgeMethod_28, KX3_judgeMethod_34, KX3_judgeMethod_45, KX3_judgeMethod_46, KX3_judgeMethod_53, KX3_judgeMethod_66, KX3_judgeMethod_75, KX3_judgeMethod_87, KX3_judgeMethod_93, lkC, s1C, s2C, dlC, kyC, Nat.beq, Nat.ble, rcd, rno, rsw, Nat.reduceAdd, Nat.reduceBEq, Nat.reduceDiv, List.drop, List.take, List.reverse, List.reverseAux, Int.toNat, Option.toList, List.append, List.cons_append, List.nil_append, zg121, zg180, zg181, zg211]
                intro w74 τ74 o74 q74
                obtain ⟨r74, rfl, hr74, rfl⟩ := q74 (N, E, A, B, V, z, m9, m) ⟨_, _, rfl, hmo9, hmk_0⟩
                try dsimp only [Option.toList, List.cons_append, List.nil_append, s1C, s2C, dlC, kyC, Nat.beq, lkC, rcd, rno, rsw]
                refine ⟨fun h75 => ?_, fun h75 => ?_⟩
                · have g75 := (eqI (x := r74) (y := 0) h75 : (r74 : Int32).toInt = (0 : Int32).toInt)
                  have z0_ : (0 : Int32).toInt = 0 := rfl
                  refine hB _ _ _ _ _ (fun m76 hm76 => ?_)
                  dsimp only [ucgo, ucwp, ucsC, uqC, uoC, ctC, rfd, KX3_judgeMethod, KX3_judgeMethod_0, KX3_judgeMethod_17, KX3_judgeMethod_23, KX3_judgeMethod_28, KX3_judgeMethod_34, KX3_judgeMethod_45, KX3_judgeMethod_46, KX3_judgeMethod_53, KX3_judgeMethod_66, KX3_judgeMethod_75, KX3_judgeMethod_87, KX3_judgeMethod_93, lkC, s1C, s2C, dlC, kyC, Nat.beq, Nat.ble, rcd, rno, rsw, Nat.reduceAdd, Nat.reduceBEq, Nat.reduceDiv, List.drop, List.take, List.reverse, List.reverseAux, Int.toNat, Option.toList, List.append, List.cons_append, List.nil_append, zg121, zg180, zg181, zg211]
                  have c77 : (Int32.ofInt 1).toInt = 1 := by decide
                  have u78 := tiC i
                  have a78 : (i + (Int32.ofInt 1)).toInt = i.toInt + 1 := addC (by omega) (by omega) (by omega)
                  refine hW _ 17 [(0, .inr (.inr (some (E 3)))), (1, .inl p1), (2, .inr (.inr (some mk))), (3, .inl (i + (Int32.ofInt 1)))] _ _ _ (List.forall_mem_cons.2 ⟨List.Mem.tail _ (List.Mem.tail _ (List.Mem.head _)), List.forall_mem_cons.2 ⟨List.Mem.tail _ (List.Mem.tail _ (List.Mem.tail _ (List.Mem.head _))), List.forall_mem_cons.2 ⟨List.Mem.tail _ (List.Mem.tail _ (List.Mem.tail _ (List.Mem.tail _ (List.Mem.head _)))), List.forall_mem_cons.2 ⟨List.Mem.head _, fun _ h => absurd h List.not_mem_nil⟩⟩⟩⟩) (ih _ (by omega) s0 (i + (Int32.ofInt 1)) hF0 (by omega) (by omega) hs9 ?_)
                  rw [show ((i + (Int32.ofInt 1)) : Int32).toInt.toNat = i.toInt.toNat + 1 by omega]
                  exact h5.trans (or_congr Iff.rfl (not_congr ⟨fun q9 => ⟨q9, (fun q8 b9 m8 q7 q6 => by cases hi9.symm.trans q7; cases hm.symm.trans q6; intro q5; first | exact absurd (ld68 (Int64.toInt_inj.mp (f65.trans (q5.1.trans f67.symm)))) (by omega) | (rcases hr74 with q4 | q4; exact absurd q4.1 (by omega); exact q4.2 q5.2))⟩, fun q9 => q9.1⟩))
                · have g75 := (neI (x := r74) (y := 0) h75 : ¬ (r74 : Int32).toInt = (0 : Int32).toInt)
                  have z0_ : (0 : Int32).toInt = 0 := rfl
                  refine hB _ _ _ _ _ (fun m79 hm79 => ?_)
                  dsimp only [ucgo, ucwp, ucsC, uqC, uoC, ctC, rfd, KX3_judgeMethod, KX3_judgeMethod_0, KX3_judgeMethod_17, KX3_judgeMethod_23, KX3_judgeMethod_28, KX3_judgeMethod_34, KX3_judgeMethod_45, KX3_judgeMethod_46, KX3_judgeMethod_53, KX3_judgeMethod_66, KX3_judgeMethod_75, KX3_judgeMethod_87, KX3_judgeMethod_93, lkC, s1C, s2C, dlC, kyC, Nat.beq, Nat.ble, rcd, rno, rsw, Nat.reduceAdd, Nat.reduceBEq, Nat.reduceDiv, List.drop, List.take, List.reverse, List.reverseAux, Int.toNat, Option.toList, List.append, List.cons_append, List.nil_append, zg121, zg180, zg181, zg211]
                  intro a80 e80 ob80
                  cases e80
                  have c82 : (Int32.ofInt 1).toInt = 1 := by decide
                  intro a83 e83 ob83
                  cases e83
                  rw [hNm_0.1.1]
                  try dsimp only
                  intro w85 τ85 o85 q85
                  obtain ⟨rfl, hb85⟩ := q85 (N, E, A, B, V, z) ⟨_, _, rfl, by omega⟩
                  have hF85 : FrE [217, 218] σ τ85 := hF0.tr (o85.2.mo rfl)
                  have hSs_85 := SsC.fr hSs hF85 rfl
                  have hNm_85 := NmC.fr hNm hF85 rfl
                  try dsimp only [Option.toList, List.cons_append, List.nil_append, s1C, s2C, dlC, kyC, Nat.beq, lkC, rcd, rno, rsw]
                  refine hB _ _ _ _ _ (fun m86 hm86 => ?_)
                  dsimp only [ucgo, ucwp, ucsC, uqC, uoC, ctC, rfd, KX3_judgeMethod, KX3_judgeMethod_0, KX3_judgeMethod_17, KX3_judgeMethod_23, KX3_judgeMethod_28, KX3_judgeMethod_34, KX3_judgeMethod_45, KX3_judgeMethod_46, KX3_judgeMethod_53, KX3_judgeMethod_66, KX3_judgeMethod_75, KX3_judgeMethod_87, KX3_judgeMethod_93, lkC, s1C, s2C, dlC, kyC, Nat.beq, Nat.ble, rcd, rno, rsw, Nat.reduceAdd, Nat.reduceBEq, Nat.reduceDiv, List.drop, List.take, List.reverse, List.reverseAux, Int.toNat, Option.toList, List.append, List.cons_append, List.nil_append, zg121, zg180, zg181, zg211]
                  have c87 : (Int32.ofInt 1).toInt = 1 := by decide
                  have u88 := tiC i
                  have a88 : (i + (Int32.ofInt 1)).toInt = i.toInt + 1 := addC (by omega) (by omega) (by omega)
                  refine hW _ 17 [(0, .inr (.inr (some (E 3)))), (1, .inl p1), (2, .inr (.inr (some mk))), (3, .inl (i + (Int32.ofInt 1)))] _ _ _ (List.forall_mem_cons.2 ⟨List.Mem.tail _ (List.Mem.tail _ (List.Mem.head _)), List.forall_mem_cons.2 ⟨List.Mem.tail _ (List.Mem.tail _ (List.Mem.tail _ (List.Mem.head _))), List.forall_mem_cons.2 ⟨List.Mem.tail _ (List.Mem.tail _ (List.Mem.tail _ (List.Mem.tail _ (List.Mem.head _)))), List.forall_mem_cons.2 ⟨List.Mem.head _, fun _ h => absurd h List.not_mem_nil⟩⟩⟩⟩) (ih _ (by omega) τ85 (i + (Int32.ofInt 1)) hF85 (by omega) (by omega) (Or.inl hb85) ?_)
                  rw [show ((i + (Int32.ofInt 1)) : Int32).toInt.toNat = i.toInt.toNat + 1 by omega]
                  exact iff_of_true hb85 (Or.inr (fun q9 => q9.2 (by omega) m9 m hi9 hm ⟨by rw [← f65, ← f67]; exact congrArg Int64.toInt (lc68 (by omega)), by rcases hr74 with q8 | q8; exact q8.2; exact absurd q8.1 (by omega)⟩))
          · have hi9 : ms i.toInt.toNat = none := hm60_ (by omega)
            try dsimp only [Option.toList, List.cons_append, List.nil_append, s1C, s2C, dlC, kyC, Nat.beq, lkC, rcd, rno, rsw]
            refine hB _ _ _ _ _ (fun m89 hm89 => ?_)
            dsimp only [ucgo, ucwp, ucsC, uqC, uoC, ctC, rfd, KX3_judgeMethod, KX3_judgeMethod_0, KX3_judgeMethod_17, KX3_judgeMethod_23, KX3_judgeMethod_28, KX3_judgeMethod_34, KX3_judgeMethod_45, KX3_judgeMethod_46, KX3_judgeMethod_53, KX3_judgeMethod_66, KX3_judgeMethod_75, KX3_judgeMethod_87, KX3_judgeMethod_93, lkC, s1C, s2C, dlC, kyC, Nat.beq, Nat.ble, rcd, rno, rsw, Nat.reduceAdd, Nat.reduceBEq, Nat.reduceDiv, List.drop, List.take, List.reverse, List.reverseAux, Int.toNat, Option.toList, List.append, List.cons_append, List.nil_append, zg121, zg180, zg181, zg211]
            refine ⟨fun h90 => ?_, fun b90 h90 => ?_⟩
            · skip
              refine hB _ _ _ _ _ (fun m91 hm91 => ?_)
              dsimp only [ucgo, ucwp, ucsC, uqC, uoC, ctC, rfd, KX3_judgeMethod, KX3_judgeMethod_0, KX3_judgeMethod_17, KX3_judgeMethod_23, KX3_judgeMethod_28, KX3_judgeMethod_34, KX3_judgeMethod_45, KX3_judgeMethod_46, KX3_judgeMethod_53, KX3_judgeMethod_66, KX3_judgeMethod_75, KX3_judgeMethod_87, KX3_judgeMethod_93, lkC, s1C, s2C, dlC, kyC, Nat.beq, Nat.ble, rcd, rno, rsw, Nat.reduceAdd, Nat.reduceBEq, Nat.reduceDiv, List.drop, List.take, List.reverse, List.reverseAux, Int.toNat, Option.toList, List.append, List.cons_append, List.nil_append, zg121, zg180, zg181, zg211]
              have c92 : (Int32.ofInt 1).toInt = 1 := by decide
              have u93 := tiC i
              have a93 : (i + (Int32.ofInt 1)).toInt = i.toInt + 1 := addC (by omega) (by omega) (by omega)
              refine hW _ 17 [(0, .inr (.inr (some (E 3)))), (1, .inl p1), (2, .inr (.inr (some mk))), (3, .inl (i + (Int32.ofInt 1)))] _ _ _ (List.forall_mem_cons.2 ⟨List.Mem.tail _ (List.Mem.tail _ (List.Mem.head _)), List.forall_mem_cons.2 ⟨List.Mem.tail _ (List.Mem.tail _ (List.Mem.tail _ (List.Mem.head _))), List.forall_mem_cons.2 ⟨List.Mem.tail _ (List.Mem.tail _ (List.Mem.tail _ (List.Mem.tail _ (List.Mem.head _)))), List.forall_mem_cons.2 ⟨List.Mem.head _, fun _ h => absurd h List.not_mem_nil⟩⟩⟩⟩) (ih _ (by omega) s0 (i + (Int32.ofInt 1)) hF0 (by omega) (by omega) hs9 ?_)
              rw [show ((i + (Int32.ofInt 1)) : Int32).toInt.toNat = i.toInt.toNat + 1 by omega]
              exact h5.trans (or_congr Iff.rfl (not_congr ⟨fun q9 => ⟨q9, (fun q8 b9 m8 q7 q6 => by rw [hi9] at q7; cases q7)⟩, fun q9 => q9.1⟩))
            · cases h90
        · have g56 := nltI (x := i) (y := p1) h56
          refine hB _ _ _ _ _ (fun m94 hm94 => ?_)
          dsimp only [ucgo, ucwp, ucsC, uqC, uoC, ctC, rfd, KX3_judgeMethod, KX3_judgeMethod_0, KX3_judgeMethod_17, KX3_judgeMethod_23, KX3_judgeMethod_28, KX3_judgeMethod_34, KX3_judgeMethod_45, KX3_judgeMethod_46, KX3_judgeMethod_53, KX3_judgeMethod_66, KX3_judgeMethod_75, KX3_judgeMethod_87, KX3_judgeMethod_93, lkC, s1C, s2C, dlC, kyC, Nat.beq, Nat.ble, rcd, rno, rsw, Nat.reduceAdd, Nat.reduceBEq, Nat.reduceDiv, List.drop, List.take, List.reverse, List.reverseAux, Int.toNat, Option.toList, List.append, List.cons_append, List.nil_append, zg121, zg180, zg181, zg211]
          have c95 : (Int32.ofInt 10).toInt = 10 := by decide
          refine ⟨fun h96 => ?_, fun h96 => ?_⟩
          · have g96 := ltI (x := i) (y := (Int32.ofInt 10)) h96
            refine hB _ _ _ _ _ (fun m97 hm97 => ?_)
            dsimp only [ucgo, ucwp, ucsC, uqC, uoC, ctC, rfd, KX3_judgeMethod, KX3_judgeMethod_0, KX3_judgeMethod_17, KX3_judgeMethod_23, KX3_judgeMethod_28, KX3_judgeMethod_34, KX3_judgeMethod_45, KX3_judgeMethod_46, KX3_judgeMethod_53, KX3_judgeMethod_66, KX3_judgeMethod_75, KX3_judgeMethod_87, KX3_judgeMethod_93, lkC, s1C, s2C, dlC, kyC, Nat.beq, Nat.ble, rcd, rno, rsw, Nat.reduceAdd, Nat.reduceBEq, Nat.reduceDiv, List.drop, List.take, List.reverse, List.reverseAux, Int.toNat, Option.toList, List.append, List.cons_append, List.nil_append, zg121, zg180, zg181, zg211]
            refine hB _ _ _ _ _ (fun m98 hm98 => ?_)
            dsimp only [ucgo, ucwp, ucsC, uqC, uoC, ctC, rfd, KX3_judgeMethod, KX3_judgeMethod_0, KX3_judgeMethod_17, KX3_judgeMethod_23, KX3_judgeMethod_28, KX3_judgeMethod_34, KX3_judgeMethod_45, KX3_judgeMethod_46, KX3_judgeMethod_53, KX3_judgeMethod_66, KX3_judgeMethod_75, KX3_judgeMethod_87, KX3_judgeMethod_93, lkC, s1C, s2C, dlC, kyC, Nat.beq, Nat.ble, rcd, rno, rsw, Nat.reduceAdd, Nat.reduceBEq, Nat.reduceDiv, List.drop, List.take, List.reverse, List.reverseAux, Int.toNat, Option.toList, List.append, List.cons_append, List.nil_append, zg121, zg180, zg181, zg211]
            refine ⟨fun h99 => ?_, fun b99 h99 => ?_⟩
            · skip
              refine hB _ _ _ _ _ (fun m100 hm100 => ?_)
              dsimp only [ucgo, ucwp, ucsC, uqC, uoC, ctC, rfd, KX3_judgeMethod, KX3_judgeMethod_0, KX3_judgeMethod_17, KX3_judgeMethod_23, KX3_judgeMethod_28, KX3_judgeMethod_34, KX3_judgeMethod_45, KX3_judgeMethod_46, KX3_judgeMethod_53, KX3_judgeMethod_66, KX3_judgeMethod_75, KX3_judgeMethod_87, KX3_judgeMethod_93, lkC, s1C, s2C, dlC, kyC, Nat.beq, Nat.ble, rcd, rno, rsw, Nat.reduceAdd, Nat.reduceBEq, Nat.reduceDiv, List.drop, List.take, List.reverse, List.reverseAux, Int.toNat, Option.toList, List.append, List.cons_append, List.nil_append, zg121, zg180, zg181, zg211]
              have c101 : (Int32.ofInt 1).toInt = 1 := by decide
              have u102 := tiC i
              have a102 : (i + (Int32.ofInt 1)).toInt = i.toInt + 1 := addC (by omega) (by omega) (by omega)
              refine hW _ 17 [(0, .inr (.inr (some (E 3)))), (1, .inl p1), (2, .inr (.inr (some mk))), (3, .inl (i + (Int32.ofInt 1)))] _ _ _ (List.forall_mem_cons.2 ⟨List.Mem.tail _ (List.Mem.tail _ (List.Mem.head _)), List.forall_mem_cons.2 ⟨List.Mem.tail _ (List.Mem.tail _ (List.Mem.tail _ (List.Mem.head _))), List.forall_mem_cons.2 ⟨List.Mem.tail _ (List.Mem.tail _ (List.Mem.tail _ (List.Mem.tail _ (List.Mem.head _)))), List.forall_mem_cons.2 ⟨List.Mem.head _, fun _ h => absurd h List.not_mem_nil⟩⟩⟩⟩) (ih _ (by omega) s0 (i + (Int32.ofInt 1)) hF0 (by omega) (by omega) hs9 ?_)
              rw [show ((i + (Int32.ofInt 1)) : Int32).toInt.toNat = i.toInt.toNat + 1 by omega]
              exact h5.trans (or_congr Iff.rfl (not_congr ⟨fun q9 => ⟨q9, (fun q8 b9 m8 q7 q6 => by omega)⟩, fun q9 => q9.1⟩))
            · cases h99
          · have g96 := nltI (x := i) (y := (Int32.ofInt 10)) h96
            refine hB _ _ _ _ _ (fun m103 hm103 => ?_)
            dsimp only [ucgo, ucwp, ucsC, uqC, uoC, ctC, rfd, KX3_judgeMethod, KX3_judgeMethod_0, KX3_judgeMethod_17, KX3_judgeMethod_23, KX3_judgeMethod_28, KX3_judgeMethod_34, KX3_judgeMethod_45, KX3_judgeMethod_46, KX3_judgeMethod_53, KX3_judgeMethod_66, KX3_judgeMethod_75, KX3_judgeMethod_87, KX3_judgeMethod_93, lkC, s1C, s2C, dlC, kyC, Nat.beq, Nat.ble, rcd, rno, rsw, Nat.reduceAdd, Nat.reduceBEq, Nat.reduceDiv, List.drop, List.take, List.reverse, List.reverseAux, Int.toNat, Option.toList, List.append, List.cons_append, List.nil_append, zg121, zg180, zg181, zg211]
            intro a104 e104 ob104
            cases e104
            rw [hNm_0.1.1]
            try dsimp only
            intro w106 τ106 o106 q106
            obtain ⟨rfl, qq106⟩ := q106 (N, E, A, B, V, z, ms, nm) ⟨_, rfl, hSs_0.2.2.1.1⟩
            rcases qq106 with ⟨m9, hi106, hm106_, rfl⟩ | ⟨hm106_, rfl⟩
            · obtain ⟨mo, hmo⟩ : ∃ o, MoE E i.toInt.toNat = o := ⟨_, rfl⟩
              have hmo9 : MkC s0 m9 mo := by rw [← hmo]; exact (hSs_0.2.2.1.1.2.2.2.1 _ _ hm106_).2
              rw [hmo]
              have hi9 : ms i.toInt.toNat = some m9 := hm106_
              try dsimp only [Option.toList, List.cons_append, List.nil_append, s1C, s2C, dlC, kyC, Nat.beq, lkC, rcd, rno, rsw]
              refine hB _ _ _ _ _ (fun m107 hm107 => ?_)
              dsimp only [ucgo, ucwp, ucsC, uqC, uoC, ctC, rfd, KX3_judgeMethod, KX3_judgeMethod_0, KX3_judgeMethod_17, KX3_judgeMethod_23, KX3_judgeMethod_28, KX3_judgeMethod_34, KX3_judgeMethod_45, KX3_judgeMethod_46, KX3_judgeMethod_53, KX3_judgeMethod_66, KX3_judgeMethod_75, KX3_judgeMethod_87, KX3_judgeMethod_93, lkC, s1C, s2C, dlC, kyC, Nat.beq, Nat.ble, rcd, rno, rsw, Nat.reduceAdd, Nat.reduceBEq, Nat.reduceDiv, List.drop, List.take, List.reverse, List.reverseAux, Int.toNat, Option.toList, List.append, List.cons_append, List.nil_append, zg121, zg180, zg181, zg211]
              refine ⟨fun h108 => ?_, fun b108 h108 => ?_⟩
              · exact absurd ((Eq.refl (some mo)).symm.trans h108) (by intro q9; cases q9)
              · skip
                refine hB _ _ _ _ _ (fun m109 hm109 => ?_)
                dsimp only [ucgo, ucwp, ucsC, uqC, uoC, ctC, rfd, KX3_judgeMethod, KX3_judgeMethod_0, KX3_judgeMethod_17, KX3_judgeMethod_23, KX3_judgeMethod_28, KX3_judgeMethod_34, KX3_judgeMethod_45, KX3_judgeMethod_46, KX3_judgeMethod_53, KX3_judgeMethod_66, KX3_judgeMethod_75, KX3_judgeMethod_87, KX3_judgeMethod_93, lkC, s1C, s2C, dlC, kyC, Nat.beq, Nat.ble, rcd, rno, rsw, Nat.reduceAdd, Nat.reduceBEq, Nat.reduceDiv, List.drop, List.take, List.reverse, List.reverseAux, Int.toNat, Option.toList, List.append, List.cons_append, List.nil_append, zg121, zg180, zg181, zg211]
                intro a110 e110 ob110
                cases e110
                have f111 : (fLC s0 mo 181).toInt = m9.1 := hmo9.1
                intro a112 e112 ob112
                cases e112
                have f113 : (fLC s0 mk 181).toInt = m.1 := hmk_0.1
                have lc114 : (lg_cmp (fLC s0 mo 181) (fLC s0 mk 181)).toInt = 0 → (fLC s0 mo 181) = (fLC s0 mk 181) := lcmpC
                have ld114 : (fLC s0 mo 181) = (fLC s0 mk 181) → (lg_cmp (fLC s0 mo 181) (fLC s0 mk 181)).toInt = 0 := fun e => by rw [e]; exact lcmp0
                refine ⟨fun h115 => ?_, fun h115 => ?_⟩
                · have g115 := (neI (x := (lg_cmp (fLC s0 mo 181) (fLC s0 mk 181))) (y := 0) h115 : ¬ ((lg_cmp (fLC s0 mo 181) (fLC s0 mk 181)) : Int32).toInt = (0 : Int32).toInt)
                  have z0_ : (0 : Int32).toInt = 0 := rfl
                  refine hB _ _ _ _ _ (fun m116 hm116 => ?_)
                  dsimp only [ucgo, ucwp, ucsC, uqC, uoC, ctC, rfd, KX3_judgeMethod, KX3_judgeMethod_0, KX3_judgeMethod_17, KX3_judgeMethod_23, KX3_judgeMethod_28, KX3_judgeMethod_34, KX3_judgeMethod_45, KX3_judgeMethod_46, KX3_judgeMethod_53, KX3_judgeMethod_66, KX3_judgeMethod_75, KX3_judgeMethod_87, KX3_judgeMethod_93, lkC, s1C, s2C, dlC, kyC, Nat.beq, Nat.ble, rcd, rno, rsw, Nat.reduceAdd, Nat.reduceBEq, Nat.reduceDiv, List.drop, List.take, List.reverse, List.reverseAux, Int.toNat, Option.toList, List.append, List.cons_append, List.nil_append, zg121, zg180, zg181, zg211]
                  have c117 : (Int32.ofInt 1).toInt = 1 := by decide
                  have u118 := tiC i
                  have a118 : (i + (Int32.ofInt 1)).toInt = i.toInt + 1 := addC (by omega) (by omega) (by omega)
                  refine hW _ 17 [(0, .inr (.inr (some (E 3)))), (1, .inl p1), (2, .inr (.inr (some mk))), (3, .inl (i + (Int32.ofInt 1)))] _ _ _ (List.forall_mem_cons.2 ⟨List.Mem.tail _ (List.Mem.tail _ (List.Mem.head _)), List.forall_mem_cons.2 ⟨List.Mem.tail _ (List.Mem.tail _ (List.Mem.tail _ (List.Mem.head _))), List.forall_mem_cons.2 ⟨List.Mem.tail _ (List.Mem.tail _ (List.Mem.tail _ (List.Mem.tail _ (List.Mem.head _)))), List.forall_mem_cons.2 ⟨List.Mem.head _, fun _ h => absurd h List.not_mem_nil⟩⟩⟩⟩) (ih _ (by omega) s0 (i + (Int32.ofInt 1)) hF0 (by omega) (by omega) hs9 ?_)
                  rw [show ((i + (Int32.ofInt 1)) : Int32).toInt.toNat = i.toInt.toNat + 1 by omega]
                  exact h5.trans (or_congr Iff.rfl (not_congr ⟨fun q9 => ⟨q9, (fun q8 b9 m8 q7 q6 => by cases hi9.symm.trans q7; cases hm.symm.trans q6; intro q5; first | exact absurd (ld114 (Int64.toInt_inj.mp (f111.trans (q5.1.trans f113.symm)))) (by omega))⟩, fun q9 => q9.1⟩))
                · have g115 := (eqI (x := (lg_cmp (fLC s0 mo 181) (fLC s0 mk 181))) (y := 0) h115 : ((lg_cmp (fLC s0 mo 181) (fLC s0 mk 181)) : Int32).toInt = (0 : Int32).toInt)
                  have z0_ : (0 : Int32).toInt = 0 := rfl
                  refine hB _ _ _ _ _ (fun m119 hm119 => ?_)
                  dsimp only [ucgo, ucwp, ucsC, uqC, uoC, ctC, rfd, KX3_judgeMethod, KX3_judgeMethod_0, KX3_judgeMethod_17, KX3_judgeMethod_23, KX3_judgeMethod_28, KX3_judgeMethod_34, KX3_judgeMethod_45, KX3_judgeMethod_46, KX3_judgeMethod_53, KX3_judgeMethod_66, KX3_judgeMethod_75, KX3_judgeMethod_87, KX3_judgeMethod_93, lkC, s1C, s2C, dlC, kyC, Nat.beq, Nat.ble, rcd, rno, rsw, Nat.reduceAdd, Nat.reduceBEq, Nat.reduceDiv, List.drop, List.take, List.reverse, List.reverseAux, Int.toNat, Option.toList, List.append, List.cons_append, List.nil_append, zg121, zg180, zg181, zg211]
                  intro w120 τ120 o120 q120
                  obtain ⟨r120, rfl, hr120, rfl⟩ := q120 (N, E, A, B, V, z, m9, m) ⟨_, _, rfl, hmo9, hmk_0⟩
                  try dsimp only [Option.toList, List.cons_append, List.nil_append, s1C, s2C, dlC, kyC, Nat.beq, lkC, rcd, rno, rsw]
                  refine ⟨fun h121 => ?_, fun h121 => ?_⟩
                  · have g121 := (eqI (x := r120) (y := 0) h121 : (r120 : Int32).toInt = (0 : Int32).toInt)
                    have z0_ : (0 : Int32).toInt = 0 := rfl
                    refine hB _ _ _ _ _ (fun m122 hm122 => ?_)
                    dsimp only [ucgo, ucwp, ucsC, uqC, uoC, ctC, rfd, KX3_judgeMethod, KX3_judgeMethod_0, KX3_judgeMethod_17, KX3_judgeMethod_23, KX3_judgeMethod_28, KX3_judgeMethod_34, KX3_judgeMethod_45, KX3_judgeMethod_46, KX3_judgeMethod_53, KX3_judgeMethod_66, KX3_judgeMethod_75, KX3_judgeMethod_87, KX3_judgeMethod_93, lkC, s1C, s2C, dlC, kyC, Nat.beq, Nat.ble, rcd, rno, rsw, Nat.reduceAdd, Nat.reduceBEq, Nat.reduceDiv, List.drop, List.take, List.reverse, List.reverseAux, Int.toNat, Option.toList, List.append, List.cons_append, List.nil_append, zg121, zg180, zg181, zg211]
                    have c123 : (Int32.ofInt 1).toInt = 1 := by decide
                    have u124 := tiC i
                    have a124 : (i + (Int32.ofInt 1)).toInt = i.toInt + 1 := addC (by omega) (by omega) (by omega)
                    refine hW _ 17 [(0, .inr (.inr (some (E 3)))), (1, .inl p1), (2, .inr (.inr (some mk))), (3, .inl (i + (Int32.ofInt 1)))] _ _ _ (List.forall_mem_cons.2 ⟨List.Mem.tail _ (List.Mem.tail _ (List.Mem.head _)), List.forall_mem_cons.2 ⟨List.Mem.tail _ (List.Mem.tail _ (List.Mem.tail _ (List.Mem.head _))), List.forall_mem_cons.2 ⟨List.Mem.tail _ (List.Mem.tail _ (List.Mem.tail _ (List.Mem.tail _ (List.Mem.head _)))), List.forall_mem_cons.2 ⟨List.Mem.head _, fun _ h => absurd h List.not_mem_nil⟩⟩⟩⟩) (ih _ (by omega) s0 (i + (Int32.ofInt 1)) hF0 (by omega) (by omega) hs9 ?_)
                    rw [show ((i + (Int32.ofInt 1)) : Int32).toInt.toNat = i.toInt.toNat + 1 by omega]
                    exact h5.trans (or_congr Iff.rfl (not_congr ⟨fun q9 => ⟨q9, (fun q8 b9 m8 q7 q6 => by cases hi9.symm.trans q7; cases hm.symm.trans q6; intro q5; first | exact absurd (ld114 (Int64.toInt_inj.mp (f111.trans (q5.1.trans f113.symm)))) (by omega) | (rcases hr120 with q4 | q4; exact absurd q4.1 (by omega); exact q4.2 q5.2))⟩, fun q9 => q9.1⟩))
                  · have g121 := (neI (x := r120) (y := 0) h121 : ¬ (r120 : Int32).toInt = (0 : Int32).toInt)
                    have z0_ : (0 : Int32).toInt = 0 := rfl
                    refine hB _ _ _ _ _ (fun m125 hm125 => ?_)
                    dsimp only [ucgo, ucwp, ucsC, uqC, uoC, ctC, rfd, KX3_judgeMethod, KX3_judgeMethod_0, KX3_judgeMethod_17, KX3_judgeMethod_23, KX3_judgeMethod_28, KX3_judgeMethod_34, KX3_judgeMethod_45, KX3_judgeMethod_46, KX3_judgeMethod_53, KX3_judgeMethod_66, KX3_judgeMethod_75, KX3_judgeMethod_87, KX3_judgeMethod_93, lkC, s1C, s2C, dlC, kyC, Nat.beq, Nat.ble, rcd, rno, rsw, Nat.reduceAdd, Nat.reduceBEq, Nat.reduceDiv, List.drop, List.take, List.reverse, List.reverseAux, Int.toNat, Option.toList, List.append, List.cons_append, List.nil_append, zg121, zg180, zg181, zg211]
                    intro a126 e126 ob126
                    cases e126
                    have c128 : (Int32.ofInt 1).toInt = 1 := by decide
                    intro a129 e129 ob129
                    cases e129
                    rw [hNm_0.1.1]
                    try dsimp only
                    intro w131 τ131 o131 q131
                    obtain ⟨rfl, hb131⟩ := q131 (N, E, A, B, V, z) ⟨_, _, rfl, by omega⟩
                    have hF131 : FrE [217, 218] σ τ131 := hF0.tr (o131.2.mo rfl)
                    have hSs_131 := SsC.fr hSs hF131 rfl
                    have hNm_131 := NmC.fr hNm hF131 rfl
                    try dsimp only [Option.toList, List.cons_append, List.nil_append, s1C, s2C, dlC, kyC, Nat.beq, lkC, rcd, rno, rsw]
                    refine hB _ _ _ _ _ (fun m132 hm132 => ?_)
                    dsimp only [ucgo, ucwp, ucsC, uqC, uoC, ctC, rfd, KX3_judgeMethod, KX3_judgeMethod_0, KX3_judgeMethod_17, KX3_judgeMethod_23, KX3_judgeMethod_28, KX3_judgeMethod_34, KX3_judgeMethod_45, KX3_judgeMethod_46, KX3_judgeMethod_53, KX3_judgeMethod_66, KX3_judgeMethod_75, KX3_judgeMethod_87, KX3_judgeMethod_93, lkC, s1C, s2C, dlC, kyC, Nat.beq, Nat.ble, rcd, rno, rsw, Nat.reduceAdd, Nat.reduceBEq, Nat.reduceDiv, List.drop, List.take, List.reverse, List.reverseAux, Int.toNat, Option.toList, List.append, List.cons_append, List.nil_append, zg121, zg180, zg181, zg211]
                    have c133 : (Int32.ofInt 1).toInt = 1 := by decide
                    have u134 := tiC i
                    have a134 : (i + (Int32.ofInt 1)).toInt = i.toInt + 1 := addC (by omega) (by omega) (by omega)
                    refine hW _ 17 [(0, .inr (.inr (some (E 3)))), (1, .inl p1), (2, .inr (.inr (some mk))), (3, .inl (i + (Int32.ofInt 1)))] _ _ _ (List.forall_mem_cons.2 ⟨List.Mem.tail _ (List.Mem.tail _ (List.Mem.head _)), List.forall_mem_cons.2 ⟨List.Mem.tail _ (List.Mem.tail _ (List.Mem.tail _ (List.Mem.head _))), List.forall_mem_cons.2 ⟨List.Mem.tail _ (List.Mem.tail _ (List.Mem.tail _ (List.Mem.tail _ (List.Mem.head _)))), List.forall_mem_cons.2 ⟨List.Mem.head _, fun _ h => absurd h List.not_mem_nil⟩⟩⟩⟩) (ih _ (by omega) τ131 (i + (Int32.ofInt 1)) hF131 (by omega) (by omega) (Or.inl hb131) ?_)
                    rw [show ((i + (Int32.ofInt 1)) : Int32).toInt.toNat = i.toInt.toNat + 1 by omega]
                    exact iff_of_true hb131 (Or.inr (fun q9 => q9.2 (by omega) m9 m hi9 hm ⟨by rw [← f111, ← f113]; exact congrArg Int64.toInt (lc114 (by omega)), by rcases hr120 with q8 | q8; exact q8.2; exact absurd q8.1 (by omega)⟩))
            · have hi9 : ms i.toInt.toNat = none := hm106_ (by omega)
              try dsimp only [Option.toList, List.cons_append, List.nil_append, s1C, s2C, dlC, kyC, Nat.beq, lkC, rcd, rno, rsw]
              refine hB _ _ _ _ _ (fun m135 hm135 => ?_)
              dsimp only [ucgo, ucwp, ucsC, uqC, uoC, ctC, rfd, KX3_judgeMethod, KX3_judgeMethod_0, KX3_judgeMethod_17, KX3_judgeMethod_23, KX3_judgeMethod_28, KX3_judgeMethod_34, KX3_judgeMethod_45, KX3_judgeMethod_46, KX3_judgeMethod_53, KX3_judgeMethod_66, KX3_judgeMethod_75, KX3_judgeMethod_87, KX3_judgeMethod_93, lkC, s1C, s2C, dlC, kyC, Nat.beq, Nat.ble, rcd, rno, rsw, Nat.reduceAdd, Nat.reduceBEq, Nat.reduceDiv, List.drop, List.take, List.reverse, List.reverseAux, Int.toNat, Option.toList, List.append, List.cons_append, List.nil_append, zg121, zg180, zg181, zg211]
              refine ⟨fun h136 => ?_, fun b136 h136 => ?_⟩
              · skip
                refine hB _ _ _ _ _ (fun m137 hm137 => ?_)
                dsimp only [ucgo, ucwp, ucsC, uqC, uoC, ctC, rfd, KX3_judgeMethod, KX3_judgeMethod_0, KX3_judgeMethod_17, KX3_judgeMethod_23, KX3_judgeMethod_28, KX3_judgeMethod_34, KX3_judgeMethod_45, KX3_judgeMethod_46, KX3_judgeMethod_53, KX3_judgeMethod_66, KX3_judgeMethod_75, KX3_judgeMethod_87, KX3_judgeMethod_93, lkC, s1C, s2C, dlC, kyC, Nat.beq, Nat.ble, rcd, rno, rsw, Nat.reduceAdd, Nat.reduceBEq, Nat.reduceDiv, List.drop, List.take, List.reverse, List.reverseAux, Int.toNat, Option.toList, List.append, List.cons_append, List.nil_append, zg121, zg180, zg181, zg211]
                have c138 : (Int32.ofInt 1).toInt = 1 := by decide
                have u139 := tiC i
                have a139 : (i + (Int32.ofInt 1)).toInt = i.toInt + 1 := addC (by omega) (by omega) (by omega)
                refine hW _ 17 [(0, .inr (.inr (some (E 3)))), (1, .inl p1), (2, .inr (.inr (some mk))), (3, .inl (i + (Int32.ofInt 1)))] _ _ _ (List.forall_mem_cons.2 ⟨List.Mem.tail _ (List.Mem.tail _ (List.Mem.head _)), List.forall_mem_cons.2 ⟨List.Mem.tail _ (List.Mem.tail _ (List.Mem.tail _ (List.Mem.head _))), List.forall_mem_cons.2 ⟨List.Mem.tail _ (List.Mem.tail _ (List.Mem.tail _ (List.Mem.tail _ (List.Mem.head _)))), List.forall_mem_cons.2 ⟨List.Mem.head _, fun _ h => absurd h List.not_mem_nil⟩⟩⟩⟩) (ih _ (by omega) s0 (i + (Int32.ofInt 1)) hF0 (by omega) (by omega) hs9 ?_)
                rw [show ((i + (Int32.ofInt 1)) : Int32).toInt.toNat = i.toInt.toNat + 1 by omega]
                exact h5.trans (or_congr Iff.rfl (not_congr ⟨fun q9 => ⟨q9, (fun q8 b9 m8 q7 q6 => by rw [hi9] at q7; cases q7)⟩, fun q9 => q9.1⟩))
              · cases h136
  change K n_ 0 [(0, .inr (.inr (some (E 3)))), (1, .inl p1)] [] σ
  refine hB _ _ _ _ _ (fun m140 hm140 => ?_)
  dsimp only [ucgo, ucwp, ucsC, uqC, uoC, ctC, rfd, KX3_judgeMethod, KX3_judgeMethod_0, KX3_judgeMethod_17, KX3_judgeMethod_23, KX3_judgeMethod_28, KX3_judgeMethod_34, KX3_judgeMethod_45, KX3_judgeMethod_46, KX3_judgeMethod_53, KX3_judgeMethod_66, KX3_judgeMethod_75, KX3_judgeMethod_87, KX3_judgeMethod_93, lkC, s1C, s2C, dlC, kyC, Nat.beq, Nat.ble, rcd, rno, rsw, Nat.reduceAdd, Nat.reduceBEq, Nat.reduceDiv, List.drop, List.take, List.reverse, List.reverseAux, Int.toNat, Option.toList, List.append, List.cons_append, List.nil_append, zg121, zg180, zg181, zg211]
  intro a141 e141 ob141
  cases e141
  intro a143 e143 ob143
  obtain rfl : E 1 = a143 := Option.some.inj (hNm.1.1.symm.trans e143)
  rw [hSs.2.2.1.1.1.1]
  try dsimp only
  intro w145 τ145 o145 q145
  have hg145 : Q_Jx4a65c_get_915e3 [.inr (.inr (some (E 211))), .inl p1] σ w145 τ145 ∧ U_get [.inr (.inr (some (E 211))), .inl p1] σ w145 τ145 := o145.1.1
  obtain ⟨b145, rfl, rfl, -⟩ := hg145.1
  have he145 := hg145.2 b145 rfl
  have hv145 := hSs.2.2.1.1.2.1.2 k hk
  dsimp only at hv145
  obtain rfl : mk = b145 := hmk0.symm.trans (Option.some.inj (hv145.1.symm.trans (by rw [show k = p1.toInt.toNat by omega, ← nT_toNat]; exact he145)))
  try dsimp only [Option.toList, List.cons_append, List.nil_append, s1C, s2C, dlC, kyC, Nat.beq, lkC, rcd, rno, rsw]
  intro oc146
  have c147 : (Int32.ofInt 0).toInt = 0 := by decide
  exact hW _ 17 [(0, .inr (.inr (some (E 3)))), (1, .inl p1), (2, .inr (.inr (some mk))), (3, .inl (Int32.ofInt 0))] _ _ _ (List.forall_mem_cons.2 ⟨List.Mem.tail _ (List.Mem.tail _ (List.Mem.head _)), List.forall_mem_cons.2 ⟨List.Mem.tail _ (List.Mem.tail _ (List.Mem.tail _ (List.Mem.head _))), List.forall_mem_cons.2 ⟨List.Mem.tail _ (List.Mem.head _), List.forall_mem_cons.2 ⟨List.Mem.head _, fun _ h => absurd h List.not_mem_nil⟩⟩⟩⟩) (L17 _ σ (Int32.ofInt 0) FrE.rf (by omega) (by omega) (Or.inr rfl) (by rw [show ((Int32.ofInt 0) : Int32).toInt.toNat = 0 by omega]; exact ⟨Or.inl, fun q9 => q9.elim id (fun q8 => absurd trivial q8)⟩))
theorem wz_judgeMethod : ∀ (L : Nat) (As : List AvC) (σ : CsC) (w : Option AvC) (τ : CsC), EvF L 50 As σ w τ → Uz_judgeMethod As σ w τ := by
  intro L
  cases L with
  | zero => exact fun _ _ _ _ h => h.elim
  | succ L => exact fun As σ w τ h y hy => EvF.us (cs := [235, 119, 113, 118]) (pz_judgeMethod y) rfl (List.forall_mem_cons.2 ⟨fun _ _ _ _ _ => trivial, List.forall_mem_cons.2 ⟨wz_methodOf L, List.forall_mem_cons.2 ⟨wz_hasSameParams L, List.forall_mem_cons.2 ⟨wz_tell L, fun _ h => absurd h List.not_mem_nil⟩⟩⟩⟩) h hy
abbrev Pz_reachAll : ((Int → Int) × (Nat → Nat) × (Nat → Nat) × (Nat → Nat) × (Nat → Nat) × ZS × TbT × MfT × Nat × (Nat → Nat) × (Nat → Int) × RR × Nat) → CpC := fun y As σ => match y with
  | (N, E, A, B, V, z, T, ms, nm, J, V1, r, f) => As = [.inr (.inr (some (E 4))), .inr (.inr (some (E 1)))] ∧ (SsC E A B σ z T ms nm) ∧ (TgC N B σ z) ∧ (WfS z T ∧ UpS z ∧ BiC B z) ∧ (RhC E B σ z r) ∧ (MbC E B σ z ms nm J V1) ∧ (E 4 < cnC σ) ∧ (2 * snM z ≤ f + 1)
abbrev Qz_reachAll : ((Int → Int) × (Nat → Nat) × (Nat → Nat) × (Nat → Nat) × (Nat → Nat) × ZS × TbT × MfT × Nat × (Nat → Nat) × (Nat → Int) × RR × Nat) → CqC := fun y As σ w τ => match y, As with
  | (N, E, A, B, V, z, T, ms, nm, J, V1, r, f), [_, _] => w = none ∧ RhC E B τ z (raL (rcF N z T f) z ms J nm 0 r)
  | _, _ => True
abbrev Uz_reachAll : CqC := fun As σ w τ => ∀ y, Pz_reachAll y As σ → Qz_reachAll y As σ w τ
set_option maxHeartbeats 4000000 in
theorem pz_reachAll (y : (Int → Int) × (Nat → Nat) × (Nat → Nat) × (Nat → Nat) × (Nat → Nat) × ZS × TbT × MfT × Nat × (Nat → Nat) × (Nat → Int) × RR × Nat) : PbC KX2_reachAll [(234, TrP, EqC 234), (235, TrP, EqC 235), (21, TrP, EqC 21), (118, TrP, EqC 118)] [(21, Uz_reachRow), (118, Uz_tell)] (fun As σ => Pz_reachAll y As σ ∧ cnC σ ≤ 1000000 ∧ ∃ w τ, uqC quL 20 As σ w τ) (Qz_reachAll y) := by
  obtain ⟨N, E, A, B, V, z, T, ms, nm, J, V1, r, f⟩ := y
  rintro As σ ⟨⟨rfl, hSs, hTg, hwf, hR, hMb, hE4, hfu⟩, hcn, _, _, hQ⟩ K hB hW n_
  obtain ⟨hwf, hup, hBi⟩ := hwf
  have L7 : ∀ (n : Nat) (s0 : CsC) (i : Int32) (r9 : RR), (FrE [90, 217, 218, 282, 283, 284] σ s0) → (PfC E s0) → (RhC E B s0 z r9) → (0 ≤ i.toInt) → (i.toInt ≤ (nm : Int)) → (raL (rcF N z T f) z ms J nm 0 r = raL (rcF N z T f) z ms J (nm - i.toInt.toNat) i.toInt.toNat r9) →  K n 7 [(0, .inr (.inr (some (E 4)))), (2, .inl i)] [] s0 := by
    intro n
    induction n using Nat.strongRecOn with
    | _ n ih =>
      intro s0 i r9 hF0 hPf_0 hR9 h1 h2 heq
      have hSs_0 := SsC.fr hSs hF0 rfl
      have hTg_0 := TgC.fr hTg hF0 rfl
      have hMb_0 := MbC.fr hMb hF0 rfl
      refine hB _ _ _ _ _ (fun m51 hm51 => ?_)
      dsimp only [ucgo, ucwp, ucsC, uqC, uoC, ctC, rfd, KX2_reachAll, KX2_reachAll_0, KX2_reachAll_7, KX2_reachAll_21, KX2_reachAll_47, KX2_reachAll_55, KX2_reachAll_68, KX2_reachAll_74, lkC, s1C, s2C, dlC, kyC, Nat.beq, Nat.ble, rcd, rno, rsw, Nat.reduceAdd, Nat.reduceBEq, Nat.reduceDiv, List.drop, List.take, List.reverse, List.reverseAux, Int.toNat, Option.toList, List.append, List.cons_append, List.nil_append, zg90, zg180, zg182, zg186, zg211]
      intro a52 e52 ob52
      cases e52
      intro a54 e54 ob54
      obtain rfl : E 1 = a54 := Option.some.inj (hPf_0.1.symm.trans e54)
      rw [hSs_0.2.2.1.1.1.1]
      try dsimp only
      intro w56 τ56 o56 q56
      obtain ⟨r56, rfl, rfl, hr56a, hr56b, hr56, -⟩ := (show Q_Jx4a65c_size_8abf5 [.inr (.inr (some (E 211)))] s0 w56 τ56 from o56.1.1)
      have hs56_ : r56.toInt = (nm : Int) := by rw [← hr56]; exact hSs_0.2.2.1.1.2.1.1
      try dsimp only [Option.toList, List.cons_append, List.nil_append, s1C, s2C, dlC, kyC, Nat.beq, lkC, rcd, rno, rsw]
      refine ⟨fun h57 => ?_, fun h57 => ?_⟩
      · have g57 := leI (x := r56) (y := i) h57
        refine hB _ _ _ _ _ (fun m58 hm58 => ?_)
        dsimp only [ucgo, ucwp, ucsC, uqC, uoC, ctC, rfd, KX2_reachAll, KX2_reachAll_0, KX2_reachAll_7, KX2_reachAll_21, KX2_reachAll_47, KX2_reachAll_55, KX2_reachAll_68, KX2_reachAll_74, lkC, s1C, s2C, dlC, kyC, Nat.beq, Nat.ble, rcd, rno, rsw, Nat.reduceAdd, Nat.reduceBEq, Nat.reduceDiv, List.drop, List.take, List.reverse, List.reverseAux, Int.toNat, Option.toList, List.append, List.cons_append, List.nil_append, zg90, zg180, zg182, zg186, zg211]
        try dsimp only [Qz_reachAll]
        exact fun τ9 h9 => ⟨rfl, by rw [heq, show nm - i.toInt.toNat = 0 by omega, raL]; exact hR9.we h9⟩
      · have g57 := nleI (x := r56) (y := i) h57
        refine hB _ _ _ _ _ (fun m59 hm59 => ?_)
        dsimp only [ucgo, ucwp, ucsC, uqC, uoC, ctC, rfd, KX2_reachAll, KX2_reachAll_0, KX2_reachAll_7, KX2_reachAll_21, KX2_reachAll_47, KX2_reachAll_55, KX2_reachAll_68, KX2_reachAll_74, lkC, s1C, s2C, dlC, kyC, Nat.beq, Nat.ble, rcd, rno, rsw, Nat.reduceAdd, Nat.reduceBEq, Nat.reduceDiv, List.drop, List.take, List.reverse, List.reverseAux, Int.toNat, Option.toList, List.append, List.cons_append, List.nil_append, zg90, zg180, zg182, zg186, zg211]
        intro a60 e60 ob60
        cases e60
        intro a62 e62 ob62
        obtain rfl : E 1 = a62 := Option.some.inj (hPf_0.1.symm.trans e62)
        rw [hSs_0.2.2.1.1.1.1]
        try dsimp only
        intro w64 τ64 o64 q64
        have hg64 : Q_Jx4a65c_get_915e3 [.inr (.inr (some (E 211))), .inl i] s0 w64 τ64 ∧ U_get [.inr (.inr (some (E 211))), .inl i] s0 w64 τ64 := o64.1.1
        obtain ⟨b64, rfl, rfl, -⟩ := hg64.1
        have he64 := hg64.2 b64 rfl
        obtain ⟨ki, hki⟩ : ∃ q, i.toInt.toNat = q := ⟨_, rfl⟩
        have hlki : ki < nm := by omega
        obtain ⟨mk, hmk0⟩ : ∃ o, E (1000 + ki) = o := ⟨_, rfl⟩
        have hv64 := hSs_0.2.2.1.1.2.1.2 ki hlki
        dsimp only at hv64
        obtain rfl : mk = b64 := hmk0.symm.trans (Option.some.inj (hv64.1.symm.trans (by rw [← hki, ← nT_toNat]; exact he64)))
        have hMk_0 := hMb_0 ki hlki
        rw [hmk0] at hMk_0
        obtain ⟨jk, hjk⟩ : ∃ q, J ki = q := ⟨_, rfl⟩
        rw [hjk] at hMk_0
        obtain ⟨m9, hm9⟩ := hMk_0.2.2.2.2
        have hmt : MkC s0 m9 mk := by
          have q := (hSs_0.2.2.1.1.2.2.2.1 ki m9 hm9).2
          have hn10 := hSs_0.2.2.1.1.2.2.1
          unfold MoE at q
          rw [if_neg (by omega), if_neg (by omega), hmk0] at q
          exact q
        try dsimp only [Option.toList, List.cons_append, List.nil_append, s1C, s2C, dlC, kyC, Nat.beq, lkC, rcd, rno, rsw]
        intro oc65
        intro a66 e66 ob66
        cases e66
        have hlj : jk < snM z := hMk_0.2.1
        have o68_0 := hSs_0.1 jk hlj
        intro w69 τ69 o69 q69
        rw [hMk_0.1] at q69 o69
        obtain ⟨v69, rfl, hv69, hR69⟩ := q69 (N, E, A, B, V, z, T, ms, nm, jk, r9, f) ⟨_, rfl, hSs_0, hPf_0, hTg_0, ⟨hwf, hup, hBi⟩, hlj, rfl, hR9, by omega⟩
        obtain ⟨Q69, hQ69⟩ : ∃ q, rwR (rcF N z T f) z jk r9 = q := ⟨_, rfl⟩
        rw [hQ69] at hv69 hR69
        have hF69 : FrE [90, 217, 218, 282, 283, 284] σ τ69 := hF0.tr (o69.2.mo rfl)
        have hSs_69 := SsC.fr hSs hF69 rfl
        have hTg_69 := TgC.fr hTg hF69 rfl
        have hMb_69 := MbC.fr hMb hF69 rfl
        have o68_69 := hSs_69.1 jk hlj
        have hPf_69 := PfC.fr hPf_0 o69.2 rfl
        try dsimp only [Option.toList, List.cons_append, List.nil_append, s1C, s2C, dlC, kyC, Nat.beq, lkC, rcd, rno, rsw]
        refine ⟨fun h70 => ?_, fun h70 => ?_⟩
        · have g70 := (eqI (x := v69) (y := 0) h70 : (v69 : Int32).toInt = (0 : Int32).toInt)
          have z0_ : (0 : Int32).toInt = 0 := rfl
          have hb70 : Q69.1 = false := bZI_f (by omega)
          refine hB _ _ _ _ _ (fun m71 hm71 => ?_)
          dsimp only [ucgo, ucwp, ucsC, uqC, uoC, ctC, rfd, KX2_reachAll, KX2_reachAll_0, KX2_reachAll_7, KX2_reachAll_21, KX2_reachAll_47, KX2_reachAll_55, KX2_reachAll_68, KX2_reachAll_74, lkC, s1C, s2C, dlC, kyC, Nat.beq, Nat.ble, rcd, rno, rsw, Nat.reduceAdd, Nat.reduceBEq, Nat.reduceDiv, List.drop, List.take, List.reverse, List.reverseAux, Int.toNat, Option.toList, List.append, List.cons_append, List.nil_append, zg90, zg180, zg182, zg186, zg211]
          have c72 : (Int32.ofInt 1).toInt = 1 := by decide
          have u73 := tiC i
          have a73 : (i + (Int32.ofInt 1)).toInt = i.toInt + 1 := addC (by omega) (by omega) (by omega)
          exact hW _ 7 [(0, .inr (.inr (some (E 4)))), (2, .inl (i + (Int32.ofInt 1)))] _ _ _ (List.forall_mem_cons.2 ⟨List.Mem.tail _ (List.Mem.tail _ (List.Mem.head _)), List.forall_mem_cons.2 ⟨List.Mem.head _, fun _ h => absurd h List.not_mem_nil⟩⟩) (ih _ (by omega) τ69 (i + (Int32.ofInt 1)) Q69.2 hF69 hPf_69 hR69 (by omega) (by omega) (heq.trans (by rw [show nm - i.toInt.toNat = (nm - ((i + (Int32.ofInt 1)) : Int32).toInt.toNat) + 1 by omega, raL, show i.toInt.toNat + 1 = ((i + (Int32.ofInt 1)) : Int32).toInt.toNat by omega, hki, hjk, hQ69, if_neg (fun q9 => by rw [hb70] at q9; exact absurd q9.1 (by decide))])))
        · have g70 := (neI (x := v69) (y := 0) h70 : ¬ (v69 : Int32).toInt = (0 : Int32).toInt)
          have z0_ : (0 : Int32).toInt = 0 := rfl
          have hb70 : Q69.1 = true := bZI_t (by omega)
          refine hB _ _ _ _ _ (fun m74 hm74 => ?_)
          dsimp only [ucgo, ucwp, ucsC, uqC, uoC, ctC, rfd, KX2_reachAll, KX2_reachAll_0, KX2_reachAll_7, KX2_reachAll_21, KX2_reachAll_47, KX2_reachAll_55, KX2_reachAll_68, KX2_reachAll_74, lkC, s1C, s2C, dlC, kyC, Nat.beq, Nat.ble, rcd, rno, rsw, Nat.reduceAdd, Nat.reduceBEq, Nat.reduceDiv, List.drop, List.take, List.reverse, List.reverseAux, Int.toNat, Option.toList, List.append, List.cons_append, List.nil_append, zg90, zg180, zg182, zg186, zg211]
          intro a75 e75 ob75
          cases e75
          have f76 : (fIC τ69 mk 182).toInt = m9.2.1 := by
            have q := (hSs_69.2.2.1.1.2.2.2.1 ki m9 hm9).2
            have hn10 := hSs_69.2.2.1.1.2.2.1
            unfold MoE at q
            rw [if_neg (by omega), if_neg (by omega), hmk0] at q
            exact q.2.1
          have c77 : (Int32.ofInt 5).toInt = 5 := by decide
          refine ⟨fun h78 => ?_, fun h78 => ?_⟩
          · have g78 := (eqI (x := (fIC τ69 mk 182)) (y := (Int32.ofInt 5)) h78 : ((fIC τ69 mk 182) : Int32).toInt = ((Int32.ofInt 5) : Int32).toInt)
            refine hB _ _ _ _ _ (fun m79 hm79 => ?_)
            dsimp only [ucgo, ucwp, ucsC, uqC, uoC, ctC, rfd, KX2_reachAll, KX2_reachAll_0, KX2_reachAll_7, KX2_reachAll_21, KX2_reachAll_47, KX2_reachAll_55, KX2_reachAll_68, KX2_reachAll_74, lkC, s1C, s2C, dlC, kyC, Nat.beq, Nat.ble, rcd, rno, rsw, Nat.reduceAdd, Nat.reduceBEq, Nat.reduceDiv, List.drop, List.take, List.reverse, List.reverseAux, Int.toNat, Option.toList, List.append, List.cons_append, List.nil_append, zg90, zg180, zg182, zg186, zg211]
            have c80 : (Int32.ofInt 1).toInt = 1 := by decide
            have u81 := tiC i
            have a81 : (i + (Int32.ofInt 1)).toInt = i.toInt + 1 := addC (by omega) (by omega) (by omega)
            exact hW _ 7 [(0, .inr (.inr (some (E 4)))), (2, .inl (i + (Int32.ofInt 1)))] _ _ _ (List.forall_mem_cons.2 ⟨List.Mem.tail _ (List.Mem.tail _ (List.Mem.head _)), List.forall_mem_cons.2 ⟨List.Mem.head _, fun _ h => absurd h List.not_mem_nil⟩⟩) (ih _ (by omega) τ69 (i + (Int32.ofInt 1)) Q69.2 hF69 hPf_69 hR69 (by omega) (by omega) (heq.trans (by rw [show nm - i.toInt.toNat = (nm - ((i + (Int32.ofInt 1)) : Int32).toInt.toNat) + 1 by omega, raL, show i.toInt.toNat + 1 = ((i + (Int32.ofInt 1)) : Int32).toInt.toNat by omega, hki, hjk, hQ69, if_neg (fun q9 => by rw [mty_s hm9] at q9; omega)])))
          · have g78 := (neI (x := (fIC τ69 mk 182)) (y := (Int32.ofInt 5)) h78 : ¬ ((fIC τ69 mk 182) : Int32).toInt = ((Int32.ofInt 5) : Int32).toInt)
            refine hB _ _ _ _ _ (fun m82 hm82 => ?_)
            dsimp only [ucgo, ucwp, ucsC, uqC, uoC, ctC, rfd, KX2_reachAll, KX2_reachAll_0, KX2_reachAll_7, KX2_reachAll_21, KX2_reachAll_47, KX2_reachAll_55, KX2_reachAll_68, KX2_reachAll_74, lkC, s1C, s2C, dlC, kyC, Nat.beq, Nat.ble, rcd, rno, rsw, Nat.reduceAdd, Nat.reduceBEq, Nat.reduceDiv, List.drop, List.take, List.reverse, List.reverseAux, Int.toNat, Option.toList, List.append, List.cons_append, List.nil_append, zg90, zg180, zg182, zg186, zg211]
            intro a83 e83 ob83
            cases e83
            have c85 : (Int32.ofInt 14).toInt = 14 := by decide
            intro a86 e86 ob86
            cases e86
            rw [hPf_69.1]
            try dsimp only
            intro w88 τ88 o88 q88
            obtain ⟨rfl, hb_88⟩ := q88 (N, E, A, B, V, z) ⟨_, _, rfl, by omega⟩
            have hR88 := RhC.x hR69 o88.2 (fun j9 h9 => (hSs_69.1 j9 h9).2) hb_88
            have hF88 : FrE [90, 217, 218, 282, 283, 284] σ τ88 := hF69.tr (o88.2.mo rfl)
            have hSs_88 := SsC.fr hSs hF88 rfl
            have hTg_88 := TgC.fr hTg hF88 rfl
            have hMb_88 := MbC.fr hMb hF88 rfl
            have o68_88 := hSs_88.1 jk hlj
            have hPf_88 := PfC.fr hPf_69 o88.2 rfl
            try dsimp only [Option.toList, List.cons_append, List.nil_append, s1C, s2C, dlC, kyC, Nat.beq, lkC, rcd, rno, rsw]
            refine hB _ _ _ _ _ (fun m89 hm89 => ?_)
            dsimp only [ucgo, ucwp, ucsC, uqC, uoC, ctC, rfd, KX2_reachAll, KX2_reachAll_0, KX2_reachAll_7, KX2_reachAll_21, KX2_reachAll_47, KX2_reachAll_55, KX2_reachAll_68, KX2_reachAll_74, lkC, s1C, s2C, dlC, kyC, Nat.beq, Nat.ble, rcd, rno, rsw, Nat.reduceAdd, Nat.reduceBEq, Nat.reduceDiv, List.drop, List.take, List.reverse, List.reverseAux, Int.toNat, Option.toList, List.append, List.cons_append, List.nil_append, zg90, zg180, zg182, zg186, zg211]
            have c90 : (Int32.ofInt 1).toInt = 1 := by decide
            have u91 := tiC i
            have a91 : (i + (Int32.ofInt 1)).toInt = i.toInt + 1 := addC (by omega) (by omega) (by omega)
            exact hW _ 7 [(0, .inr (.inr (some (E 4)))), (2, .inl (i + (Int32.ofInt 1)))] _ _ _ (List.forall_mem_cons.2 ⟨List.Mem.tail _ (List.Mem.tail _ (List.Mem.head _)), List.forall_mem_cons.2 ⟨List.Mem.head _, fun _ h => absurd h List.not_mem_nil⟩⟩) (ih _ (by omega) τ88 (i + (Int32.ofInt 1)) (rrX Q69.2) hF88 hPf_88 hR88 (by omega) (by omega) (heq.trans (by rw [show nm - i.toInt.toNat = (nm - ((i + (Int32.ofInt 1)) : Int32).toInt.toNat) + 1 by omega, raL, show i.toInt.toNat + 1 = ((i + (Int32.ofInt 1)) : Int32).toInt.toNat by omega, hki, hjk, hQ69, if_pos ⟨hb70, by rw [mty_s hm9]; omega⟩])))
  change K n_ 0 [(0, .inr (.inr (some (E 4)))), (1, .inr (.inr (some (E 1))))] [] σ
  refine hB _ _ _ _ _ (fun m92 hm92 => ?_)
  dsimp only [ucgo, ucwp, ucsC, uqC, uoC, ctC, rfd, KX2_reachAll, KX2_reachAll_0, KX2_reachAll_7, KX2_reachAll_21, KX2_reachAll_47, KX2_reachAll_55, KX2_reachAll_68, KX2_reachAll_74, lkC, s1C, s2C, dlC, kyC, Nat.beq, Nat.ble, rcd, rno, rsw, Nat.reduceAdd, Nat.reduceBEq, Nat.reduceDiv, List.drop, List.take, List.reverse, List.reverseAux, Int.toNat, Option.toList, List.append, List.cons_append, List.nil_append, zg90, zg180, zg182, zg186, zg211]
  intro a93 e93 ob93 fk93
  cases e93
  clear fk93 ob93
  generalize hs93 : pRC σ (E 4) 90 (some (E 1)) = s93
  have hF_p : FrE [90, 217, 218, 282, 283, 284] σ s93 := FrE.pR2 FrE.rf (by decide) hs93
  have hPf_p : PfC E s93 := ⟨pRx_g hs93, by rw [← hs93]; exact hE4⟩
  have hR_p : RhC E B s93 z r := by rw [← hs93]; exact hR
  have c94 : (Int32.ofInt 0).toInt = 0 := by decide
  exact hW _ 7 [(0, .inr (.inr (some (E 4)))), (2, .inl (Int32.ofInt 0))] _ _ _ (List.forall_mem_cons.2 ⟨List.Mem.tail _ (List.Mem.head _), List.forall_mem_cons.2 ⟨List.Mem.head _, fun _ h => absurd h List.not_mem_nil⟩⟩) (L7 _ s93 (Int32.ofInt 0) r hF_p hPf_p hR_p (by omega) (by omega) (by rw [show ((Int32.ofInt 0) : Int32).toInt.toNat = 0 by omega]; rfl))
theorem wz_reachAll : ∀ (L : Nat) (As : List AvC) (σ : CsC) (w : Option AvC) (τ : CsC), EvF L 20 As σ w τ → Uz_reachAll As σ w τ := by
  intro L
  cases L with
  | zero => exact fun _ _ _ _ h => h.elim
  | succ L => exact fun As σ w τ h y hy => EvF.us (cs := [234, 235, 21, 118]) (pz_reachAll y) rfl (List.forall_mem_cons.2 ⟨fun _ _ _ _ _ => trivial, List.forall_mem_cons.2 ⟨fun _ _ _ _ _ => trivial, List.forall_mem_cons.2 ⟨wz_reachRow L, List.forall_mem_cons.2 ⟨wz_tell L, fun _ h => absurd h List.not_mem_nil⟩⟩⟩⟩) h hy
abbrev Pz_assignAll : ((Int → Int) × (Nat → Nat) × (Nat → Nat) × (Nat → Nat) × (Nat → Nat) × ZS × TbT × MfT × Nat × (Nat → Nat) × (Nat → Int) × GzA × Nat) → CpC := fun y As σ => match y with
  | (N, E, A, B, V, z, T, ms, nm, J, V1, g, f) => As = [.inr (.inr (some (E 4))), .inr (.inr (some (E 1)))] ∧ (SsC E A B σ z T ms nm) ∧ (TgC N B σ z) ∧ (WfS z T ∧ UpS z ∧ BiC B z ∧ SxS z) ∧ (AzC E B σ z g) ∧ (MbC E B σ z ms nm J V1) ∧ (E 4 < cnC σ) ∧ (2 * snM z ≤ f) ∧ (∀ k, k < nm → 0 ≤ V1 k ∧ V1 k ≤ 1000)
abbrev Qz_assignAll : ((Int → Int) × (Nat → Nat) × (Nat → Nat) × (Nat → Nat) × (Nat → Nat) × ZS × TbT × MfT × Nat × (Nat → Nat) × (Nat → Int) × GzA × Nat) → CqC := fun y As σ w τ => match y, As with
  | (N, E, A, B, V, z, T, ms, nm, J, V1, g, f), [_, _] => w = none ∧ AzC E B τ z (asL (asF N z T f) ms J V1 nm 0 g)
  | _, _ => True
abbrev Uz_assignAll : CqC := fun As σ w τ => ∀ y, Pz_assignAll y As σ → Qz_assignAll y As σ w τ
set_option maxHeartbeats 4000000 in
theorem pz_assignAll (y : (Int → Int) × (Nat → Nat) × (Nat → Nat) × (Nat → Nat) × (Nat → Nat) × ZS × TbT × MfT × Nat × (Nat → Nat) × (Nat → Int) × GzA × Nat) : PbC KX2_assignAll [(234, TrP, EqC 234), (235, TrP, EqC 235), (29, TrP, EqC 29), (222, TrP, EqC 222)] [(29, Uz_assign), (222, Uz_bitq)] (fun As σ => Pz_assignAll y As σ ∧ cnC σ ≤ 1000000 ∧ ∃ w τ, uqC quL 28 As σ w τ) (Qz_assignAll y) := by
  obtain ⟨N, E, A, B, V, z, T, ms, nm, J, V1, g, f⟩ := y
  rintro As σ ⟨⟨rfl, hSs, hTg, hwf, hG, hMb, hE4, hfu, hv1⟩, hcn, _, _, hQ⟩ K hB hW n_
  obtain ⟨hwf, hup, hBi, hsx⟩ := hwf
  have L7 : ∀ (n : Nat) (s0 : CsC) (i : Int32) (g9 : GzA), (FrE [90, 91, 92, 94, 217, 218, 285, 286, 287, 288, 901] σ s0) → (PfC E s0) → (AzC E B s0 z g9) → (0 ≤ i.toInt) → (i.toInt ≤ (nm : Int)) → (asL (asF N z T f) ms J V1 nm 0 g = asL (asF N z T f) ms J V1 (nm - i.toInt.toNat) i.toInt.toNat g9) →  K n 7 [(0, .inr (.inr (some (E 4)))), (2, .inl i)] [] s0 := by
    intro n
    induction n using Nat.strongRecOn with
    | _ n ih =>
      intro s0 i g9 hF0 hPf_0 hG9 h1 h2 heq
      have hSs_0 := SsC.fr hSs hF0 rfl
      have hTg_0 := TgC.fr hTg hF0 rfl
      have hMb_0 := MbC.fr hMb hF0 rfl
      refine hB _ _ _ _ _ (fun m69 hm69 => ?_)
      dsimp only [ucgo, ucwp, ucsC, uqC, uoC, ctC, rfd, KX2_assignAll, KX2_assignAll_0, KX2_assignAll_7, KX2_assignAll_21, KX2_assignAll_42, KX2_assignAll_51, KX2_assignAll_72, KX2_assignAll_89, lkC, s1C, s2C, dlC, kyC, Nat.beq, Nat.ble, rcd, rno, rsw, Nat.reduceAdd, Nat.reduceBEq, Nat.reduceDiv, List.drop, List.take, List.reverse, List.reverseAux, Int.toNat, Option.toList, List.append, List.cons_append, List.nil_append, zg90, zg184, zg185, zg186, zg211]
      intro a70 e70 ob70
      cases e70
      intro a72 e72 ob72
      obtain rfl : E 1 = a72 := Option.some.inj (hPf_0.1.symm.trans e72)
      rw [hSs_0.2.2.1.1.1.1]
      try dsimp only
      intro w74 τ74 o74 q74
      obtain ⟨r74, rfl, rfl, hr74a, hr74b, hr74, -⟩ := (show Q_Jx4a65c_size_8abf5 [.inr (.inr (some (E 211)))] s0 w74 τ74 from o74.1.1)
      have hs74_ : r74.toInt = (nm : Int) := by rw [← hr74]; exact hSs_0.2.2.1.1.2.1.1
      try dsimp only [Option.toList, List.cons_append, List.nil_append, s1C, s2C, dlC, kyC, Nat.beq, lkC, rcd, rno, rsw]
      refine ⟨fun h75 => ?_, fun h75 => ?_⟩
      · have g75 := leI (x := r74) (y := i) h75
        refine hB _ _ _ _ _ (fun m76 hm76 => ?_)
        dsimp only [ucgo, ucwp, ucsC, uqC, uoC, ctC, rfd, KX2_assignAll, KX2_assignAll_0, KX2_assignAll_7, KX2_assignAll_21, KX2_assignAll_42, KX2_assignAll_51, KX2_assignAll_72, KX2_assignAll_89, lkC, s1C, s2C, dlC, kyC, Nat.beq, Nat.ble, rcd, rno, rsw, Nat.reduceAdd, Nat.reduceBEq, Nat.reduceDiv, List.drop, List.take, List.reverse, List.reverseAux, Int.toNat, Option.toList, List.append, List.cons_append, List.nil_append, zg90, zg184, zg185, zg186, zg211]
        try dsimp only [Qz_assignAll]
        exact fun τ9 h9 => ⟨rfl, by rw [heq, show nm - i.toInt.toNat = 0 by omega, asL]; exact hG9.we h9⟩
      · have g75 := nleI (x := r74) (y := i) h75
        refine hB _ _ _ _ _ (fun m77 hm77 => ?_)
        dsimp only [ucgo, ucwp, ucsC, uqC, uoC, ctC, rfd, KX2_assignAll, KX2_assignAll_0, KX2_assignAll_7, KX2_assignAll_21, KX2_assignAll_42, KX2_assignAll_51, KX2_assignAll_72, KX2_assignAll_89, lkC, s1C, s2C, dlC, kyC, Nat.beq, Nat.ble, rcd, rno, rsw, Nat.reduceAdd, Nat.reduceBEq, Nat.reduceDiv, List.drop, List.take, List.reverse, List.reverseAux, Int.toNat, Option.toList, List.append, List.cons_append, List.nil_append, zg90, zg184, zg185, zg186, zg211]
        intro a78 e78 ob78
        cases e78
        intro a80 e80 ob80
        obtain rfl : E 1 = a80 := Option.some.inj (hPf_0.1.symm.trans e80)
        rw [hSs_0.2.2.1.1.1.1]
        try dsimp only
        intro w82 τ82 o82 q82
        have hg82 : Q_Jx4a65c_get_915e3 [.inr (.inr (some (E 211))), .inl i] s0 w82 τ82 ∧ U_get [.inr (.inr (some (E 211))), .inl i] s0 w82 τ82 := o82.1.1
        obtain ⟨b82, rfl, rfl, -⟩ := hg82.1
        have he82 := hg82.2 b82 rfl
        obtain ⟨ki, hki⟩ : ∃ q, i.toInt.toNat = q := ⟨_, rfl⟩
        have hlki : ki < nm := by omega
        obtain ⟨mk, hmk0⟩ : ∃ o, E (1000 + ki) = o := ⟨_, rfl⟩
        have hv82 := hSs_0.2.2.1.1.2.1.2 ki hlki
        dsimp only at hv82
        obtain rfl : mk = b82 := hmk0.symm.trans (Option.some.inj (hv82.1.symm.trans (by rw [← hki, ← nT_toNat]; exact he82)))
        have hMk_0 := hMb_0 ki hlki
        rw [hmk0] at hMk_0
        obtain ⟨jk, hjk⟩ : ∃ q, J ki = q := ⟨_, rfl⟩
        rw [hjk] at hMk_0
        obtain ⟨m9, hm9⟩ := hMk_0.2.2.2.2
        have hmt : MkC s0 m9 mk := by
          have q := (hSs_0.2.2.1.1.2.2.2.1 ki m9 hm9).2
          have hn10 := hSs_0.2.2.1.1.2.2.1
          unfold MoE at q
          rw [if_neg (by omega), if_neg (by omega), hmk0] at q
          exact q
        try dsimp only [Option.toList, List.cons_append, List.nil_append, s1C, s2C, dlC, kyC, Nat.beq, lkC, rcd, rno, rsw]
        intro oc83
        have c84 : (Int32.ofInt 0).toInt = 0 := by decide
        have hv9 := hv1 ki hlki
        have hl6 : m9.2.2.length ≤ 6 := by
          obtain ⟨r8, ⟨_, _, q8⟩, _⟩ := hmt.2.2.2
          exact q8
        have L42 : ∀ (n2 : Nat) (pm : Int64) (qi : Int32), 0 ≤ qi.toInt → qi.toInt ≤ (m9.2.2.length : Int) → pbL (V1 ki) m9.2.2.length 0 zerB = pbL (V1 ki) (m9.2.2.length - qi.toInt.toNat) qi.toInt.toNat pm → n2 < n → K n2 42 [(0, .inr (.inr (some (E 4)))), (2, .inl i), (3, .inr (.inr (some mk))), (4, .inr (.inl pm)), (6, .inl qi)] [] s0 := by
          intro n2
          induction n2 using Nat.strongRecOn with
          | _ n2 ih2 =>
            intro pm qi h3 h4 heq2 hn2
            refine hB _ _ _ _ _ (fun m51 hm51 => ?_)
            dsimp only [ucgo, ucwp, ucsC, uqC, uoC, ctC, rfd, KX2_assignAll, KX2_assignAll_0, KX2_assignAll_7, KX2_assignAll_21, KX2_assignAll_42, KX2_assignAll_51, KX2_assignAll_72, KX2_assignAll_89, lkC, s1C, s2C, dlC, kyC, Nat.beq, Nat.ble, rcd, rno, rsw, Nat.reduceAdd, Nat.reduceBEq, Nat.reduceDiv, List.drop, List.take, List.reverse, List.reverseAux, Int.toNat, Option.toList, List.append, List.cons_append, List.nil_append, zg90, zg184, zg185, zg186, zg211]
            intro a52 e52 ob52
            cases e52
            have f53 : (fIC s0 mk 185).toInt = (m9.2.2.length : Int) := hmt.2.2.1
            refine ⟨fun h54 => ?_, fun h54 => ?_⟩
            · have g54 := leI (x := (fIC s0 mk 185)) (y := qi) h54
              refine hB _ _ _ _ _ (fun m55 hm55 => ?_)
              dsimp only [ucgo, ucwp, ucsC, uqC, uoC, ctC, rfd, KX2_assignAll, KX2_assignAll_0, KX2_assignAll_7, KX2_assignAll_21, KX2_assignAll_42, KX2_assignAll_51, KX2_assignAll_72, KX2_assignAll_89, lkC, s1C, s2C, dlC, kyC, Nat.beq, Nat.ble, rcd, rno, rsw, Nat.reduceAdd, Nat.reduceBEq, Nat.reduceDiv, List.drop, List.take, List.reverse, List.reverseAux, Int.toNat, Option.toList, List.append, List.cons_append, List.nil_append, zg90, zg184, zg185, zg186, zg211]
              intro a56 e56 ob56
              cases e56
              have hlj : jk < snM z := hMk_0.2.1
              have o58_0 := hSs_0.1 jk hlj
              intro w59 τ59 o59 q59
              rw [hMk_0.1] at q59 o59
              have hpb : pbL (V1 ki) m9.2.2.length 0 zerB = pm := by rw [heq2, show m9.2.2.length - qi.toInt.toNat = 0 by omega, pbL]
              obtain ⟨v59, rfl, hv59, hG59⟩ := q59 (N, E, A, B, V, z, T, ms, nm, jk, g9, f) ⟨_, _, rfl, hSs_0, hPf_0, hTg_0, ⟨hwf, hup, hBi, hsx⟩, hlj, rfl, hG9, by omega⟩
              have hF59 : FrE [90, 91, 92, 94, 217, 218, 285, 286, 287, 288, 901] σ τ59 := hF0.tr (o59.2.mo rfl)
              have hSs_59 := SsC.fr hSs hF59 rfl
              have hTg_59 := TgC.fr hTg hF59 rfl
              have hMb_59 := MbC.fr hMb hF59 rfl
              have o58_59 := hSs_59.1 jk hlj
              have hPf_59 := PfC.fr hPf_0 o59.2 rfl
              obtain ⟨Q59, hQ59⟩ : ∃ q, (asF N z T f).2.2 jk pm g9 = q := ⟨_, rfl⟩
              rw [hQ59] at hv59 hG59
              try dsimp only [Option.toList, List.cons_append, List.nil_append, s1C, s2C, dlC, kyC, Nat.beq, lkC, rcd, rno, rsw]
              have c60 : (Int32.ofInt 1).toInt = 1 := by decide
              have u61 := tiC i
              have a61 : (i + (Int32.ofInt 1)).toInt = i.toInt + 1 := addC (by omega) (by omega) (by omega)
              exact hW _ 7 [(0, .inr (.inr (some (E 4)))), (2, .inl (i + (Int32.ofInt 1)))] _ _ _ (List.forall_mem_cons.2 ⟨List.Mem.tail _ (List.Mem.head _), List.forall_mem_cons.2 ⟨List.Mem.head _, fun _ h => absurd h List.not_mem_nil⟩⟩) (ih _ (by omega) τ59 (i + (Int32.ofInt 1)) Q59.2 hF59 hPf_59 hG59 (by omega) (by omega) (heq.trans (by rw [show nm - i.toInt.toNat = (nm - ((i + (Int32.ofInt 1)) : Int32).toInt.toNat) + 1 by omega, asL, show i.toInt.toNat + 1 = ((i + (Int32.ofInt 1)) : Int32).toInt.toNat by omega, hki, hjk, np_s hm9, hpb, hQ59])))
            · have g54 := nleI (x := (fIC s0 mk 185)) (y := qi) h54
              refine hB _ _ _ _ _ (fun m62 hm62 => ?_)
              dsimp only [ucgo, ucwp, ucsC, uqC, uoC, ctC, rfd, KX2_assignAll, KX2_assignAll_0, KX2_assignAll_7, KX2_assignAll_21, KX2_assignAll_42, KX2_assignAll_51, KX2_assignAll_72, KX2_assignAll_89, lkC, s1C, s2C, dlC, kyC, Nat.beq, Nat.ble, rcd, rno, rsw, Nat.reduceAdd, Nat.reduceBEq, Nat.reduceDiv, List.drop, List.take, List.reverse, List.reverseAux, Int.toNat, Option.toList, List.append, List.cons_append, List.nil_append, zg90, zg184, zg185, zg186, zg211]
              intro a63 e63 ob63
              cases e63
              have f64 : (fIC s0 mk 184).toInt = V1 ki := hMk_0.2.2.1
              have u65 := tiC (fIC s0 mk 184)
              have a65 : ((fIC s0 mk 184) + qi).toInt = V1 ki + qi.toInt := addC (by omega) (by omega) (by omega)
              intro w66 τ66 o66 q66
              obtain ⟨r66, rfl, hr66, rfl⟩ := q66 (N, E, A, B, V, z) ⟨_, rfl⟩
              rw [show (((fIC s0 mk 184) + qi) : Int32).toInt = (V1 ki + qi.toInt) by omega] at hr66
              try dsimp only [Option.toList, List.cons_append, List.nil_append, s1C, s2C, dlC, kyC, Nat.beq, lkC, rcd, rno, rsw]
              have c67 : (Int32.ofInt 1).toInt = 1 := by decide
              have u68 := tiC qi
              have a68 : (qi + (Int32.ofInt 1)).toInt = qi.toInt + 1 := addC (by omega) (by omega) (by omega)
              refine hW _ 42 [(0, .inr (.inr (some (E 4)))), (2, .inl i), (3, .inr (.inr (some mk))), (4, .inr (.inl (pm ||| r66))), (6, .inl (qi + (Int32.ofInt 1)))] _ _ _ (List.forall_mem_cons.2 ⟨List.Mem.tail _ (List.Mem.tail _ (List.Mem.head _)), List.forall_mem_cons.2 ⟨List.Mem.tail _ (List.Mem.tail _ (List.Mem.tail _ (List.Mem.head _))), List.forall_mem_cons.2 ⟨List.Mem.tail _ (List.Mem.tail _ (List.Mem.tail _ (List.Mem.tail _ (List.Mem.head _)))), List.forall_mem_cons.2 ⟨List.Mem.tail _ (List.Mem.head _), List.forall_mem_cons.2 ⟨List.Mem.head _, fun _ h => absurd h List.not_mem_nil⟩⟩⟩⟩⟩) (ih2 _ (by omega) (pm ||| r66) (qi + (Int32.ofInt 1)) (by omega) (by omega) (heq2.trans ?_) (by omega))
              rw [show m9.2.2.length - qi.toInt.toNat = (m9.2.2.length - ((qi + (Int32.ofInt 1)) : Int32).toInt.toNat) + 1 by omega, pbL, hr66, show qi.toInt.toNat + 1 = ((qi + (Int32.ofInt 1)) : Int32).toInt.toNat by omega, show V1 ki + ((qi.toInt.toNat : Nat) : Int) = V1 ki + qi.toInt by omega]
        exact hW _ 42 [(0, .inr (.inr (some (E 4)))), (2, .inl i), (3, .inr (.inr (some mk))), (4, .inr (.inl (Int64.ofNat ((0 : Fin 2) : Nat)))), (6, .inl (Int32.ofInt 0))] _ _ _ (List.forall_mem_cons.2 ⟨List.Mem.tail _ (List.Mem.tail _ (List.Mem.tail _ (List.Mem.head _))), List.forall_mem_cons.2 ⟨List.Mem.tail _ (List.Mem.tail _ (List.Mem.tail _ (List.Mem.tail _ (List.Mem.head _)))), List.forall_mem_cons.2 ⟨List.Mem.tail _ (List.Mem.tail _ (List.Mem.head _)), List.forall_mem_cons.2 ⟨List.Mem.tail _ (List.Mem.head _), List.forall_mem_cons.2 ⟨List.Mem.head _, fun _ h => absurd h List.not_mem_nil⟩⟩⟩⟩⟩) (L42 _ (Int64.ofNat ((0 : Fin 2) : Nat)) (Int32.ofInt 0) (by omega) (by omega) (by rw [show ((Int32.ofInt 0) : Int32).toInt.toNat = 0 by omega]; rfl) (by omega))
  change K n_ 0 [(0, .inr (.inr (some (E 4)))), (1, .inr (.inr (some (E 1))))] [] σ
  refine hB _ _ _ _ _ (fun m85 hm85 => ?_)
  dsimp only [ucgo, ucwp, ucsC, uqC, uoC, ctC, rfd, KX2_assignAll, KX2_assignAll_0, KX2_assignAll_7, KX2_assignAll_21, KX2_assignAll_42, KX2_assignAll_51, KX2_assignAll_72, KX2_assignAll_89, lkC, s1C, s2C, dlC, kyC, Nat.beq, Nat.ble, rcd, rno, rsw, Nat.reduceAdd, Nat.reduceBEq, Nat.reduceDiv, List.drop, List.take, List.reverse, List.reverseAux, Int.toNat, Option.toList, List.append, List.cons_append, List.nil_append, zg90, zg184, zg185, zg186, zg211]
  intro a86 e86 ob86 fk86
  cases e86
  clear fk86 ob86
  generalize hs86 : pRC σ (E 4) 90 (some (E 1)) = s86
  have hF_p : FrE [90, 91, 92, 94, 217, 218, 285, 286, 287, 288, 901] σ s86 := FrE.pR2 FrE.rf (by decide) hs86
  have hPf_p : PfC E s86 := ⟨pRx_g hs86, by rw [← hs86]; exact hE4⟩
  have hG_p : AzC E B s86 z g := by
    have h93 : fRC s86 (E 4) 93 = fRC σ (E 4) 93 := by
      rw [← hs86]
      show u2C (fRC σ) (E 4) 90 (some (E 1)) (E 4) 93 = _
      rw [u2C_nk (by decide)]
    obtain ⟨a1, a2, ⟨a3, a4, a5⟩, a6⟩ := hG
    rw [← hs86] at h93 ⊢
    exact ⟨a1, a2, ⟨a3, h93.trans a4, a5⟩, a6⟩
  have c87 : (Int32.ofInt 0).toInt = 0 := by decide
  exact hW _ 7 [(0, .inr (.inr (some (E 4)))), (2, .inl (Int32.ofInt 0))] _ _ _ (List.forall_mem_cons.2 ⟨List.Mem.tail _ (List.Mem.head _), List.forall_mem_cons.2 ⟨List.Mem.head _, fun _ h => absurd h List.not_mem_nil⟩⟩) (L7 _ s86 (Int32.ofInt 0) g hF_p hPf_p hG_p (by omega) (by omega) (by rw [show ((Int32.ofInt 0) : Int32).toInt.toNat = 0 by omega]; rfl))
theorem wz_assignAll : ∀ (L : Nat) (As : List AvC) (σ : CsC) (w : Option AvC) (τ : CsC), EvF L 28 As σ w τ → Uz_assignAll As σ w τ := by
  intro L
  cases L with
  | zero => exact fun _ _ _ _ h => h.elim
  | succ L => exact fun As σ w τ h y hy => EvF.us (cs := [234, 235, 29, 222]) (pz_assignAll y) rfl (List.forall_mem_cons.2 ⟨fun _ _ _ _ _ => trivial, List.forall_mem_cons.2 ⟨fun _ _ _ _ _ => trivial, List.forall_mem_cons.2 ⟨wz_assign L, List.forall_mem_cons.2 ⟨wz_bitq L, fun _ h => absurd h List.not_mem_nil⟩⟩⟩⟩) h hy
