/-! the class's judge: jumps, returns, switches -/
/-- out of the S that was found: what continue means by it -/
def rsT (z : ZS) (on : Bool) (y : Int) : Int := if on = true ∧ 0 ≤ y ∧ kjS z y.toNat = 6 then (if kjS z (y.toNat + 1) = 58 ∨ kjS z (y.toNat + 1) = 59 ∨ kjS z (y.toNat + 1) = 60 then y + 1 else -1) else y
theorem rs_neg {z : ZS} {on : Bool} {y : Int} (h : y < 0) : rsT z on y = y := if_neg (fun q => by omega)
theorem rs_off {z : ZS} {y : Int} : rsT z false y = y := if_neg (fun q => by cases q.1)
theorem tg_lp {N : Int → Int} {z : ZS} {on : Bool} {t : Int} {k j : Nat} (ht : t < 0) (h : kjS z j = 58 ∨ kjS z j = 59 ∨ kjS z j = 60 ∨ (on = false ∧ kjS z j = 61)) : tgZ N z.2.2.1.2 on t (k + 1) (j : Int) = (j : Int) := by rw [tg_s, if_pos ht, if_pos h]
theorem tg_go {N : Int → Int} {z : ZS} {on : Bool} {t : Int} {k j : Nat} (ht : t < 0) (h : ¬ (kjS z j = 58 ∨ kjS z j = 59 ∨ kjS z j = 60 ∨ (on = false ∧ kjS z j = 61))) : tgZ N z.2.2.1.2 on t (k + 1) (j : Int) = tgZ N z.2.2.1.2 on t k (paS z j) := by rw [tg_s, if_pos ht, if_neg h]
theorem tg_nm {N : Int → Int} {z : ZS} {on : Bool} {t : Int} {k j : Nat} (ht : ¬ t < 0) (h : kjS z j = 6 ∧ N (ljS z j) = N t) : tgZ N z.2.2.1.2 on t (k + 1) (j : Int) = rsT z on (j : Int) := by
  have e : rsT z true (j : Int) = if kjS z (j + 1) = 58 ∨ kjS z (j + 1) = 59 ∨ kjS z (j + 1) = 60 then (j : Int) + 1 else -1 := by
    unfold rsT
    rw [if_pos ⟨rfl, by omega, by rw [Int.toNat_natCast]; exact h.1⟩, Int.toNat_natCast]
  rw [tg_s, if_neg ht, if_pos h]
  cases on with
  | false => rw [if_pos rfl, rs_off]
  | true => rw [if_neg (by decide), e]
theorem tg_ng {N : Int → Int} {z : ZS} {on : Bool} {t : Int} {k j : Nat} (ht : ¬ t < 0) (h : ¬ (kjS z j = 6 ∧ N (ljS z j) = N t)) : tgZ N z.2.2.1.2 on t (k + 1) (j : Int) = tgZ N z.2.2.1.2 on t k (paS z j) := by rw [tg_s, if_neg ht, if_neg h]
theorem rs_lp {z : ZS} {on : Bool} {j : Nat} (h : ¬ kjS z j = 6) : rsT z on (j : Int) = (j : Int) := if_neg (fun q => h (by have := q.2.2; rwa [Int.toNat_natCast] at this))
theorem FrE.pR2 {M : List Nat} {σ τ υ : CsC} {a k : Nat} {v : Option Nat} (h : FrE M σ τ) (hk : M.elem k = true) (e : pRC τ a k v = υ) : FrE M σ υ := by rw [← e]; exact h.pR hk
theorem erx_pR {E : Nat → Nat} {τ υ : CsC} {o k : Nat} {v : Option Nat} (e : pRC τ o k v = υ) : fIC υ (E 1) 217 = fIC τ (E 1) 217 := by rw [← e]; rfl
theorem pRx_g {τ υ : CsC} {o k : Nat} {v : Option Nat} (e : pRC τ o k v = υ) : fRC υ o k = v := by rw [← e]; exact u2C_eq
theorem pRx_n {τ υ : CsC} {o a k : Nat} {v : Option Nat} (e : pRC τ o k v = υ) (h : a ≠ o) : fRC υ a k = fRC τ a k := by rw [← e]; exact u2C_na h
/-- return: m the method -/
def rtT' (z : ZS) (T : TbT) (m : MtT) (j : Nat) : Prop := (xjS z j < 0 ↔ m.2.1 = 5) ∧ (0 ≤ xjS z j → ftT (T.1 (xjS z j).toNat) m.2.1)
/-- S's in a row -/
def RwZ (z : ZS) : Int → List Nat → Prop
  | x, [] => x < 0
  | x, j :: l => x = (j : Int) ∧ j < snM z ∧ RwZ z (njS z j) l
/-- a case, behind those of a row -/
def cvZ (z : ZS) (T : TbT) (v : Int64) (u : Nat) : Prop := kjS z u = 62 ∧ 0 ≤ xjS z u ∧ ¬ (T.1 (xjS z u).toNat).2.1 = 0 ∧ (T.1 (xjS z u).toNat).2.2.1 = v
def csT' (z : ZS) (T : TbT) (ty : Int) (ahd : List Nat) (j : Nat) : Prop := 0 ≤ xjS z j → (¬ (T.1 (xjS z j).toNat).2.1 = 0 ∧ ftT (T.1 (xjS z j).toNat) ty) ∧ ∀ u ∈ ahd, ¬ cvZ z T (T.1 (xjS z j).toNat).2.2.1 u
/-- the row of a switch: what stands ahead, from there on -/
def swT' (z : ZS) (T : TbT) (ty : Int) : List Nat → List Nat → Prop
  | _, [] => True
  | ahd, j :: l => (kjS z j = 62 → csT' z T ty ahd j) ∧ (kjS z j = 63 → ∀ u ∈ ahd, ¬ kjS z u = 63) ∧ swT' z T ty (ahd ++ [j]) l
abbrev Pz_judgeJump : ((Int → Int) × (Nat → Nat) × (Nat → Nat) × (Nat → Nat) × (Nat → Nat) × ZS × TbT × MfT × Nat × Nat) → CpC := fun y As σ => match y with
  | (N, E, A, B, V, z, T, ms, nm, j) => ∃ (p1 : Nat), As = [.inr (.inr (some (E 3))), .inr (.inr (some p1))] ∧ (SsC E A B σ z T ms nm) ∧ (NmC N E σ) ∧ (WfS z T) ∧ (j < snM z) ∧ (p1 = B j) ∧ (fRC σ p1 281 = none) ∧ (kjS z j = 64 ∨ kjS z j = 65)
abbrev Qz_judgeJump : ((Int → Int) × (Nat → Nat) × (Nat → Nat) × (Nat → Nat) × (Nat → Nat) × ZS × TbT × MfT × Nat × Nat) → CqC := fun y As σ w τ => match y, As with
  | (N, E, A, B, V, z, T, ms, nm, j), [_, .inr (.inr (some p1))] => w = none ∧ (erC E τ ↔ erC E σ ∨ tjT N z j < 0) ∧ fRC τ p1 281 = opA B (tjT N z j) ∧ ∀ a, a < cnC σ → a ≠ p1 → fRC τ a 281 = fRC σ a 281
  | _, _ => True
abbrev Uz_judgeJump : CqC := fun As σ w τ => ∀ y, Pz_judgeJump y As σ → Qz_judgeJump y As σ w τ
set_option maxHeartbeats 4000000 in
theorem pz_judgeJump (y : (Int → Int) × (Nat → Nat) × (Nat → Nat) × (Nat → Nat) × (Nat → Nat) × ZS × TbT × MfT × Nat × Nat) : PbC KX3_judgeJump [(118, TrP, EqC 118), (179, TrP, EqC 179), (84, TrP, EqC 84)] [(118, Uz_tell), (179, Uz_isLoop), (84, Uz_isSameName)] (fun As σ => Pz_judgeJump y As σ ∧ cnC σ ≤ 1000000 ∧ ∃ w τ, uqC quL 83 As σ w τ) (Qz_judgeJump y) := by
  obtain ⟨N, E, A, B, V, z, T, ms, nm, j⟩ := y
  rintro As σ ⟨⟨p1, rfl, hSs, hNm, hwf, hj, hp, h281, hk⟩, hcn, _, _, hQ⟩ K hB hW n_
  have op : SlC A B σ z j p1 ∧ p1 < cnC σ := by rw [hp]; exact hSs.1 j hj
  have L93 : ∀ (n : Nat) (s0 : CsC) (e9 : Option Nat) (y9 : Int), FrE [217, 218, 281] σ s0 → fIC s0 (E 1) 217 = fIC σ (E 1) 217 → (∀ a, a < cnC σ → a ≠ p1 → fRC s0 a 281 = fRC σ a 281) → fRC s0 p1 281 = opA B y9 → -1 ≤ y9 → y9 < (snM z : Int) → tjT N z j = rsT z (decide (kjS z j = 65)) y9 → K n 93 [(0, .inr (.inr (some (E 3)))), (1, .inr (.inr (some p1))), (2, .inr (.inr e9))] [] s0 := by
    intro n s0 e9 y9 hF0 he0 hn0 h281y hy1 hy2 hR
    have hSs_0 := SsC.fr hSs hF0 rfl
    have hNm_0 := NmC.fr hNm hF0 rfl
    have op_0 : SlC A B s0 z j p1 ∧ p1 < cnC s0 := by rw [hp]; exact hSs_0.1 j hj
    refine hB _ _ _ _ _ (fun m51 hm51 => ?_)
    dsimp only [ucgo, ucwp, ucsC, uqC, uoC, ctC, rfd, KX3_judgeJump, KX3_judgeJump_0, KX3_judgeJump_5, KX3_judgeJump_9, KX3_judgeJump_16, KX3_judgeJump_23, KX3_judgeJump_30, KX3_judgeJump_39, KX3_judgeJump_48, KX3_judgeJump_56, KX3_judgeJump_65, KX3_judgeJump_80, KX3_judgeJump_85, KX3_judgeJump_93, KX3_judgeJump_102, KX3_judgeJump_109, KX3_judgeJump_121, KX3_judgeJump_134, KX3_judgeJump_141, KX3_judgeJump_145, KX3_judgeJump_146, KX3_judgeJump_149, KX3_judgeJump_156, KX3_judgeJump_169, KX3_judgeJump_176, KX3_judgeJump_180, KX3_judgeJump_183, lkC, s1C, s2C, dlC, kyC, Nat.beq, Nat.ble, rcd, rno, rsw, Nat.reduceAdd, Nat.reduceBEq, Nat.reduceDiv, List.drop, List.take, List.reverse, List.reverseAux, Int.toNat, Option.toList, List.append, List.cons_append, List.nil_append, zg121, zg270, zg271, zg273, zg276, zg280, zg281]
    intro a52 e52 ob52
    cases e52
    have f53 : (fIC s0 p1 270).toInt = kjS z j := op_0.1.1.1
    have c54 : (Int32.ofInt 65).toInt = 65 := by decide
    refine ⟨fun h55 => ?_, fun h55 => ?_⟩
    · have g55 := (neI (x := (fIC s0 p1 270)) (y := (Int32.ofInt 65)) h55 : ¬ ((fIC s0 p1 270) : Int32).toInt = ((Int32.ofInt 65) : Int32).toInt)
      have hRR : tjT N z j = y9 := hR.trans (by rw [show (decide (kjS z j = 65)) = false from decide_eq_false (by omega)]; exact rs_off)
      refine hB _ _ _ _ _ (fun m56 hm56 => ?_)
      dsimp only [ucgo, ucwp, ucsC, uqC, uoC, ctC, rfd, KX3_judgeJump, KX3_judgeJump_0, KX3_judgeJump_5, KX3_judgeJump_9, KX3_judgeJump_16, KX3_judgeJump_23, KX3_judgeJump_30, KX3_judgeJump_39, KX3_judgeJump_48, KX3_judgeJump_56, KX3_judgeJump_65, KX3_judgeJump_80, KX3_judgeJump_85, KX3_judgeJump_93, KX3_judgeJump_102, KX3_judgeJump_109, KX3_judgeJump_121, KX3_judgeJump_134, KX3_judgeJump_141, KX3_judgeJump_145, KX3_judgeJump_146, KX3_judgeJump_149, KX3_judgeJump_156, KX3_judgeJump_169, KX3_judgeJump_176, KX3_judgeJump_180, KX3_judgeJump_183, lkC, s1C, s2C, dlC, kyC, Nat.beq, Nat.ble, rcd, rno, rsw, Nat.reduceAdd, Nat.reduceBEq, Nat.reduceDiv, List.drop, List.take, List.reverse, List.reverseAux, Int.toNat, Option.toList, List.append, List.cons_append, List.nil_append, zg121, zg270, zg271, zg273, zg276, zg280, zg281]
      intro a57 e57 ob57
      cases e57
      have f58 : (fRC s0 p1 281) = opA B (y9) := h281y
      refine ⟨fun b59 h59 => ?_, fun h59 => ?_⟩
      · obtain ⟨j59, hj59, hb59⟩ := opA_j (f58.symm.trans h59)
        have hl59 : j59 < snM z := by omega
        have o60_0 := hSs_0.1 j59 hl59
        refine hB _ _ _ _ _ (fun m61 hm61 => ?_)
        dsimp only [ucgo, ucwp, ucsC, uqC, uoC, ctC, rfd, KX3_judgeJump, KX3_judgeJump_0, KX3_judgeJump_5, KX3_judgeJump_9, KX3_judgeJump_16, KX3_judgeJump_23, KX3_judgeJump_30, KX3_judgeJump_39, KX3_judgeJump_48, KX3_judgeJump_56, KX3_judgeJump_65, KX3_judgeJump_80, KX3_judgeJump_85, KX3_judgeJump_93, KX3_judgeJump_102, KX3_judgeJump_109, KX3_judgeJump_121, KX3_judgeJump_134, KX3_judgeJump_141, KX3_judgeJump_145, KX3_judgeJump_146, KX3_judgeJump_149, KX3_judgeJump_156, KX3_judgeJump_169, KX3_judgeJump_176, KX3_judgeJump_180, KX3_judgeJump_183, lkC, s1C, s2C, dlC, kyC, Nat.beq, Nat.ble, rcd, rno, rsw, Nat.reduceAdd, Nat.reduceBEq, Nat.reduceDiv, List.drop, List.take, List.reverse, List.reverseAux, Int.toNat, Option.toList, List.append, List.cons_append, List.nil_append, zg121, zg270, zg271, zg273, zg276, zg280, zg281]
        try dsimp only [Qz_judgeJump]
        exact fun τ9 h9 => ⟨rfl, (er_we h9).trans ⟨fun q9 => Or.inl (by show ¬ fIC σ (E 1) 217 = 0; rw [← he0]; exact q9), fun q9 => q9.elim (fun q8 => by show ¬ fIC s0 (E 1) 217 = 0; rw [he0]; exact q8) (fun q8 => by omega)⟩, by rw [we_r h9, f58]; exact congrArg (opA B) (by omega), fun a9 l9 q9 => by rw [we_r h9]; exact hn0 a9 l9 q9⟩
      · have hx59 := opA_nn (f58.symm.trans h59)
        refine hB _ _ _ _ _ (fun m62 hm62 => ?_)
        dsimp only [ucgo, ucwp, ucsC, uqC, uoC, ctC, rfd, KX3_judgeJump, KX3_judgeJump_0, KX3_judgeJump_5, KX3_judgeJump_9, KX3_judgeJump_16, KX3_judgeJump_23, KX3_judgeJump_30, KX3_judgeJump_39, KX3_judgeJump_48, KX3_judgeJump_56, KX3_judgeJump_65, KX3_judgeJump_80, KX3_judgeJump_85, KX3_judgeJump_93, KX3_judgeJump_102, KX3_judgeJump_109, KX3_judgeJump_121, KX3_judgeJump_134, KX3_judgeJump_141, KX3_judgeJump_145, KX3_judgeJump_146, KX3_judgeJump_149, KX3_judgeJump_156, KX3_judgeJump_169, KX3_judgeJump_176, KX3_judgeJump_180, KX3_judgeJump_183, lkC, s1C, s2C, dlC, kyC, Nat.beq, Nat.ble, rcd, rno, rsw, Nat.reduceAdd, Nat.reduceBEq, Nat.reduceDiv, List.drop, List.take, List.reverse, List.reverseAux, Int.toNat, Option.toList, List.append, List.cons_append, List.nil_append, zg121, zg270, zg271, zg273, zg276, zg280, zg281]
        intro a63 e63 ob63
        cases e63
        have c65 : (Int32.ofInt 9).toInt = 9 := by decide
        intro a66 e66 ob66
        cases e66
        have f67 : (fIC s0 p1 280).toInt = ljS z j := op_0.1.2.2.2.2.2.2
        refine ⟨fun h68 => ?_, fun h68 => ?_⟩
        · have g68 := leI (x := 0) (y := (fIC s0 p1 280)) h68
          have z0_ : (0 : Int32).toInt = 0 := rfl
          refine hB _ _ _ _ _ (fun m69 hm69 => ?_)
          dsimp only [ucgo, ucwp, ucsC, uqC, uoC, ctC, rfd, KX3_judgeJump, KX3_judgeJump_0, KX3_judgeJump_5, KX3_judgeJump_9, KX3_judgeJump_16, KX3_judgeJump_23, KX3_judgeJump_30, KX3_judgeJump_39, KX3_judgeJump_48, KX3_judgeJump_56, KX3_judgeJump_65, KX3_judgeJump_80, KX3_judgeJump_85, KX3_judgeJump_93, KX3_judgeJump_102, KX3_judgeJump_109, KX3_judgeJump_121, KX3_judgeJump_134, KX3_judgeJump_141, KX3_judgeJump_145, KX3_judgeJump_146, KX3_judgeJump_149, KX3_judgeJump_156, KX3_judgeJump_169, KX3_judgeJump_176, KX3_judgeJump_180, KX3_judgeJump_183, lkC, s1C, s2C, dlC, kyC, Nat.beq, Nat.ble, rcd, rno, rsw, Nat.reduceAdd, Nat.reduceBEq, Nat.reduceDiv, List.drop, List.take, List.reverse, List.reverseAux, Int.toNat, Option.toList, List.append, List.cons_append, List.nil_append, zg121, zg270, zg271, zg273, zg276, zg280, zg281]
          intro a70 e70 ob70
          cases e70
          have f71 : (fIC s0 p1 280).toInt = ljS z j := op_0.1.2.2.2.2.2.2
          refine hB _ _ _ _ _ (fun m72 hm72 => ?_)
          dsimp only [ucgo, ucwp, ucsC, uqC, uoC, ctC, rfd, KX3_judgeJump, KX3_judgeJump_0, KX3_judgeJump_5, KX3_judgeJump_9, KX3_judgeJump_16, KX3_judgeJump_23, KX3_judgeJump_30, KX3_judgeJump_39, KX3_judgeJump_48, KX3_judgeJump_56, KX3_judgeJump_65, KX3_judgeJump_80, KX3_judgeJump_85, KX3_judgeJump_93, KX3_judgeJump_102, KX3_judgeJump_109, KX3_judgeJump_121, KX3_judgeJump_134, KX3_judgeJump_141, KX3_judgeJump_145, KX3_judgeJump_146, KX3_judgeJump_149, KX3_judgeJump_156, KX3_judgeJump_169, KX3_judgeJump_176, KX3_judgeJump_180, KX3_judgeJump_183, lkC, s1C, s2C, dlC, kyC, Nat.beq, Nat.ble, rcd, rno, rsw, Nat.reduceAdd, Nat.reduceBEq, Nat.reduceDiv, List.drop, List.take, List.reverse, List.reverseAux, Int.toNat, Option.toList, List.append, List.cons_append, List.nil_append, zg121, zg270, zg271, zg273, zg276, zg280, zg281]
          rw [hNm_0.1.1]
          try dsimp only
          intro w73 τ73 o73 q73
          obtain ⟨rfl, hb73⟩ := q73 (N, E, A, B, V, z) ⟨_, _, rfl, by omega⟩
          have hF73 : FrE [217, 218, 281] σ τ73 := hF0.tr (o73.2.mo rfl)
          have hSs_73 := SsC.fr hSs hF73 rfl
          have hNm_73 := NmC.fr hNm hF73 rfl
          have op_73 : SlC A B τ73 z j p1 ∧ p1 < cnC τ73 := by rw [hp]; exact hSs_73.1 j hj
          try dsimp only [Option.toList, List.cons_append, List.nil_append, s1C, s2C, dlC, kyC, Nat.beq, lkC, rcd, rno, rsw]
          refine hB _ _ _ _ _ (fun m74 hm74 => ?_)
          dsimp only [ucgo, ucwp, ucsC, uqC, uoC, ctC, rfd, KX3_judgeJump, KX3_judgeJump_0, KX3_judgeJump_5, KX3_judgeJump_9, KX3_judgeJump_16, KX3_judgeJump_23, KX3_judgeJump_30, KX3_judgeJump_39, KX3_judgeJump_48, KX3_judgeJump_56, KX3_judgeJump_65, KX3_judgeJump_80, KX3_judgeJump_85, KX3_judgeJump_93, KX3_judgeJump_102, KX3_judgeJump_109, KX3_judgeJump_121, KX3_judgeJump_134, KX3_judgeJump_141, KX3_judgeJump_145, KX3_judgeJump_146, KX3_judgeJump_149, KX3_judgeJump_156, KX3_judgeJump_169, KX3_judgeJump_176, KX3_judgeJump_180, KX3_judgeJump_183, lkC, s1C, s2C, dlC, kyC, Nat.beq, Nat.ble, rcd, rno, rsw, Nat.reduceAdd, Nat.reduceBEq, Nat.reduceDiv, List.drop, List.take, List.reverse, List.reverseAux, Int.toNat, Option.toList, List.append, List.cons_append, List.nil_append, zg121, zg270, zg271, zg273, zg276, zg280, zg281]
          try dsimp only [Qz_judgeJump]
          exact fun τ9 h9 => ⟨rfl, (er_we h9).trans (iff_of_true hb73 (Or.inr (by omega))), by rw [we_r h9, opA_n (by omega)]; exact ((o73.2.2 rfl p1 (Nat.lt_of_lt_of_le op.2 hF0.1)).1 281 rfl).2.2.trans h59, fun a9 l9 q9 => by rw [we_r h9]; exact (((o73.2.2 rfl a9 (Nat.lt_of_lt_of_le l9 hF0.1)).1 281 rfl).2.2).trans (hn0 a9 l9 q9)⟩
        · have g68 := nleI (x := 0) (y := (fIC s0 p1 280)) h68
          have z0_ : (0 : Int32).toInt = 0 := rfl
          refine hB _ _ _ _ _ (fun m75 hm75 => ?_)
          dsimp only [ucgo, ucwp, ucsC, uqC, uoC, ctC, rfd, KX3_judgeJump, KX3_judgeJump_0, KX3_judgeJump_5, KX3_judgeJump_9, KX3_judgeJump_16, KX3_judgeJump_23, KX3_judgeJump_30, KX3_judgeJump_39, KX3_judgeJump_48, KX3_judgeJump_56, KX3_judgeJump_65, KX3_judgeJump_80, KX3_judgeJump_85, KX3_judgeJump_93, KX3_judgeJump_102, KX3_judgeJump_109, KX3_judgeJump_121, KX3_judgeJump_134, KX3_judgeJump_141, KX3_judgeJump_145, KX3_judgeJump_146, KX3_judgeJump_149, KX3_judgeJump_156, KX3_judgeJump_169, KX3_judgeJump_176, KX3_judgeJump_180, KX3_judgeJump_183, lkC, s1C, s2C, dlC, kyC, Nat.beq, Nat.ble, rcd, rno, rsw, Nat.reduceAdd, Nat.reduceBEq, Nat.reduceDiv, List.drop, List.take, List.reverse, List.reverseAux, Int.toNat, Option.toList, List.append, List.cons_append, List.nil_append, zg121, zg270, zg271, zg273, zg276, zg280, zg281]
          intro a76 e76 ob76
          cases e76
          have f77 : (fIC s0 p1 271).toInt = fiS z j := op_0.1.1.2.1
          refine hB _ _ _ _ _ (fun m78 hm78 => ?_)
          dsimp only [ucgo, ucwp, ucsC, uqC, uoC, ctC, rfd, KX3_judgeJump, KX3_judgeJump_0, KX3_judgeJump_5, KX3_judgeJump_9, KX3_judgeJump_16, KX3_judgeJump_23, KX3_judgeJump_30, KX3_judgeJump_39, KX3_judgeJump_48, KX3_judgeJump_56, KX3_judgeJump_65, KX3_judgeJump_80, KX3_judgeJump_85, KX3_judgeJump_93, KX3_judgeJump_102, KX3_judgeJump_109, KX3_judgeJump_121, KX3_judgeJump_134, KX3_judgeJump_141, KX3_judgeJump_145, KX3_judgeJump_146, KX3_judgeJump_149, KX3_judgeJump_156, KX3_judgeJump_169, KX3_judgeJump_176, KX3_judgeJump_180, KX3_judgeJump_183, lkC, s1C, s2C, dlC, kyC, Nat.beq, Nat.ble, rcd, rno, rsw, Nat.reduceAdd, Nat.reduceBEq, Nat.reduceDiv, List.drop, List.take, List.reverse, List.reverseAux, Int.toNat, Option.toList, List.append, List.cons_append, List.nil_append, zg121, zg270, zg271, zg273, zg276, zg280, zg281]
          rw [hNm_0.1.1]
          try dsimp only
          intro w79 τ79 o79 q79
          obtain ⟨rfl, hb79⟩ := q79 (N, E, A, B, V, z) ⟨_, _, rfl, by omega⟩
          have hF79 : FrE [217, 218, 281] σ τ79 := hF0.tr (o79.2.mo rfl)
          have hSs_79 := SsC.fr hSs hF79 rfl
          have hNm_79 := NmC.fr hNm hF79 rfl
          have op_79 : SlC A B τ79 z j p1 ∧ p1 < cnC τ79 := by rw [hp]; exact hSs_79.1 j hj
          try dsimp only [Option.toList, List.cons_append, List.nil_append, s1C, s2C, dlC, kyC, Nat.beq, lkC, rcd, rno, rsw]
          refine hB _ _ _ _ _ (fun m80 hm80 => ?_)
          dsimp only [ucgo, ucwp, ucsC, uqC, uoC, ctC, rfd, KX3_judgeJump, KX3_judgeJump_0, KX3_judgeJump_5, KX3_judgeJump_9, KX3_judgeJump_16, KX3_judgeJump_23, KX3_judgeJump_30, KX3_judgeJump_39, KX3_judgeJump_48, KX3_judgeJump_56, KX3_judgeJump_65, KX3_judgeJump_80, KX3_judgeJump_85, KX3_judgeJump_93, KX3_judgeJump_102, KX3_judgeJump_109, KX3_judgeJump_121, KX3_judgeJump_134, KX3_judgeJump_141, KX3_judgeJump_145, KX3_judgeJump_146, KX3_judgeJump_149, KX3_judgeJump_156, KX3_judgeJump_169, KX3_judgeJump_176, KX3_judgeJump_180, KX3_judgeJump_183, lkC, s1C, s2C, dlC, kyC, Nat.beq, Nat.ble, rcd, rno, rsw, Nat.reduceAdd, Nat.reduceBEq, Nat.reduceDiv, List.drop, List.take, List.reverse, List.reverseAux, Int.toNat, Option.toList, List.append, List.cons_append, List.nil_append, zg121, zg270, zg271, zg273, zg276, zg280, zg281]
          try dsimp only [Qz_judgeJump]
          exact fun τ9 h9 => ⟨rfl, (er_we h9).trans (iff_of_true hb79 (Or.inr (by omega))), by rw [we_r h9, opA_n (by omega)]; exact ((o79.2.2 rfl p1 (Nat.lt_of_lt_of_le op.2 hF0.1)).1 281 rfl).2.2.trans h59, fun a9 l9 q9 => by rw [we_r h9]; exact (((o79.2.2 rfl a9 (Nat.lt_of_lt_of_le l9 hF0.1)).1 281 rfl).2.2).trans (hn0 a9 l9 q9)⟩
    · have g55 := (eqI (x := (fIC s0 p1 270)) (y := (Int32.ofInt 65)) h55 : ((fIC s0 p1 270) : Int32).toInt = ((Int32.ofInt 65) : Int32).toInt)
      refine hB _ _ _ _ _ (fun m81 hm81 => ?_)
      dsimp only [ucgo, ucwp, ucsC, uqC, uoC, ctC, rfd, KX3_judgeJump, KX3_judgeJump_0, KX3_judgeJump_5, KX3_judgeJump_9, KX3_judgeJump_16, KX3_judgeJump_23, KX3_judgeJump_30, KX3_judgeJump_39, KX3_judgeJump_48, KX3_judgeJump_56, KX3_judgeJump_65, KX3_judgeJump_80, KX3_judgeJump_85, KX3_judgeJump_93, KX3_judgeJump_102, KX3_judgeJump_109, KX3_judgeJump_121, KX3_judgeJump_134, KX3_judgeJump_141, KX3_judgeJump_145, KX3_judgeJump_146, KX3_judgeJump_149, KX3_judgeJump_156, KX3_judgeJump_169, KX3_judgeJump_176, KX3_judgeJump_180, KX3_judgeJump_183, lkC, s1C, s2C, dlC, kyC, Nat.beq, Nat.ble, rcd, rno, rsw, Nat.reduceAdd, Nat.reduceBEq, Nat.reduceDiv, List.drop, List.take, List.reverse, List.reverseAux, Int.toNat, Option.toList, List.append, List.cons_append, List.nil_append, zg121, zg270, zg271, zg273, zg276, zg280, zg281]
      intro a82 e82 ob82
      cases e82
      have f83 : (fRC s0 p1 281) = opA B (y9) := h281y
      refine ⟨fun h84 => ?_, fun b84 h84 => ?_⟩
      · have hx84 := opA_nn (f83.symm.trans h84)
        have hRR : tjT N z j = y9 := hR.trans (rs_neg (by assumption))
        refine hB _ _ _ _ _ (fun m85 hm85 => ?_)
        dsimp only [ucgo, ucwp, ucsC, uqC, uoC, ctC, rfd, KX3_judgeJump, KX3_judgeJump_0, KX3_judgeJump_5, KX3_judgeJump_9, KX3_judgeJump_16, KX3_judgeJump_23, KX3_judgeJump_30, KX3_judgeJump_39, KX3_judgeJump_48, KX3_judgeJump_56, KX3_judgeJump_65, KX3_judgeJump_80, KX3_judgeJump_85, KX3_judgeJump_93, KX3_judgeJump_102, KX3_judgeJump_109, KX3_judgeJump_121, KX3_judgeJump_134, KX3_judgeJump_141, KX3_judgeJump_145, KX3_judgeJump_146, KX3_judgeJump_149, KX3_judgeJump_156, KX3_judgeJump_169, KX3_judgeJump_176, KX3_judgeJump_180, KX3_judgeJump_183, lkC, s1C, s2C, dlC, kyC, Nat.beq, Nat.ble, rcd, rno, rsw, Nat.reduceAdd, Nat.reduceBEq, Nat.reduceDiv, List.drop, List.take, List.reverse, List.reverseAux, Int.toNat, Option.toList, List.append, List.cons_append, List.nil_append, zg121, zg270, zg271, zg273, zg276, zg280, zg281]
        intro a86 e86 ob86
        cases e86
        have f87 : (fRC s0 p1 281) = opA B (y9) := h281y
        refine ⟨fun b88 h88 => ?_, fun h88 => ?_⟩
        · obtain ⟨j88, hj88, hb88⟩ := opA_j (f87.symm.trans h88)
          have hl88 : j88 < snM z := by omega
          have o89_0 := hSs_0.1 j88 hl88
          refine hB _ _ _ _ _ (fun m90 hm90 => ?_)
          dsimp only [ucgo, ucwp, ucsC, uqC, uoC, ctC, rfd, KX3_judgeJump, KX3_judgeJump_0, KX3_judgeJump_5, KX3_judgeJump_9, KX3_judgeJump_16, KX3_judgeJump_23, KX3_judgeJump_30, KX3_judgeJump_39, KX3_judgeJump_48, KX3_judgeJump_56, KX3_judgeJump_65, KX3_judgeJump_80, KX3_judgeJump_85, KX3_judgeJump_93, KX3_judgeJump_102, KX3_judgeJump_109, KX3_judgeJump_121, KX3_judgeJump_134, KX3_judgeJump_141, KX3_judgeJump_145, KX3_judgeJump_146, KX3_judgeJump_149, KX3_judgeJump_156, KX3_judgeJump_169, KX3_judgeJump_176, KX3_judgeJump_180, KX3_judgeJump_183, lkC, s1C, s2C, dlC, kyC, Nat.beq, Nat.ble, rcd, rno, rsw, Nat.reduceAdd, Nat.reduceBEq, Nat.reduceDiv, List.drop, List.take, List.reverse, List.reverseAux, Int.toNat, Option.toList, List.append, List.cons_append, List.nil_append, zg121, zg270, zg271, zg273, zg276, zg280, zg281]
          try dsimp only [Qz_judgeJump]
          exact fun τ9 h9 => ⟨rfl, (er_we h9).trans ⟨fun q9 => Or.inl (by show ¬ fIC σ (E 1) 217 = 0; rw [← he0]; exact q9), fun q9 => q9.elim (fun q8 => by show ¬ fIC s0 (E 1) 217 = 0; rw [he0]; exact q8) (fun q8 => by omega)⟩, by rw [we_r h9, f87]; exact congrArg (opA B) (by omega), fun a9 l9 q9 => by rw [we_r h9]; exact hn0 a9 l9 q9⟩
        · have hx88 := opA_nn (f87.symm.trans h88)
          refine hB _ _ _ _ _ (fun m91 hm91 => ?_)
          dsimp only [ucgo, ucwp, ucsC, uqC, uoC, ctC, rfd, KX3_judgeJump, KX3_judgeJump_0, KX3_judgeJump_5, KX3_judgeJump_9, KX3_judgeJump_16, KX3_judgeJump_23, KX3_judgeJump_30, KX3_judgeJump_39, KX3_judgeJump_48, KX3_judgeJump_56, KX3_judgeJump_65, KX3_judgeJump_80, KX3_judgeJump_85, KX3_judgeJump_93, KX3_judgeJump_102, KX3_judgeJump_109, KX3_judgeJump_121, KX3_judgeJump_134, KX3_judgeJump_141, KX3_judgeJump_145, KX3_judgeJump_146, KX3_judgeJump_149, KX3_judgeJump_156, KX3_judgeJump_169, KX3_judgeJump_176, KX3_judgeJump_180, KX3_judgeJump_183, lkC, s1C, s2C, dlC, kyC, Nat.beq, Nat.ble, rcd, rno, rsw, Nat.reduceAdd, Nat.reduceBEq, Nat.reduceDiv, List.drop, List.take, List.reverse, List.reverseAux, Int.toNat, Option.toList, List.append, List.cons_append, List.nil_append, zg121, zg270, zg271, zg273, zg276, zg280, zg281]
          intro a92 e92 ob92
          cases e92
          have c94 : (Int32.ofInt 9).toInt = 9 := by decide
          intro a95 e95 ob95
          cases e95
          have f96 : (fIC s0 p1 280).toInt = ljS z j := op_0.1.2.2.2.2.2.2
          refine ⟨fun h97 => ?_, fun h97 => ?_⟩
          · have g97 := leI (x := 0) (y := (fIC s0 p1 280)) h97
            have z0_ : (0 : Int32).toInt = 0 := rfl
            refine hB _ _ _ _ _ (fun m98 hm98 => ?_)
            dsimp only [ucgo, ucwp, ucsC, uqC, uoC, ctC, rfd, KX3_judgeJump, KX3_judgeJump_0, KX3_judgeJump_5, KX3_judgeJump_9, KX3_judgeJump_16, KX3_judgeJump_23, KX3_judgeJump_30, KX3_judgeJump_39, KX3_judgeJump_48, KX3_judgeJump_56, KX3_judgeJump_65, KX3_judgeJump_80, KX3_judgeJump_85, KX3_judgeJump_93, KX3_judgeJump_102, KX3_judgeJump_109, KX3_judgeJump_121, KX3_judgeJump_134, KX3_judgeJump_141, KX3_judgeJump_145, KX3_judgeJump_146, KX3_judgeJump_149, KX3_judgeJump_156, KX3_judgeJump_169, KX3_judgeJump_176, KX3_judgeJump_180, KX3_judgeJump_183, lkC, s1C, s2C, dlC, kyC, Nat.beq, Nat.ble, rcd, rno, rsw, Nat.reduceAdd, Nat.reduceBEq, Nat.reduceDiv, List.drop, List.take, List.reverse, List.reverseAux, Int.toNat, Option.toList, List.append, List.cons_append, List.nil_append, zg121, zg270, zg271, zg273, zg276, zg280, zg281]
            intro a99 e99 ob99
            cases e99
            have f100 : (fIC s0 p1 280).toInt = ljS z j := op_0.1.2.2.2.2.2.2
            refine hB _ _ _ _ _ (fun m101 hm101 => ?_)
            dsimp only [ucgo, ucwp, ucsC, uqC, uoC, ctC, rfd, KX3_judgeJump, KX3_judgeJump_0, KX3_judgeJump_5, KX3_judgeJump_9, KX3_judgeJump_16, KX3_judgeJump_23, KX3_judgeJump_30, KX3_judgeJump_39, KX3_judgeJump_48, KX3_judgeJump_56, KX3_judgeJump_65, KX3_judgeJump_80, KX3_judgeJump_85, KX3_judgeJump_93, KX3_judgeJump_102, KX3_judgeJump_109, KX3_judgeJump_121, KX3_judgeJump_134, KX3_judgeJump_141, KX3_judgeJump_145, KX3_judgeJump_146, KX3_judgeJump_149, KX3_judgeJump_156, KX3_judgeJump_169, KX3_judgeJump_176, KX3_judgeJump_180, KX3_judgeJump_183, lkC, s1C, s2C, dlC, kyC, Nat.beq, Nat.ble, rcd, rno, rsw, Nat.reduceAdd, Nat.reduceBEq, Nat.reduceDiv, List.drop, List.take, List.reverse, List.reverseAux, Int.toNat, Option.toList, List.append, List.cons_append, List.nil_append, zg121, zg270, zg271, zg273, zg276, zg280, zg281]
            rw [hNm_0.1.1]
            try dsimp only
            intro w102 τ102 o102 q102
            obtain ⟨rfl, hb102⟩ := q102 (N, E, A, B, V, z) ⟨_, _, rfl, by omega⟩
            have hF102 : FrE [217, 218, 281] σ τ102 := hF0.tr (o102.2.mo rfl)
            have hSs_102 := SsC.fr hSs hF102 rfl
            have hNm_102 := NmC.fr hNm hF102 rfl
            have op_102 : SlC A B τ102 z j p1 ∧ p1 < cnC τ102 := by rw [hp]; exact hSs_102.1 j hj
            try dsimp only [Option.toList, List.cons_append, List.nil_append, s1C, s2C, dlC, kyC, Nat.beq, lkC, rcd, rno, rsw]
            refine hB _ _ _ _ _ (fun m103 hm103 => ?_)
            dsimp only [ucgo, ucwp, ucsC, uqC, uoC, ctC, rfd, KX3_judgeJump, KX3_judgeJump_0, KX3_judgeJump_5, KX3_judgeJump_9, KX3_judgeJump_16, KX3_judgeJump_23, KX3_judgeJump_30, KX3_judgeJump_39, KX3_judgeJump_48, KX3_judgeJump_56, KX3_judgeJump_65, KX3_judgeJump_80, KX3_judgeJump_85, KX3_judgeJump_93, KX3_judgeJump_102, KX3_judgeJump_109, KX3_judgeJump_121, KX3_judgeJump_134, KX3_judgeJump_141, KX3_judgeJump_145, KX3_judgeJump_146, KX3_judgeJump_149, KX3_judgeJump_156, KX3_judgeJump_169, KX3_judgeJump_176, KX3_judgeJump_180, KX3_judgeJump_183, lkC, s1C, s2C, dlC, kyC, Nat.beq, Nat.ble, rcd, rno, rsw, Nat.reduceAdd, Nat.reduceBEq, Nat.reduceDiv, List.drop, List.take, List.reverse, List.reverseAux, Int.toNat, Option.toList, List.append, List.cons_append, List.nil_append, zg121, zg270, zg271, zg273, zg276, zg280, zg281]
            try dsimp only [Qz_judgeJump]
            exact fun τ9 h9 => ⟨rfl, (er_we h9).trans (iff_of_true hb102 (Or.inr (by omega))), by rw [we_r h9, opA_n (by omega)]; exact ((o102.2.2 rfl p1 (Nat.lt_of_lt_of_le op.2 hF0.1)).1 281 rfl).2.2.trans h88, fun a9 l9 q9 => by rw [we_r h9]; exact (((o102.2.2 rfl a9 (Nat.lt_of_lt_of_le l9 hF0.1)).1 281 rfl).2.2).trans (hn0 a9 l9 q9)⟩
          · have g97 := nleI (x := 0) (y := (fIC s0 p1 280)) h97
            have z0_ : (0 : Int32).toInt = 0 := rfl
            refine hB _ _ _ _ _ (fun m104 hm104 => ?_)
            dsimp only [ucgo, ucwp, ucsC, uqC, uoC, ctC, rfd, KX3_judgeJump, KX3_judgeJump_0, KX3_judgeJump_5, KX3_judgeJump_9, KX3_judgeJump_16, KX3_judgeJump_23, KX3_judgeJump_30, KX3_judgeJump_39, KX3_judgeJump_48, KX3_judgeJump_56, KX3_judgeJump_65, KX3_judgeJump_80, KX3_judgeJump_85, KX3_judgeJump_93, KX3_judgeJump_102, KX3_judgeJump_109, KX3_judgeJump_121, KX3_judgeJump_134, KX3_judgeJump_141, KX3_judgeJump_145, KX3_judgeJump_146, KX3_judgeJump_149, KX3_judgeJump_156, KX3_judgeJump_169, KX3_judgeJump_176, KX3_judgeJump_180, KX3_judgeJump_183, lkC, s1C, s2C, dlC, kyC, Nat.beq, Nat.ble, rcd, rno, rsw, Nat.reduceAdd, Nat.reduceBEq, Nat.reduceDiv, List.drop, List.take, List.reverse, List.reverseAux, Int.toNat, Option.toList, List.append, List.cons_append, List.nil_append, zg121, zg270, zg271, zg273, zg276, zg280, zg281]
            intro a105 e105 ob105
            cases e105
            have f106 : (fIC s0 p1 271).toInt = fiS z j := op_0.1.1.2.1
            refine hB _ _ _ _ _ (fun m107 hm107 => ?_)
            dsimp only [ucgo, ucwp, ucsC, uqC, uoC, ctC, rfd, KX3_judgeJump, KX3_judgeJump_0, KX3_judgeJump_5, KX3_judgeJump_9, KX3_judgeJump_16, KX3_judgeJump_23, KX3_judgeJump_30, KX3_judgeJump_39, KX3_judgeJump_48, KX3_judgeJump_56, KX3_judgeJump_65, KX3_judgeJump_80, KX3_judgeJump_85, KX3_judgeJump_93, KX3_judgeJump_102, KX3_judgeJump_109, KX3_judgeJump_121, KX3_judgeJump_134, KX3_judgeJump_141, KX3_judgeJump_145, KX3_judgeJump_146, KX3_judgeJump_149, KX3_judgeJump_156, KX3_judgeJump_169, KX3_judgeJump_176, KX3_judgeJump_180, KX3_judgeJump_183, lkC, s1C, s2C, dlC, kyC, Nat.beq, Nat.ble, rcd, rno, rsw, Nat.reduceAdd, Nat.reduceBEq, Nat.reduceDiv, List.drop, List.take, List.reverse, List.reverseAux, Int.toNat, Option.toList, List.append, List.cons_append, List.nil_append, zg121, zg270, zg271, zg273, zg276, zg280, zg281]
            rw [hNm_0.1.1]
            try dsimp only
            intro w108 τ108 o108 q108
            obtain ⟨rfl, hb108⟩ := q108 (N, E, A, B, V, z) ⟨_, _, rfl, by omega⟩
            have hF108 : FrE [217, 218, 281] σ τ108 := hF0.tr (o108.2.mo rfl)
            have hSs_108 := SsC.fr hSs hF108 rfl
            have hNm_108 := NmC.fr hNm hF108 rfl
            have op_108 : SlC A B τ108 z j p1 ∧ p1 < cnC τ108 := by rw [hp]; exact hSs_108.1 j hj
            try dsimp only [Option.toList, List.cons_append, List.nil_append, s1C, s2C, dlC, kyC, Nat.beq, lkC, rcd, rno, rsw]
            refine hB _ _ _ _ _ (fun m109 hm109 => ?_)
            dsimp only [ucgo, ucwp, ucsC, uqC, uoC, ctC, rfd, KX3_judgeJump, KX3_judgeJump_0, KX3_judgeJump_5, KX3_judgeJump_9, KX3_judgeJump_16, KX3_judgeJump_23, KX3_judgeJump_30, KX3_judgeJump_39, KX3_judgeJump_48, KX3_judgeJump_56, KX3_judgeJump_65, KX3_judgeJump_80, KX3_judgeJump_85, KX3_judgeJump_93, KX3_judgeJump_102, KX3_judgeJump_109, KX3_judgeJump_121, KX3_judgeJump_134, KX3_judgeJump_141, KX3_judgeJump_145, KX3_judgeJump_146, KX3_judgeJump_149, KX3_judgeJump_156, KX3_judgeJump_169, KX3_judgeJump_176, KX3_judgeJump_180, KX3_judgeJump_183, lkC, s1C, s2C, dlC, kyC, Nat.beq, Nat.ble, rcd, rno, rsw, Nat.reduceAdd, Nat.reduceBEq, Nat.reduceDiv, List.drop, List.take, List.reverse, List.reverseAux, Int.toNat, Option.toList, List.append, List.cons_append, List.nil_append, zg121, zg270, zg271, zg273, zg276, zg280, zg281]
            try dsimp only [Qz_judgeJump]
            exact fun τ9 h9 => ⟨rfl, (er_we h9).trans (iff_of_true hb108 (Or.inr (by omega))), by rw [we_r h9, opA_n (by omega)]; exact ((o108.2.2 rfl p1 (Nat.lt_of_lt_of_le op.2 hF0.1)).1 281 rfl).2.2.trans h88, fun a9 l9 q9 => by rw [we_r h9]; exact (((o108.2.2 rfl a9 (Nat.lt_of_lt_of_le l9 hF0.1)).1 281 rfl).2.2).trans (hn0 a9 l9 q9)⟩
      · obtain ⟨j84, hj84, hb84⟩ := opA_j (f83.symm.trans h84)
        have hl84 : j84 < snM z := by omega
        have o110_0 := hSs_0.1 j84 hl84
        refine hB _ _ _ _ _ (fun m111 hm111 => ?_)
        dsimp only [ucgo, ucwp, ucsC, uqC, uoC, ctC, rfd, KX3_judgeJump, KX3_judgeJump_0, KX3_judgeJump_5, KX3_judgeJump_9, KX3_judgeJump_16, KX3_judgeJump_23, KX3_judgeJump_30, KX3_judgeJump_39, KX3_judgeJump_48, KX3_judgeJump_56, KX3_judgeJump_65, KX3_judgeJump_80, KX3_judgeJump_85, KX3_judgeJump_93, KX3_judgeJump_102, KX3_judgeJump_109, KX3_judgeJump_121, KX3_judgeJump_134, KX3_judgeJump_141, KX3_judgeJump_145, KX3_judgeJump_146, KX3_judgeJump_149, KX3_judgeJump_156, KX3_judgeJump_169, KX3_judgeJump_176, KX3_judgeJump_180, KX3_judgeJump_183, lkC, s1C, s2C, dlC, kyC, Nat.beq, Nat.ble, rcd, rno, rsw, Nat.reduceAdd, Nat.reduceBEq, Nat.reduceDiv, List.drop, List.take, List.reverse, List.reverseAux, Int.toNat, Option.toList, List.append, List.cons_append, List.nil_append, zg121, zg270, zg271, zg273, zg276, zg280, zg281]
        intro a112 e112 ob112
        cases e112
        have f113 : (fRC s0 p1 281) = opA B (y9) := h281y
        intro a114 e114 ob114
        obtain rfl : B j84 = a114 := Option.some.inj ((f113.trans (by rw [hj84, opA_k])).symm.trans e114)
        have f115 : (fIC s0 (B j84) 270).toInt = kjS z j84 := o110_0.1.1.1
        have c116 : (Int32.ofInt 6).toInt = 6 := by decide
        refine ⟨fun h117 => ?_, fun h117 => ?_⟩
        · have g117 := (neI (x := (fIC s0 (B j84) 270)) (y := (Int32.ofInt 6)) h117 : ¬ ((fIC s0 (B j84) 270) : Int32).toInt = ((Int32.ofInt 6) : Int32).toInt)
          have hRR : tjT N z j = y9 := hR.trans (by rw [hj84]; exact rs_lp (by omega))
          refine hB _ _ _ _ _ (fun m118 hm118 => ?_)
          dsimp only [ucgo, ucwp, ucsC, uqC, uoC, ctC, rfd, KX3_judgeJump, KX3_judgeJump_0, KX3_judgeJump_5, KX3_judgeJump_9, KX3_judgeJump_16, KX3_judgeJump_23, KX3_judgeJump_30, KX3_judgeJump_39, KX3_judgeJump_48, KX3_judgeJump_56, KX3_judgeJump_65, KX3_judgeJump_80, KX3_judgeJump_85, KX3_judgeJump_93, KX3_judgeJump_102, KX3_judgeJump_109, KX3_judgeJump_121, KX3_judgeJump_134, KX3_judgeJump_141, KX3_judgeJump_145, KX3_judgeJump_146, KX3_judgeJump_149, KX3_judgeJump_156, KX3_judgeJump_169, KX3_judgeJump_176, KX3_judgeJump_180, KX3_judgeJump_183, lkC, s1C, s2C, dlC, kyC, Nat.beq, Nat.ble, rcd, rno, rsw, Nat.reduceAdd, Nat.reduceBEq, Nat.reduceDiv, List.drop, List.take, List.reverse, List.reverseAux, Int.toNat, Option.toList, List.append, List.cons_append, List.nil_append, zg121, zg270, zg271, zg273, zg276, zg280, zg281]
          intro a119 e119 ob119
          cases e119
          have f120 : (fRC s0 p1 281) = opA B (y9) := h281y
          refine ⟨fun b121 h121 => ?_, fun h121 => ?_⟩
          · skip
            refine hB _ _ _ _ _ (fun m122 hm122 => ?_)
            dsimp only [ucgo, ucwp, ucsC, uqC, uoC, ctC, rfd, KX3_judgeJump, KX3_judgeJump_0, KX3_judgeJump_5, KX3_judgeJump_9, KX3_judgeJump_16, KX3_judgeJump_23, KX3_judgeJump_30, KX3_judgeJump_39, KX3_judgeJump_48, KX3_judgeJump_56, KX3_judgeJump_65, KX3_judgeJump_80, KX3_judgeJump_85, KX3_judgeJump_93, KX3_judgeJump_102, KX3_judgeJump_109, KX3_judgeJump_121, KX3_judgeJump_134, KX3_judgeJump_141, KX3_judgeJump_145, KX3_judgeJump_146, KX3_judgeJump_149, KX3_judgeJump_156, KX3_judgeJump_169, KX3_judgeJump_176, KX3_judgeJump_180, KX3_judgeJump_183, lkC, s1C, s2C, dlC, kyC, Nat.beq, Nat.ble, rcd, rno, rsw, Nat.reduceAdd, Nat.reduceBEq, Nat.reduceDiv, List.drop, List.take, List.reverse, List.reverseAux, Int.toNat, Option.toList, List.append, List.cons_append, List.nil_append, zg121, zg270, zg271, zg273, zg276, zg280, zg281]
            try dsimp only [Qz_judgeJump]
            exact fun τ9 h9 => ⟨rfl, (er_we h9).trans ⟨fun q9 => Or.inl (by show ¬ fIC σ (E 1) 217 = 0; rw [← he0]; exact q9), fun q9 => q9.elim (fun q8 => by show ¬ fIC s0 (E 1) 217 = 0; rw [he0]; exact q8) (fun q8 => by omega)⟩, by rw [we_r h9, f120]; exact congrArg (opA B) (by omega), fun a9 l9 q9 => by rw [we_r h9]; exact hn0 a9 l9 q9⟩
          · exact absurd ((f120.trans (by rw [hj84, opA_k])).symm.trans h121) (by intro q9; cases q9)
        · have g117 := (eqI (x := (fIC s0 (B j84) 270)) (y := (Int32.ofInt 6)) h117 : ((fIC s0 (B j84) 270) : Int32).toInt = ((Int32.ofInt 6) : Int32).toInt)
          refine hB _ _ _ _ _ (fun m123 hm123 => ?_)
          dsimp only [ucgo, ucwp, ucsC, uqC, uoC, ctC, rfd, KX3_judgeJump, KX3_judgeJump_0, KX3_judgeJump_5, KX3_judgeJump_9, KX3_judgeJump_16, KX3_judgeJump_23, KX3_judgeJump_30, KX3_judgeJump_39, KX3_judgeJump_48, KX3_judgeJump_56, KX3_judgeJump_65, KX3_judgeJump_80, KX3_judgeJump_85, KX3_judgeJump_93, KX3_judgeJump_102, KX3_judgeJump_109, KX3_judgeJump_121, KX3_judgeJump_134, KX3_judgeJump_141, KX3_judgeJump_145, KX3_judgeJump_146, KX3_judgeJump_149, KX3_judgeJump_156, KX3_judgeJump_169, KX3_judgeJump_176, KX3_judgeJump_180, KX3_judgeJump_183, lkC, s1C, s2C, dlC, kyC, Nat.beq, Nat.ble, rcd, rno, rsw, Nat.reduceAdd, Nat.reduceBEq, Nat.reduceDiv, List.drop, List.take, List.reverse, List.reverseAux, Int.toNat, Option.toList, List.append, List.cons_append, List.nil_append, zg121, zg270, zg271, zg273, zg276, zg280, zg281]
          intro a124 e124 ob124
          cases e124
          have f125 : (fRC s0 p1 281) = opA B (y9) := h281y
          intro a126 e126 ob126
          obtain rfl : B j84 = a126 := Option.some.inj ((f125.trans (by rw [hj84, opA_k])).symm.trans e126)
          have f127 : (fRC s0 (B j84) 276) = opA B (bjS z j84) := o110_0.1.2.2.1
          refine ⟨fun h128 => ?_, fun b128 h128 => ?_⟩
          · have hx128 := opA_nn (f127.symm.trans h128)
            have hb6 := (hwf j84 hl84).2.2 (by omega)
            exfalso
            omega
          · obtain ⟨j128, hj128, hb128⟩ := opA_j (f127.symm.trans h128)
            have hwx128 := (hwf j84 hl84).1
            have hl128 : j128 < snM z := by omega
            have o129_0 := hSs_0.1 j128 hl128
            have hb6 := (hwf j84 hl84).2.2 (by omega)
            have hb7 : j128 = j84 + 1 := by omega
            refine hB _ _ _ _ _ (fun m130 hm130 => ?_)
            dsimp only [ucgo, ucwp, ucsC, uqC, uoC, ctC, rfd, KX3_judgeJump, KX3_judgeJump_0, KX3_judgeJump_5, KX3_judgeJump_9, KX3_judgeJump_16, KX3_judgeJump_23, KX3_judgeJump_30, KX3_judgeJump_39, KX3_judgeJump_48, KX3_judgeJump_56, KX3_judgeJump_65, KX3_judgeJump_80, KX3_judgeJump_85, KX3_judgeJump_93, KX3_judgeJump_102, KX3_judgeJump_109, KX3_judgeJump_121, KX3_judgeJump_134, KX3_judgeJump_141, KX3_judgeJump_145, KX3_judgeJump_146, KX3_judgeJump_149, KX3_judgeJump_156, KX3_judgeJump_169, KX3_judgeJump_176, KX3_judgeJump_180, KX3_judgeJump_183, lkC, s1C, s2C, dlC, kyC, Nat.beq, Nat.ble, rcd, rno, rsw, Nat.reduceAdd, Nat.reduceBEq, Nat.reduceDiv, List.drop, List.take, List.reverse, List.reverseAux, Int.toNat, Option.toList, List.append, List.cons_append, List.nil_append, zg121, zg270, zg271, zg273, zg276, zg280, zg281]
            rw [(h128.trans (congrArg some hb128))]
            try dsimp only
            intro w131 τ131 o131 q131
            obtain ⟨r131, rfl, hr131, rfl⟩ := q131 (N, E, A, B, V, z) ⟨_, rfl⟩
            rw [o129_0.1.1.1] at hr131
            try dsimp only [Option.toList, List.cons_append, List.nil_append, s1C, s2C, dlC, kyC, Nat.beq, lkC, rcd, rno, rsw]
            refine ⟨fun h132 => ?_, fun h132 => ?_⟩
            · have g132 := (eqI (x := r131) (y := 0) h132 : (r131 : Int32).toInt = (0 : Int32).toInt)
              have z0_ : (0 : Int32).toInt = 0 := rfl
              refine hB _ _ _ _ _ (fun m133 hm133 => ?_)
              dsimp only [ucgo, ucwp, ucsC, uqC, uoC, ctC, rfd, KX3_judgeJump, KX3_judgeJump_0, KX3_judgeJump_5, KX3_judgeJump_9, KX3_judgeJump_16, KX3_judgeJump_23, KX3_judgeJump_30, KX3_judgeJump_39, KX3_judgeJump_48, KX3_judgeJump_56, KX3_judgeJump_65, KX3_judgeJump_80, KX3_judgeJump_85, KX3_judgeJump_93, KX3_judgeJump_102, KX3_judgeJump_109, KX3_judgeJump_121, KX3_judgeJump_134, KX3_judgeJump_141, KX3_judgeJump_145, KX3_judgeJump_146, KX3_judgeJump_149, KX3_judgeJump_156, KX3_judgeJump_169, KX3_judgeJump_176, KX3_judgeJump_180, KX3_judgeJump_183, lkC, s1C, s2C, dlC, kyC, Nat.beq, Nat.ble, rcd, rno, rsw, Nat.reduceAdd, Nat.reduceBEq, Nat.reduceDiv, List.drop, List.take, List.reverse, List.reverseAux, Int.toNat, Option.toList, List.append, List.cons_append, List.nil_append, zg121, zg270, zg271, zg273, zg276, zg280, zg281]
              refine hB _ _ _ _ _ (fun m134 hm134 => ?_)
              dsimp only [ucgo, ucwp, ucsC, uqC, uoC, ctC, rfd, KX3_judgeJump, KX3_judgeJump_0, KX3_judgeJump_5, KX3_judgeJump_9, KX3_judgeJump_16, KX3_judgeJump_23, KX3_judgeJump_30, KX3_judgeJump_39, KX3_judgeJump_48, KX3_judgeJump_56, KX3_judgeJump_65, KX3_judgeJump_80, KX3_judgeJump_85, KX3_judgeJump_93, KX3_judgeJump_102, KX3_judgeJump_109, KX3_judgeJump_121, KX3_judgeJump_134, KX3_judgeJump_141, KX3_judgeJump_145, KX3_judgeJump_146, KX3_judgeJump_149, KX3_judgeJump_156, KX3_judgeJump_169, KX3_judgeJump_176, KX3_judgeJump_180, KX3_judgeJump_183, lkC, s1C, s2C, dlC, kyC, Nat.beq, Nat.ble, rcd, rno, rsw, Nat.reduceAdd, Nat.reduceBEq, Nat.reduceDiv, List.drop, List.take, List.reverse, List.reverseAux, Int.toNat, Option.toList, List.append, List.cons_append, List.nil_append, zg121, zg270, zg271, zg273, zg276, zg280, zg281]
              intro a135 e135 ob135 fk135
              cases e135
              clear fk135 ob135
              generalize hs135 : pRC s0 p1 281 none = s135
              have hF135 : FrE [217, 218, 281] σ s135 := FrE.pR2 hF0 (by decide) hs135
              have he135 : fIC s135 (E 1) 217 = fIC σ (E 1) 217 := (erx_pR hs135).trans he0
              have hn135 : ∀ a, a < cnC σ → a ≠ p1 → fRC s135 a 281 = fRC σ a 281 := fun a9 l9 q9 => (pRx_n hs135 q9).trans (hn0 a9 l9 q9)
              have hSs_135 := SsC.fr hSs hF135 rfl
              have hNm_135 := NmC.fr hNm hF135 rfl
              have op_135 : SlC A B s135 z j p1 ∧ p1 < cnC s135 := by rw [hp]; exact hSs_135.1 j hj
              have o110_135 := hSs_135.1 j84 hl84
              have o129_135 := hSs_135.1 j128 hl128
              have hRR : tjT N z j = -1 := by
                rw [hR, hj84]
                unfold rsT
                rw [if_pos ⟨decide_eq_true (by omega), by omega, by rw [Int.toNat_natCast]; omega⟩, Int.toNat_natCast, ← hb7]
                rw [if_neg (by rcases hr131 with q8 | q8; exact absurd q8.1 (by omega); exact q8.2)]
              refine hB _ _ _ _ _ (fun m136 hm136 => ?_)
              dsimp only [ucgo, ucwp, ucsC, uqC, uoC, ctC, rfd, KX3_judgeJump, KX3_judgeJump_0, KX3_judgeJump_5, KX3_judgeJump_9, KX3_judgeJump_16, KX3_judgeJump_23, KX3_judgeJump_30, KX3_judgeJump_39, KX3_judgeJump_48, KX3_judgeJump_56, KX3_judgeJump_65, KX3_judgeJump_80, KX3_judgeJump_85, KX3_judgeJump_93, KX3_judgeJump_102, KX3_judgeJump_109, KX3_judgeJump_121, KX3_judgeJump_134, KX3_judgeJump_141, KX3_judgeJump_145, KX3_judgeJump_146, KX3_judgeJump_149, KX3_judgeJump_156, KX3_judgeJump_169, KX3_judgeJump_176, KX3_judgeJump_180, KX3_judgeJump_183, lkC, s1C, s2C, dlC, kyC, Nat.beq, Nat.ble, rcd, rno, rsw, Nat.reduceAdd, Nat.reduceBEq, Nat.reduceDiv, List.drop, List.take, List.reverse, List.reverseAux, Int.toNat, Option.toList, List.append, List.cons_append, List.nil_append, zg121, zg270, zg271, zg273, zg276, zg280, zg281]
              intro a137 e137 ob137
              cases e137
              have f138 : (fRC s135 p1 281) = opA B ((-1 : Int)) := (pRx_g hs135).trans (opA_n (by decide)).symm
              refine ⟨fun b139 h139 => ?_, fun h139 => ?_⟩
              · obtain ⟨j139, hj139, hb139⟩ := opA_j (f138.symm.trans h139)
                have hl139 : j139 < snM z := by omega
                have o140_135 := hSs_135.1 j139 hl139
                refine hB _ _ _ _ _ (fun m141 hm141 => ?_)
                dsimp only [ucgo, ucwp, ucsC, uqC, uoC, ctC, rfd, KX3_judgeJump, KX3_judgeJump_0, KX3_judgeJump_5, KX3_judgeJump_9, KX3_judgeJump_16, KX3_judgeJump_23, KX3_judgeJump_30, KX3_judgeJump_39, KX3_judgeJump_48, KX3_judgeJump_56, KX3_judgeJump_65, KX3_judgeJump_80, KX3_judgeJump_85, KX3_judgeJump_93, KX3_judgeJump_102, KX3_judgeJump_109, KX3_judgeJump_121, KX3_judgeJump_134, KX3_judgeJump_141, KX3_judgeJump_145, KX3_judgeJump_146, KX3_judgeJump_149, KX3_judgeJump_156, KX3_judgeJump_169, KX3_judgeJump_176, KX3_judgeJump_180, KX3_judgeJump_183, lkC, s1C, s2C, dlC, kyC, Nat.beq, Nat.ble, rcd, rno, rsw, Nat.reduceAdd, Nat.reduceBEq, Nat.reduceDiv, List.drop, List.take, List.reverse, List.reverseAux, Int.toNat, Option.toList, List.append, List.cons_append, List.nil_append, zg121, zg270, zg271, zg273, zg276, zg280, zg281]
                try dsimp only [Qz_judgeJump]
                exact fun τ9 h9 => ⟨rfl, (er_we h9).trans ⟨fun q9 => Or.inl (by show ¬ fIC σ (E 1) 217 = 0; rw [← he135]; exact q9), fun q9 => q9.elim (fun q8 => by show ¬ fIC s135 (E 1) 217 = 0; rw [he135]; exact q8) (fun q8 => by omega)⟩, by rw [we_r h9, f138]; exact congrArg (opA B) (by omega), fun a9 l9 q9 => by rw [we_r h9]; exact hn135 a9 l9 q9⟩
              · have hx139 := opA_nn (f138.symm.trans h139)
                refine hB _ _ _ _ _ (fun m142 hm142 => ?_)
                dsimp only [ucgo, ucwp, ucsC, uqC, uoC, ctC, rfd, KX3_judgeJump, KX3_judgeJump_0, KX3_judgeJump_5, KX3_judgeJump_9, KX3_judgeJump_16, KX3_judgeJump_23, KX3_judgeJump_30, KX3_judgeJump_39, KX3_judgeJump_48, KX3_judgeJump_56, KX3_judgeJump_65, KX3_judgeJump_80, KX3_judgeJump_85, KX3_judgeJump_93, KX3_judgeJump_102, KX3_judgeJump_109, KX3_judgeJump_121, KX3_judgeJump_134, KX3_judgeJump_141, KX3_judgeJump_145, KX3_judgeJump_146, KX3_judgeJump_149, KX3_judgeJump_156, KX3_judgeJump_169, KX3_judgeJump_176, KX3_judgeJump_180, KX3_judgeJump_183, lkC, s1C, s2C, dlC, kyC, Nat.beq, Nat.ble, rcd, rno, rsw, Nat.reduceAdd, Nat.reduceBEq, Nat.reduceDiv, List.drop, List.take, List.reverse, List.reverseAux, Int.toNat, Option.toList, List.append, List.cons_append, List.nil_append, zg121, zg270, zg271, zg273, zg276, zg280, zg281]
                intro a143 e143 ob143
                cases e143
                have c145 : (Int32.ofInt 9).toInt = 9 := by decide
                intro a146 e146 ob146
                cases e146
                have f147 : (fIC s135 p1 280).toInt = ljS z j := op_135.1.2.2.2.2.2.2
                refine ⟨fun h148 => ?_, fun h148 => ?_⟩
                · have g148 := leI (x := 0) (y := (fIC s135 p1 280)) h148
                  have z0_ : (0 : Int32).toInt = 0 := rfl
                  refine hB _ _ _ _ _ (fun m149 hm149 => ?_)
                  dsimp only [ucgo, ucwp, ucsC, uqC, uoC, ctC, rfd, KX3_judgeJump, KX3_judgeJump_0, KX3_judgeJump_5, KX3_judgeJump_9, KX3_judgeJump_16, KX3_judgeJump_23, KX3_judgeJump_30, KX3_judgeJump_39, KX3_judgeJump_48, KX3_judgeJump_56, KX3_judgeJump_65, KX3_judgeJump_80, KX3_judgeJump_85, KX3_judgeJump_93, KX3_judgeJump_102, KX3_judgeJump_109, KX3_judgeJump_121, KX3_judgeJump_134, KX3_judgeJump_141, KX3_judgeJump_145, KX3_judgeJump_146, KX3_judgeJump_149, KX3_judgeJump_156, KX3_judgeJump_169, KX3_judgeJump_176, KX3_judgeJump_180, KX3_judgeJump_183, lkC, s1C, s2C, dlC, kyC, Nat.beq, Nat.ble, rcd, rno, rsw, Nat.reduceAdd, Nat.reduceBEq, Nat.reduceDiv, List.drop, List.take, List.reverse, List.reverseAux, Int.toNat, Option.toList, List.append, List.cons_append, List.nil_append, zg121, zg270, zg271, zg273, zg276, zg280, zg281]
                  intro a150 e150 ob150
                  cases e150
                  have f151 : (fIC s135 p1 280).toInt = ljS z j := op_135.1.2.2.2.2.2.2
                  refine hB _ _ _ _ _ (fun m152 hm152 => ?_)
                  dsimp only [ucgo, ucwp, ucsC, uqC, uoC, ctC, rfd, KX3_judgeJump, KX3_judgeJump_0, KX3_judgeJump_5, KX3_judgeJump_9, KX3_judgeJump_16, KX3_judgeJump_23, KX3_judgeJump_30, KX3_judgeJump_39, KX3_judgeJump_48, KX3_judgeJump_56, KX3_judgeJump_65, KX3_judgeJump_80, KX3_judgeJump_85, KX3_judgeJump_93, KX3_judgeJump_102, KX3_judgeJump_109, KX3_judgeJump_121, KX3_judgeJump_134, KX3_judgeJump_141, KX3_judgeJump_145, KX3_judgeJump_146, KX3_judgeJump_149, KX3_judgeJump_156, KX3_judgeJump_169, KX3_judgeJump_176, KX3_judgeJump_180, KX3_judgeJump_183, lkC, s1C, s2C, dlC, kyC, Nat.beq, Nat.ble, rcd, rno, rsw, Nat.reduceAdd, Nat.reduceBEq, Nat.reduceDiv, List.drop, List.take, List.reverse, List.reverseAux, Int.toNat, Option.toList, List.append, List.cons_append, List.nil_append, zg121, zg270, zg271, zg273, zg276, zg280, zg281]
                  rw [hNm_135.1.1]
                  try dsimp only
                  intro w153 τ153 o153 q153
                  obtain ⟨rfl, hb153⟩ := q153 (N, E, A, B, V, z) ⟨_, _, rfl, by omega⟩
                  have hF153 : FrE [217, 218, 281] σ τ153 := hF135.tr (o153.2.mo rfl)
                  have hSs_153 := SsC.fr hSs hF153 rfl
                  have hNm_153 := NmC.fr hNm hF153 rfl
                  have op_153 : SlC A B τ153 z j p1 ∧ p1 < cnC τ153 := by rw [hp]; exact hSs_153.1 j hj
                  have o110_153 := hSs_153.1 j84 hl84
                  have o129_153 := hSs_153.1 j128 hl128
                  try dsimp only [Option.toList, List.cons_append, List.nil_append, s1C, s2C, dlC, kyC, Nat.beq, lkC, rcd, rno, rsw]
                  refine hB _ _ _ _ _ (fun m154 hm154 => ?_)
                  dsimp only [ucgo, ucwp, ucsC, uqC, uoC, ctC, rfd, KX3_judgeJump, KX3_judgeJump_0, KX3_judgeJump_5, KX3_judgeJump_9, KX3_judgeJump_16, KX3_judgeJump_23, KX3_judgeJump_30, KX3_judgeJump_39, KX3_judgeJump_48, KX3_judgeJump_56, KX3_judgeJump_65, KX3_judgeJump_80, KX3_judgeJump_85, KX3_judgeJump_93, KX3_judgeJump_102, KX3_judgeJump_109, KX3_judgeJump_121, KX3_judgeJump_134, KX3_judgeJump_141, KX3_judgeJump_145, KX3_judgeJump_146, KX3_judgeJump_149, KX3_judgeJump_156, KX3_judgeJump_169, KX3_judgeJump_176, KX3_judgeJump_180, KX3_judgeJump_183, lkC, s1C, s2C, dlC, kyC, Nat.beq, Nat.ble, rcd, rno, rsw, Nat.reduceAdd, Nat.reduceBEq, Nat.reduceDiv, List.drop, List.take, List.reverse, List.reverseAux, Int.toNat, Option.toList, List.append, List.cons_append, List.nil_append, zg121, zg270, zg271, zg273, zg276, zg280, zg281]
                  try dsimp only [Qz_judgeJump]
                  exact fun τ9 h9 => ⟨rfl, (er_we h9).trans (iff_of_true hb153 (Or.inr (by omega))), by rw [we_r h9, opA_n (by omega)]; exact ((o153.2.2 rfl p1 (Nat.lt_of_lt_of_le op.2 hF135.1)).1 281 rfl).2.2.trans h139, fun a9 l9 q9 => by rw [we_r h9]; exact (((o153.2.2 rfl a9 (Nat.lt_of_lt_of_le l9 hF135.1)).1 281 rfl).2.2).trans (hn135 a9 l9 q9)⟩
                · have g148 := nleI (x := 0) (y := (fIC s135 p1 280)) h148
                  have z0_ : (0 : Int32).toInt = 0 := rfl
                  refine hB _ _ _ _ _ (fun m155 hm155 => ?_)
                  dsimp only [ucgo, ucwp, ucsC, uqC, uoC, ctC, rfd, KX3_judgeJump, KX3_judgeJump_0, KX3_judgeJump_5, KX3_judgeJump_9, KX3_judgeJump_16, KX3_judgeJump_23, KX3_judgeJump_30, KX3_judgeJump_39, KX3_judgeJump_48, KX3_judgeJump_56, KX3_judgeJump_65, KX3_judgeJump_80, KX3_judgeJump_85, KX3_judgeJump_93, KX3_judgeJump_102, KX3_judgeJump_109, KX3_judgeJump_121, KX3_judgeJump_134, KX3_judgeJump_141, KX3_judgeJump_145, KX3_judgeJump_146, KX3_judgeJump_149, KX3_judgeJump_156, KX3_judgeJump_169, KX3_judgeJump_176, KX3_judgeJump_180, KX3_judgeJump_183, lkC, s1C, s2C, dlC, kyC, Nat.beq, Nat.ble, rcd, rno, rsw, Nat.reduceAdd, Nat.reduceBEq, Nat.reduceDiv, List.drop, List.take, List.reverse, List.reverseAux, Int.toNat, Option.toList, List.append, List.cons_append, List.nil_append, zg121, zg270, zg271, zg273, zg276, zg280, zg281]
                  intro a156 e156 ob156
                  cases e156
                  have f157 : (fIC s135 p1 271).toInt = fiS z j := op_135.1.1.2.1
                  refine hB _ _ _ _ _ (fun m158 hm158 => ?_)
                  dsimp only [ucgo, ucwp, ucsC, uqC, uoC, ctC, rfd, KX3_judgeJump, KX3_judgeJump_0, KX3_judgeJump_5, KX3_judgeJump_9, KX3_judgeJump_16, KX3_judgeJump_23, KX3_judgeJump_30, KX3_judgeJump_39, KX3_judgeJump_48, KX3_judgeJump_56, KX3_judgeJump_65, KX3_judgeJump_80, KX3_judgeJump_85, KX3_judgeJump_93, KX3_judgeJump_102, KX3_judgeJump_109, KX3_judgeJump_121, KX3_judgeJump_134, KX3_judgeJump_141, KX3_judgeJump_145, KX3_judgeJump_146, KX3_judgeJump_149, KX3_judgeJump_156, KX3_judgeJump_169, KX3_judgeJump_176, KX3_judgeJump_180, KX3_judgeJump_183, lkC, s1C, s2C, dlC, kyC, Nat.beq, Nat.ble, rcd, rno, rsw, Nat.reduceAdd, Nat.reduceBEq, Nat.reduceDiv, List.drop, List.take, List.reverse, List.reverseAux, Int.toNat, Option.toList, List.append, List.cons_append, List.nil_append, zg121, zg270, zg271, zg273, zg276, zg280, zg281]
                  rw [hNm_135.1.1]
                  try dsimp only
                  intro w159 τ159 o159 q159
                  obtain ⟨rfl, hb159⟩ := q159 (N, E, A, B, V, z) ⟨_, _, rfl, by omega⟩
                  have hF159 : FrE [217, 218, 281] σ τ159 := hF135.tr (o159.2.mo rfl)
                  have hSs_159 := SsC.fr hSs hF159 rfl
                  have hNm_159 := NmC.fr hNm hF159 rfl
                  have op_159 : SlC A B τ159 z j p1 ∧ p1 < cnC τ159 := by rw [hp]; exact hSs_159.1 j hj
                  have o110_159 := hSs_159.1 j84 hl84
                  have o129_159 := hSs_159.1 j128 hl128
                  try dsimp only [Option.toList, List.cons_append, List.nil_append, s1C, s2C, dlC, kyC, Nat.beq, lkC, rcd, rno, rsw]
                  refine hB _ _ _ _ _ (fun m160 hm160 => ?_)
                  dsimp only [ucgo, ucwp, ucsC, uqC, uoC, ctC, rfd, KX3_judgeJump, KX3_judgeJump_0, KX3_judgeJump_5, KX3_judgeJump_9, KX3_judgeJump_16, KX3_judgeJump_23, KX3_judgeJump_30, KX3_judgeJump_39, KX3_judgeJump_48, KX3_judgeJump_56, KX3_judgeJump_65, KX3_judgeJump_80, KX3_judgeJump_85, KX3_judgeJump_93, KX3_judgeJump_102, KX3_judgeJump_109, KX3_judgeJump_121, KX3_judgeJump_134, KX3_judgeJump_141, KX3_judgeJump_145, KX3_judgeJump_146, KX3_judgeJump_149, KX3_judgeJump_156, KX3_judgeJump_169, KX3_judgeJump_176, KX3_judgeJump_180, KX3_judgeJump_183, lkC, s1C, s2C, dlC, kyC, Nat.beq, Nat.ble, rcd, rno, rsw, Nat.reduceAdd, Nat.reduceBEq, Nat.reduceDiv, List.drop, List.take, List.reverse, List.reverseAux, Int.toNat, Option.toList, List.append, List.cons_append, List.nil_append, zg121, zg270, zg271, zg273, zg276, zg280, zg281]
                  try dsimp only [Qz_judgeJump]
                  exact fun τ9 h9 => ⟨rfl, (er_we h9).trans (iff_of_true hb159 (Or.inr (by omega))), by rw [we_r h9, opA_n (by omega)]; exact ((o159.2.2 rfl p1 (Nat.lt_of_lt_of_le op.2 hF135.1)).1 281 rfl).2.2.trans h139, fun a9 l9 q9 => by rw [we_r h9]; exact (((o159.2.2 rfl a9 (Nat.lt_of_lt_of_le l9 hF135.1)).1 281 rfl).2.2).trans (hn135 a9 l9 q9)⟩
            · have g132 := (neI (x := r131) (y := 0) h132 : ¬ (r131 : Int32).toInt = (0 : Int32).toInt)
              have z0_ : (0 : Int32).toInt = 0 := rfl
              refine hB _ _ _ _ _ (fun m161 hm161 => ?_)
              dsimp only [ucgo, ucwp, ucsC, uqC, uoC, ctC, rfd, KX3_judgeJump, KX3_judgeJump_0, KX3_judgeJump_5, KX3_judgeJump_9, KX3_judgeJump_16, KX3_judgeJump_23, KX3_judgeJump_30, KX3_judgeJump_39, KX3_judgeJump_48, KX3_judgeJump_56, KX3_judgeJump_65, KX3_judgeJump_80, KX3_judgeJump_85, KX3_judgeJump_93, KX3_judgeJump_102, KX3_judgeJump_109, KX3_judgeJump_121, KX3_judgeJump_134, KX3_judgeJump_141, KX3_judgeJump_145, KX3_judgeJump_146, KX3_judgeJump_149, KX3_judgeJump_156, KX3_judgeJump_169, KX3_judgeJump_176, KX3_judgeJump_180, KX3_judgeJump_183, lkC, s1C, s2C, dlC, kyC, Nat.beq, Nat.ble, rcd, rno, rsw, Nat.reduceAdd, Nat.reduceBEq, Nat.reduceDiv, List.drop, List.take, List.reverse, List.reverseAux, Int.toNat, Option.toList, List.append, List.cons_append, List.nil_append, zg121, zg270, zg271, zg273, zg276, zg280, zg281]
              refine hB _ _ _ _ _ (fun m162 hm162 => ?_)
              dsimp only [ucgo, ucwp, ucsC, uqC, uoC, ctC, rfd, KX3_judgeJump, KX3_judgeJump_0, KX3_judgeJump_5, KX3_judgeJump_9, KX3_judgeJump_16, KX3_judgeJump_23, KX3_judgeJump_30, KX3_judgeJump_39, KX3_judgeJump_48, KX3_judgeJump_56, KX3_judgeJump_65, KX3_judgeJump_80, KX3_judgeJump_85, KX3_judgeJump_93, KX3_judgeJump_102, KX3_judgeJump_109, KX3_judgeJump_121, KX3_judgeJump_134, KX3_judgeJump_141, KX3_judgeJump_145, KX3_judgeJump_146, KX3_judgeJump_149, KX3_judgeJump_156, KX3_judgeJump_169, KX3_judgeJump_176, KX3_judgeJump_180, KX3_judgeJump_183, lkC, s1C, s2C, dlC, kyC, Nat.beq, Nat.ble, rcd, rno, rsw, Nat.reduceAdd, Nat.reduceBEq, Nat.reduceDiv, List.drop, List.take, List.reverse, List.reverseAux, Int.toNat, Option.toList, List.append, List.cons_append, List.nil_append, zg121, zg270, zg271, zg273, zg276, zg280, zg281]
              intro a163 e163 ob163 fk163
              cases e163
              clear fk163 ob163
              generalize hs163 : pRC s0 p1 281 (some (B j128)) = s163
              have hF163 : FrE [217, 218, 281] σ s163 := FrE.pR2 hF0 (by decide) hs163
              have he163 : fIC s163 (E 1) 217 = fIC σ (E 1) 217 := (erx_pR hs163).trans he0
              have hn163 : ∀ a, a < cnC σ → a ≠ p1 → fRC s163 a 281 = fRC σ a 281 := fun a9 l9 q9 => (pRx_n hs163 q9).trans (hn0 a9 l9 q9)
              have hSs_163 := SsC.fr hSs hF163 rfl
              have hNm_163 := NmC.fr hNm hF163 rfl
              have op_163 : SlC A B s163 z j p1 ∧ p1 < cnC s163 := by rw [hp]; exact hSs_163.1 j hj
              have o110_163 := hSs_163.1 j84 hl84
              have o129_163 := hSs_163.1 j128 hl128
              have hRR : tjT N z j = (j128 : Int) := by
                rw [hR, hj84]
                unfold rsT
                rw [if_pos ⟨decide_eq_true (by omega), by omega, by rw [Int.toNat_natCast]; omega⟩, Int.toNat_natCast, ← hb7]
                rw [if_pos (by rcases hr131 with q8 | q8; exact q8.2; exact absurd q8.1 (by omega))]
                omega
              refine hB _ _ _ _ _ (fun m164 hm164 => ?_)
              dsimp only [ucgo, ucwp, ucsC, uqC, uoC, ctC, rfd, KX3_judgeJump, KX3_judgeJump_0, KX3_judgeJump_5, KX3_judgeJump_9, KX3_judgeJump_16, KX3_judgeJump_23, KX3_judgeJump_30, KX3_judgeJump_39, KX3_judgeJump_48, KX3_judgeJump_56, KX3_judgeJump_65, KX3_judgeJump_80, KX3_judgeJump_85, KX3_judgeJump_93, KX3_judgeJump_102, KX3_judgeJump_109, KX3_judgeJump_121, KX3_judgeJump_134, KX3_judgeJump_141, KX3_judgeJump_145, KX3_judgeJump_146, KX3_judgeJump_149, KX3_judgeJump_156, KX3_judgeJump_169, KX3_judgeJump_176, KX3_judgeJump_180, KX3_judgeJump_183, lkC, s1C, s2C, dlC, kyC, Nat.beq, Nat.ble, rcd, rno, rsw, Nat.reduceAdd, Nat.reduceBEq, Nat.reduceDiv, List.drop, List.take, List.reverse, List.reverseAux, Int.toNat, Option.toList, List.append, List.cons_append, List.nil_append, zg121, zg270, zg271, zg273, zg276, zg280, zg281]
              intro a165 e165 ob165
              cases e165
              have f166 : (fRC s163 p1 281) = opA B ((j128 : Int)) := (pRx_g hs163).trans ((Eq.refl (some (B j128))).trans opA_k.symm)
              refine ⟨fun b167 h167 => ?_, fun h167 => ?_⟩
              · skip
                refine hB _ _ _ _ _ (fun m168 hm168 => ?_)
                dsimp only [ucgo, ucwp, ucsC, uqC, uoC, ctC, rfd, KX3_judgeJump, KX3_judgeJump_0, KX3_judgeJump_5, KX3_judgeJump_9, KX3_judgeJump_16, KX3_judgeJump_23, KX3_judgeJump_30, KX3_judgeJump_39, KX3_judgeJump_48, KX3_judgeJump_56, KX3_judgeJump_65, KX3_judgeJump_80, KX3_judgeJump_85, KX3_judgeJump_93, KX3_judgeJump_102, KX3_judgeJump_109, KX3_judgeJump_121, KX3_judgeJump_134, KX3_judgeJump_141, KX3_judgeJump_145, KX3_judgeJump_146, KX3_judgeJump_149, KX3_judgeJump_156, KX3_judgeJump_169, KX3_judgeJump_176, KX3_judgeJump_180, KX3_judgeJump_183, lkC, s1C, s2C, dlC, kyC, Nat.beq, Nat.ble, rcd, rno, rsw, Nat.reduceAdd, Nat.reduceBEq, Nat.reduceDiv, List.drop, List.take, List.reverse, List.reverseAux, Int.toNat, Option.toList, List.append, List.cons_append, List.nil_append, zg121, zg270, zg271, zg273, zg276, zg280, zg281]
                try dsimp only [Qz_judgeJump]
                exact fun τ9 h9 => ⟨rfl, (er_we h9).trans ⟨fun q9 => Or.inl (by show ¬ fIC σ (E 1) 217 = 0; rw [← he163]; exact q9), fun q9 => q9.elim (fun q8 => by show ¬ fIC s163 (E 1) 217 = 0; rw [he163]; exact q8) (fun q8 => by omega)⟩, by rw [we_r h9, f166]; exact congrArg (opA B) (by omega), fun a9 l9 q9 => by rw [we_r h9]; exact hn163 a9 l9 q9⟩
              · exact absurd ((f166.trans (opA_k)).symm.trans h167) (by intro q9; cases q9)
  have L5 : ∀ (n : Nat) (x9 : Int) (fu : Nat), (x9 < (fu : Int) ∧ fu ≤ snM z) → (tjT N z j = tgZ N z.2.2.1.2 (decide (kjS z j = 65)) (ljS z j) fu x9) →  K n 5 [(0, .inr (.inr (some (E 3)))), (1, .inr (.inr (some p1))), (2, .inr (.inr (opA B x9)))] [] σ := by
    intro n
    induction n using Nat.strongRecOn with
    | _ n ih =>
      intro x9 fu h1 h5
      refine hB _ _ _ _ _ (fun m169 hm169 => ?_)
      dsimp only [ucgo, ucwp, ucsC, uqC, uoC, ctC, rfd, KX3_judgeJump, KX3_judgeJump_0, KX3_judgeJump_5, KX3_judgeJump_9, KX3_judgeJump_16, KX3_judgeJump_23, KX3_judgeJump_30, KX3_judgeJump_39, KX3_judgeJump_48, KX3_judgeJump_56, KX3_judgeJump_65, KX3_judgeJump_80, KX3_judgeJump_85, KX3_judgeJump_93, KX3_judgeJump_102, KX3_judgeJump_109, KX3_judgeJump_121, KX3_judgeJump_134, KX3_judgeJump_141, KX3_judgeJump_145, KX3_judgeJump_146, KX3_judgeJump_149, KX3_judgeJump_156, KX3_judgeJump_169, KX3_judgeJump_176, KX3_judgeJump_180, KX3_judgeJump_183, lkC, s1C, s2C, dlC, kyC, Nat.beq, Nat.ble, rcd, rno, rsw, Nat.reduceAdd, Nat.reduceBEq, Nat.reduceDiv, List.drop, List.take, List.reverse, List.reverseAux, Int.toNat, Option.toList, List.append, List.cons_append, List.nil_append, zg121, zg270, zg271, zg273, zg276, zg280, zg281]
      refine ⟨fun h170 => ?_, fun b170 h170 => ?_⟩
      · have hx170 := opA_nn ((Eq.refl (opA B x9)).symm.trans h170)
        exact hW _ 93 [(0, .inr (.inr (some (E 3)))), (1, .inr (.inr (some p1))), (2, .inr (.inr (opA B x9)))] _ _ _ (List.forall_mem_cons.2 ⟨List.Mem.head _, List.forall_mem_cons.2 ⟨List.Mem.tail _ (List.Mem.head _), List.forall_mem_cons.2 ⟨List.Mem.tail _ (List.Mem.tail _ (List.Mem.head _)), fun _ h => absurd h List.not_mem_nil⟩⟩⟩) (L93 _ σ (opA B x9) (-1) FrE.rf rfl (fun _ _ _ => rfl) (h281.trans (opA_n (by decide)).symm) (by omega) (by omega) (h5.trans ((tg_neg hx170).trans (rs_neg (by decide)).symm)))
      · obtain ⟨j170, hj170, hb170⟩ := opA_j ((Eq.refl (opA B x9)).symm.trans h170)
        have hl170 : j170 < snM z := by omega
        have o171 := hSs.1 j170 hl170
        obtain ⟨k9, rfl⟩ : ∃ k9, fu = k9 + 1 := ⟨fu - 1, by omega⟩
        rw [hj170] at h1 h5
        refine hB _ _ _ _ _ (fun m172 hm172 => ?_)
        dsimp only [ucgo, ucwp, ucsC, uqC, uoC, ctC, rfd, KX3_judgeJump, KX3_judgeJump_0, KX3_judgeJump_5, KX3_judgeJump_9, KX3_judgeJump_16, KX3_judgeJump_23, KX3_judgeJump_30, KX3_judgeJump_39, KX3_judgeJump_48, KX3_judgeJump_56, KX3_judgeJump_65, KX3_judgeJump_80, KX3_judgeJump_85, KX3_judgeJump_93, KX3_judgeJump_102, KX3_judgeJump_109, KX3_judgeJump_121, KX3_judgeJump_134, KX3_judgeJump_141, KX3_judgeJump_145, KX3_judgeJump_146, KX3_judgeJump_149, KX3_judgeJump_156, KX3_judgeJump_169, KX3_judgeJump_176, KX3_judgeJump_180, KX3_judgeJump_183, lkC, s1C, s2C, dlC, kyC, Nat.beq, Nat.ble, rcd, rno, rsw, Nat.reduceAdd, Nat.reduceBEq, Nat.reduceDiv, List.drop, List.take, List.reverse, List.reverseAux, Int.toNat, Option.toList, List.append, List.cons_append, List.nil_append, zg121, zg270, zg271, zg273, zg276, zg280, zg281]
        intro a173 e173 ob173
        cases e173
        refine ⟨fun b174 h174 => ?_, fun h174 => ?_⟩
        · exact absurd (h281.symm.trans h174) (by intro q9; cases q9)
        · skip
          refine hB _ _ _ _ _ (fun m175 hm175 => ?_)
          dsimp only [ucgo, ucwp, ucsC, uqC, uoC, ctC, rfd, KX3_judgeJump, KX3_judgeJump_0, KX3_judgeJump_5, KX3_judgeJump_9, KX3_judgeJump_16, KX3_judgeJump_23, KX3_judgeJump_30, KX3_judgeJump_39, KX3_judgeJump_48, KX3_judgeJump_56, KX3_judgeJump_65, KX3_judgeJump_80, KX3_judgeJump_85, KX3_judgeJump_93, KX3_judgeJump_102, KX3_judgeJump_109, KX3_judgeJump_121, KX3_judgeJump_134, KX3_judgeJump_141, KX3_judgeJump_145, KX3_judgeJump_146, KX3_judgeJump_149, KX3_judgeJump_156, KX3_judgeJump_169, KX3_judgeJump_176, KX3_judgeJump_180, KX3_judgeJump_183, lkC, s1C, s2C, dlC, kyC, Nat.beq, Nat.ble, rcd, rno, rsw, Nat.reduceAdd, Nat.reduceBEq, Nat.reduceDiv, List.drop, List.take, List.reverse, List.reverseAux, Int.toNat, Option.toList, List.append, List.cons_append, List.nil_append, zg121, zg270, zg271, zg273, zg276, zg280, zg281]
          intro a176 e176 ob176
          cases e176
          have f177 : (fIC σ p1 280).toInt = ljS z j := op.1.2.2.2.2.2.2
          refine ⟨fun h178 => ?_, fun h178 => ?_⟩
          · have g178 := leI (x := 0) (y := (fIC σ p1 280)) h178
            have z0_ : (0 : Int32).toInt = 0 := rfl
            refine hB _ _ _ _ _ (fun m179 hm179 => ?_)
            dsimp only [ucgo, ucwp, ucsC, uqC, uoC, ctC, rfd, KX3_judgeJump, KX3_judgeJump_0, KX3_judgeJump_5, KX3_judgeJump_9, KX3_judgeJump_16, KX3_judgeJump_23, KX3_judgeJump_30, KX3_judgeJump_39, KX3_judgeJump_48, KX3_judgeJump_56, KX3_judgeJump_65, KX3_judgeJump_80, KX3_judgeJump_85, KX3_judgeJump_93, KX3_judgeJump_102, KX3_judgeJump_109, KX3_judgeJump_121, KX3_judgeJump_134, KX3_judgeJump_141, KX3_judgeJump_145, KX3_judgeJump_146, KX3_judgeJump_149, KX3_judgeJump_156, KX3_judgeJump_169, KX3_judgeJump_176, KX3_judgeJump_180, KX3_judgeJump_183, lkC, s1C, s2C, dlC, kyC, Nat.beq, Nat.ble, rcd, rno, rsw, Nat.reduceAdd, Nat.reduceBEq, Nat.reduceDiv, List.drop, List.take, List.reverse, List.reverseAux, Int.toNat, Option.toList, List.append, List.cons_append, List.nil_append, zg121, zg270, zg271, zg273, zg276, zg280, zg281]
            intro a180 e180 ob180
            obtain rfl : B j170 = a180 := Option.some.inj ((h170.trans (congrArg some hb170)).symm.trans e180)
            have f181 : (fIC σ (B j170) 270).toInt = kjS z j170 := o171.1.1.1
            have c182 : (Int32.ofInt 6).toInt = 6 := by decide
            refine ⟨fun h183 => ?_, fun h183 => ?_⟩
            · have g183 := (neI (x := (fIC σ (B j170) 270)) (y := (Int32.ofInt 6)) h183 : ¬ ((fIC σ (B j170) 270) : Int32).toInt = ((Int32.ofInt 6) : Int32).toInt)
              refine hB _ _ _ _ _ (fun m184 hm184 => ?_)
              dsimp only [ucgo, ucwp, ucsC, uqC, uoC, ctC, rfd, KX3_judgeJump, KX3_judgeJump_0, KX3_judgeJump_5, KX3_judgeJump_9, KX3_judgeJump_16, KX3_judgeJump_23, KX3_judgeJump_30, KX3_judgeJump_39, KX3_judgeJump_48, KX3_judgeJump_56, KX3_judgeJump_65, KX3_judgeJump_80, KX3_judgeJump_85, KX3_judgeJump_93, KX3_judgeJump_102, KX3_judgeJump_109, KX3_judgeJump_121, KX3_judgeJump_134, KX3_judgeJump_141, KX3_judgeJump_145, KX3_judgeJump_146, KX3_judgeJump_149, KX3_judgeJump_156, KX3_judgeJump_169, KX3_judgeJump_176, KX3_judgeJump_180, KX3_judgeJump_183, lkC, s1C, s2C, dlC, kyC, Nat.beq, Nat.ble, rcd, rno, rsw, Nat.reduceAdd, Nat.reduceBEq, Nat.reduceDiv, List.drop, List.take, List.reverse, List.reverseAux, Int.toNat, Option.toList, List.append, List.cons_append, List.nil_append, zg121, zg270, zg271, zg273, zg276, zg280, zg281]
              intro a185 e185 ob185
              obtain rfl : B j170 = a185 := Option.some.inj ((h170.trans (congrArg some hb170)).symm.trans e185)
              have f186 : (fRC σ (B j170) 273) = opA B (paS z j170) := o171.1.1.2.2.2
              rw [f186]
              exact hW _ 5 [(0, .inr (.inr (some (E 3)))), (1, .inr (.inr (some p1))), (2, .inr (.inr (opA B (paS z j170))))] _ _ _ (List.forall_mem_cons.2 ⟨List.Mem.tail _ (List.Mem.head _), List.forall_mem_cons.2 ⟨List.Mem.tail _ (List.Mem.tail _ (List.Mem.head _)), List.forall_mem_cons.2 ⟨List.Mem.head _, fun _ h => absurd h List.not_mem_nil⟩⟩⟩) (ih _ (by omega) (paS z j170) k9 (by have := (hwf j170 hl170).1; omega) (h5.trans (tg_ng (by omega) (fun q8 => by omega))))
            · have g183 := (eqI (x := (fIC σ (B j170) 270)) (y := (Int32.ofInt 6)) h183 : ((fIC σ (B j170) 270) : Int32).toInt = ((Int32.ofInt 6) : Int32).toInt)
              refine hB _ _ _ _ _ (fun m187 hm187 => ?_)
              dsimp only [ucgo, ucwp, ucsC, uqC, uoC, ctC, rfd, KX3_judgeJump, KX3_judgeJump_0, KX3_judgeJump_5, KX3_judgeJump_9, KX3_judgeJump_16, KX3_judgeJump_23, KX3_judgeJump_30, KX3_judgeJump_39, KX3_judgeJump_48, KX3_judgeJump_56, KX3_judgeJump_65, KX3_judgeJump_80, KX3_judgeJump_85, KX3_judgeJump_93, KX3_judgeJump_102, KX3_judgeJump_109, KX3_judgeJump_121, KX3_judgeJump_134, KX3_judgeJump_141, KX3_judgeJump_145, KX3_judgeJump_146, KX3_judgeJump_149, KX3_judgeJump_156, KX3_judgeJump_169, KX3_judgeJump_176, KX3_judgeJump_180, KX3_judgeJump_183, lkC, s1C, s2C, dlC, kyC, Nat.beq, Nat.ble, rcd, rno, rsw, Nat.reduceAdd, Nat.reduceBEq, Nat.reduceDiv, List.drop, List.take, List.reverse, List.reverseAux, Int.toNat, Option.toList, List.append, List.cons_append, List.nil_append, zg121, zg270, zg271, zg273, zg276, zg280, zg281]
              intro a188 e188 ob188
              cases e188
              have f189 : (fIC σ p1 280).toInt = ljS z j := op.1.2.2.2.2.2.2
              intro a190 e190 ob190
              obtain rfl : B j170 = a190 := Option.some.inj ((h170.trans (congrArg some hb170)).symm.trans e190)
              have f191 : (fIC σ (B j170) 280).toInt = ljS z j170 := o171.1.2.2.2.2.2.2
              intro w192 τ192 o192 q192
              obtain ⟨r192, rfl, hr192, rfl⟩ := q192 (N, E, A, B, V, z) ⟨_, _, rfl, hNm⟩
              rw [show ((fIC σ p1 280) : Int32).toInt = ljS z j by omega, show ((fIC σ (B j170) 280) : Int32).toInt = ljS z j170 by omega] at hr192
              try dsimp only [Option.toList, List.cons_append, List.nil_append, s1C, s2C, dlC, kyC, Nat.beq, lkC, rcd, rno, rsw]
              refine ⟨fun h193 => ?_, fun h193 => ?_⟩
              · have g193 := (eqI (x := r192) (y := 0) h193 : (r192 : Int32).toInt = (0 : Int32).toInt)
                have z0_ : (0 : Int32).toInt = 0 := rfl
                refine hB _ _ _ _ _ (fun m194 hm194 => ?_)
                dsimp only [ucgo, ucwp, ucsC, uqC, uoC, ctC, rfd, KX3_judgeJump, KX3_judgeJump_0, KX3_judgeJump_5, KX3_judgeJump_9, KX3_judgeJump_16, KX3_judgeJump_23, KX3_judgeJump_30, KX3_judgeJump_39, KX3_judgeJump_48, KX3_judgeJump_56, KX3_judgeJump_65, KX3_judgeJump_80, KX3_judgeJump_85, KX3_judgeJump_93, KX3_judgeJump_102, KX3_judgeJump_109, KX3_judgeJump_121, KX3_judgeJump_134, KX3_judgeJump_141, KX3_judgeJump_145, KX3_judgeJump_146, KX3_judgeJump_149, KX3_judgeJump_156, KX3_judgeJump_169, KX3_judgeJump_176, KX3_judgeJump_180, KX3_judgeJump_183, lkC, s1C, s2C, dlC, kyC, Nat.beq, Nat.ble, rcd, rno, rsw, Nat.reduceAdd, Nat.reduceBEq, Nat.reduceDiv, List.drop, List.take, List.reverse, List.reverseAux, Int.toNat, Option.toList, List.append, List.cons_append, List.nil_append, zg121, zg270, zg271, zg273, zg276, zg280, zg281]
                intro a195 e195 ob195
                obtain rfl : B j170 = a195 := Option.some.inj ((h170.trans (congrArg some hb170)).symm.trans e195)
                have f196 : (fRC σ (B j170) 273) = opA B (paS z j170) := o171.1.1.2.2.2
                rw [f196]
                exact hW _ 5 [(0, .inr (.inr (some (E 3)))), (1, .inr (.inr (some p1))), (2, .inr (.inr (opA B (paS z j170))))] _ _ _ (List.forall_mem_cons.2 ⟨List.Mem.tail _ (List.Mem.head _), List.forall_mem_cons.2 ⟨List.Mem.tail _ (List.Mem.tail _ (List.Mem.head _)), List.forall_mem_cons.2 ⟨List.Mem.head _, fun _ h => absurd h List.not_mem_nil⟩⟩⟩) (ih _ (by omega) (paS z j170) k9 (by have := (hwf j170 hl170).1; omega) (h5.trans (tg_ng (by omega) (fun q8 => by rcases hr192 with q7 | q7; omega; exact q7.2 q8.2.symm))))
              · have g193 := (neI (x := r192) (y := 0) h193 : ¬ (r192 : Int32).toInt = (0 : Int32).toInt)
                have z0_ : (0 : Int32).toInt = 0 := rfl
                refine hB _ _ _ _ _ (fun m197 hm197 => ?_)
                dsimp only [ucgo, ucwp, ucsC, uqC, uoC, ctC, rfd, KX3_judgeJump, KX3_judgeJump_0, KX3_judgeJump_5, KX3_judgeJump_9, KX3_judgeJump_16, KX3_judgeJump_23, KX3_judgeJump_30, KX3_judgeJump_39, KX3_judgeJump_48, KX3_judgeJump_56, KX3_judgeJump_65, KX3_judgeJump_80, KX3_judgeJump_85, KX3_judgeJump_93, KX3_judgeJump_102, KX3_judgeJump_109, KX3_judgeJump_121, KX3_judgeJump_134, KX3_judgeJump_141, KX3_judgeJump_145, KX3_judgeJump_146, KX3_judgeJump_149, KX3_judgeJump_156, KX3_judgeJump_169, KX3_judgeJump_176, KX3_judgeJump_180, KX3_judgeJump_183, lkC, s1C, s2C, dlC, kyC, Nat.beq, Nat.ble, rcd, rno, rsw, Nat.reduceAdd, Nat.reduceBEq, Nat.reduceDiv, List.drop, List.take, List.reverse, List.reverseAux, Int.toNat, Option.toList, List.append, List.cons_append, List.nil_append, zg121, zg270, zg271, zg273, zg276, zg280, zg281]
                intro a198 e198 ob198 fk198
                cases e198
                clear fk198 ob198
                generalize hs198 : pRC σ p1 281 (opA B x9) = s198
                have hF198 : FrE [217, 218, 281] σ s198 := FrE.pR2 FrE.rf (by decide) hs198
                have he198 : fIC s198 (E 1) 217 = fIC σ (E 1) 217 := (erx_pR hs198).trans rfl
                have hn198 : ∀ a, a < cnC σ → a ≠ p1 → fRC s198 a 281 = fRC σ a 281 := fun a9 l9 q9 => (pRx_n hs198 q9).trans ((fun _ _ _ => rfl) a9 l9 q9)
                have hSs_198 := SsC.fr hSs hF198 rfl
                have hNm_198 := NmC.fr hNm hF198 rfl
                have op_198 : SlC A B s198 z j p1 ∧ p1 < cnC s198 := by rw [hp]; exact hSs_198.1 j hj
                have o171_198 := hSs_198.1 j170 hl170
                have hR : tjT N z j = rsT z (decide (kjS z j = 65)) (j170 : Int) := h5.trans (tg_nm (by omega) ⟨by omega, by rcases hr192 with q8 | q8; exact q8.2.symm; exact absurd q8.1 (by omega)⟩)
                refine hB _ _ _ _ _ (fun m199 hm199 => ?_)
                dsimp only [ucgo, ucwp, ucsC, uqC, uoC, ctC, rfd, KX3_judgeJump, KX3_judgeJump_0, KX3_judgeJump_5, KX3_judgeJump_9, KX3_judgeJump_16, KX3_judgeJump_23, KX3_judgeJump_30, KX3_judgeJump_39, KX3_judgeJump_48, KX3_judgeJump_56, KX3_judgeJump_65, KX3_judgeJump_80, KX3_judgeJump_85, KX3_judgeJump_93, KX3_judgeJump_102, KX3_judgeJump_109, KX3_judgeJump_121, KX3_judgeJump_134, KX3_judgeJump_141, KX3_judgeJump_145, KX3_judgeJump_146, KX3_judgeJump_149, KX3_judgeJump_156, KX3_judgeJump_169, KX3_judgeJump_176, KX3_judgeJump_180, KX3_judgeJump_183, lkC, s1C, s2C, dlC, kyC, Nat.beq, Nat.ble, rcd, rno, rsw, Nat.reduceAdd, Nat.reduceBEq, Nat.reduceDiv, List.drop, List.take, List.reverse, List.reverseAux, Int.toNat, Option.toList, List.append, List.cons_append, List.nil_append, zg121, zg270, zg271, zg273, zg276, zg280, zg281]
                intro a200 e200 ob200
                obtain rfl : B j170 = a200 := Option.some.inj ((h170.trans (congrArg some hb170)).symm.trans e200)
                have f201 : (fRC s198 (B j170) 273) = opA B (paS z j170) := o171_198.1.1.2.2.2
                refine hB _ _ _ _ _ (fun m202 hm202 => ?_)
                dsimp only [ucgo, ucwp, ucsC, uqC, uoC, ctC, rfd, KX3_judgeJump, KX3_judgeJump_0, KX3_judgeJump_5, KX3_judgeJump_9, KX3_judgeJump_16, KX3_judgeJump_23, KX3_judgeJump_30, KX3_judgeJump_39, KX3_judgeJump_48, KX3_judgeJump_56, KX3_judgeJump_65, KX3_judgeJump_80, KX3_judgeJump_85, KX3_judgeJump_93, KX3_judgeJump_102, KX3_judgeJump_109, KX3_judgeJump_121, KX3_judgeJump_134, KX3_judgeJump_141, KX3_judgeJump_145, KX3_judgeJump_146, KX3_judgeJump_149, KX3_judgeJump_156, KX3_judgeJump_169, KX3_judgeJump_176, KX3_judgeJump_180, KX3_judgeJump_183, lkC, s1C, s2C, dlC, kyC, Nat.beq, Nat.ble, rcd, rno, rsw, Nat.reduceAdd, Nat.reduceBEq, Nat.reduceDiv, List.drop, List.take, List.reverse, List.reverseAux, Int.toNat, Option.toList, List.append, List.cons_append, List.nil_append, zg121, zg270, zg271, zg273, zg276, zg280, zg281]
                refine ⟨fun h203 => ?_, fun b203 h203 => ?_⟩
                · have hx203 := opA_nn (f201.symm.trans h203)
                  exact hW _ 93 [(0, .inr (.inr (some (E 3)))), (1, .inr (.inr (some p1))), (2, .inr (.inr (fRC s198 (B j170) 273)))] _ _ _ (List.forall_mem_cons.2 ⟨List.Mem.tail _ (List.Mem.head _), List.forall_mem_cons.2 ⟨List.Mem.tail _ (List.Mem.tail _ (List.Mem.head _)), List.forall_mem_cons.2 ⟨List.Mem.head _, fun _ h => absurd h List.not_mem_nil⟩⟩⟩) (L93 _ s198 (fRC s198 (B j170) 273) (j170 : Int) hF198 he198 hn198 ((pRx_g hs198).trans ((h170.trans (congrArg some hb170)).trans opA_k.symm)) (by omega) (by omega) hR)
                · obtain ⟨j203, hj203, hb203⟩ := opA_j (f201.symm.trans h203)
                  have hwx203 := (hwf j170 hl170).1
                  have hl203 : j203 < snM z := by omega
                  have o204_198 := hSs_198.1 j203 hl203
                  refine hB _ _ _ _ _ (fun m205 hm205 => ?_)
                  dsimp only [ucgo, ucwp, ucsC, uqC, uoC, ctC, rfd, KX3_judgeJump, KX3_judgeJump_0, KX3_judgeJump_5, KX3_judgeJump_9, KX3_judgeJump_16, KX3_judgeJump_23, KX3_judgeJump_30, KX3_judgeJump_39, KX3_judgeJump_48, KX3_judgeJump_56, KX3_judgeJump_65, KX3_judgeJump_80, KX3_judgeJump_85, KX3_judgeJump_93, KX3_judgeJump_102, KX3_judgeJump_109, KX3_judgeJump_121, KX3_judgeJump_134, KX3_judgeJump_141, KX3_judgeJump_145, KX3_judgeJump_146, KX3_judgeJump_149, KX3_judgeJump_156, KX3_judgeJump_169, KX3_judgeJump_176, KX3_judgeJump_180, KX3_judgeJump_183, lkC, s1C, s2C, dlC, kyC, Nat.beq, Nat.ble, rcd, rno, rsw, Nat.reduceAdd, Nat.reduceBEq, Nat.reduceDiv, List.drop, List.take, List.reverse, List.reverseAux, Int.toNat, Option.toList, List.append, List.cons_append, List.nil_append, zg121, zg270, zg271, zg273, zg276, zg280, zg281]
                  intro a206 e206 ob206
                  cases e206
                  have f207 : (fRC s198 p1 281) = opA B ((j170 : Int)) := (pRx_g hs198).trans ((h170.trans (congrArg some hb170)).trans opA_k.symm)
                  refine ⟨fun b208 h208 => ?_, fun h208 => ?_⟩
                  · skip
                    exact hW _ 93 [(0, .inr (.inr (some (E 3)))), (1, .inr (.inr (some p1))), (2, .inr (.inr (fRC s198 (B j170) 273)))] _ _ _ (List.forall_mem_cons.2 ⟨List.Mem.tail _ (List.Mem.head _), List.forall_mem_cons.2 ⟨List.Mem.tail _ (List.Mem.tail _ (List.Mem.head _)), List.forall_mem_cons.2 ⟨List.Mem.head _, fun _ h => absurd h List.not_mem_nil⟩⟩⟩) (L93 _ s198 (fRC s198 (B j170) 273) (j170 : Int) hF198 he198 hn198 ((pRx_g hs198).trans ((h170.trans (congrArg some hb170)).trans opA_k.symm)) (by omega) (by omega) hR)
                  · exact absurd ((f207.trans (opA_k)).symm.trans h208) (by intro q9; cases q9)
          · have g178 := nleI (x := 0) (y := (fIC σ p1 280)) h178
            have z0_ : (0 : Int32).toInt = 0 := rfl
            refine hB _ _ _ _ _ (fun m209 hm209 => ?_)
            dsimp only [ucgo, ucwp, ucsC, uqC, uoC, ctC, rfd, KX3_judgeJump, KX3_judgeJump_0, KX3_judgeJump_5, KX3_judgeJump_9, KX3_judgeJump_16, KX3_judgeJump_23, KX3_judgeJump_30, KX3_judgeJump_39, KX3_judgeJump_48, KX3_judgeJump_56, KX3_judgeJump_65, KX3_judgeJump_80, KX3_judgeJump_85, KX3_judgeJump_93, KX3_judgeJump_102, KX3_judgeJump_109, KX3_judgeJump_121, KX3_judgeJump_134, KX3_judgeJump_141, KX3_judgeJump_145, KX3_judgeJump_146, KX3_judgeJump_149, KX3_judgeJump_156, KX3_judgeJump_169, KX3_judgeJump_176, KX3_judgeJump_180, KX3_judgeJump_183, lkC, s1C, s2C, dlC, kyC, Nat.beq, Nat.ble, rcd, rno, rsw, Nat.reduceAdd, Nat.reduceBEq, Nat.reduceDiv, List.drop, List.take, List.reverse, List.reverseAux, Int.toNat, Option.toList, List.append, List.cons_append, List.nil_append, zg121, zg270, zg271, zg273, zg276, zg280, zg281]
            rw [(h170.trans (congrArg some hb170))]
            try dsimp only
            intro w210 τ210 o210 q210
            obtain ⟨r210, rfl, hr210, rfl⟩ := q210 (N, E, A, B, V, z) ⟨_, rfl⟩
            rw [o171.1.1.1] at hr210
            try dsimp only [Option.toList, List.cons_append, List.nil_append, s1C, s2C, dlC, kyC, Nat.beq, lkC, rcd, rno, rsw]
            refine ⟨fun h211 => ?_, fun h211 => ?_⟩
            · have g211 := (neI (x := r210) (y := 0) h211 : ¬ (r210 : Int32).toInt = (0 : Int32).toInt)
              have z0_ : (0 : Int32).toInt = 0 := rfl
              refine hB _ _ _ _ _ (fun m212 hm212 => ?_)
              dsimp only [ucgo, ucwp, ucsC, uqC, uoC, ctC, rfd, KX3_judgeJump, KX3_judgeJump_0, KX3_judgeJump_5, KX3_judgeJump_9, KX3_judgeJump_16, KX3_judgeJump_23, KX3_judgeJump_30, KX3_judgeJump_39, KX3_judgeJump_48, KX3_judgeJump_56, KX3_judgeJump_65, KX3_judgeJump_80, KX3_judgeJump_85, KX3_judgeJump_93, KX3_judgeJump_102, KX3_judgeJump_109, KX3_judgeJump_121, KX3_judgeJump_134, KX3_judgeJump_141, KX3_judgeJump_145, KX3_judgeJump_146, KX3_judgeJump_149, KX3_judgeJump_156, KX3_judgeJump_169, KX3_judgeJump_176, KX3_judgeJump_180, KX3_judgeJump_183, lkC, s1C, s2C, dlC, kyC, Nat.beq, Nat.ble, rcd, rno, rsw, Nat.reduceAdd, Nat.reduceBEq, Nat.reduceDiv, List.drop, List.take, List.reverse, List.reverseAux, Int.toNat, Option.toList, List.append, List.cons_append, List.nil_append, zg121, zg270, zg271, zg273, zg276, zg280, zg281]
              intro a213 e213 ob213 fk213
              cases e213
              clear fk213 ob213
              generalize hs213 : pRC σ p1 281 (some (B j170)) = s213
              have hF213 : FrE [217, 218, 281] σ s213 := FrE.pR2 FrE.rf (by decide) hs213
              have he213 : fIC s213 (E 1) 217 = fIC σ (E 1) 217 := (erx_pR hs213).trans rfl
              have hn213 : ∀ a, a < cnC σ → a ≠ p1 → fRC s213 a 281 = fRC σ a 281 := fun a9 l9 q9 => (pRx_n hs213 q9).trans ((fun _ _ _ => rfl) a9 l9 q9)
              have hSs_213 := SsC.fr hSs hF213 rfl
              have hNm_213 := NmC.fr hNm hF213 rfl
              have op_213 : SlC A B s213 z j p1 ∧ p1 < cnC s213 := by rw [hp]; exact hSs_213.1 j hj
              have o171_213 := hSs_213.1 j170 hl170
              have hR : tjT N z j = rsT z (decide (kjS z j = 65)) (j170 : Int) := (h5.trans (tg_lp (by omega) (by rw [decide_eq_false_iff_not]; omega))).trans (rs_lp (by omega)).symm
              refine hB _ _ _ _ _ (fun m214 hm214 => ?_)
              dsimp only [ucgo, ucwp, ucsC, uqC, uoC, ctC, rfd, KX3_judgeJump, KX3_judgeJump_0, KX3_judgeJump_5, KX3_judgeJump_9, KX3_judgeJump_16, KX3_judgeJump_23, KX3_judgeJump_30, KX3_judgeJump_39, KX3_judgeJump_48, KX3_judgeJump_56, KX3_judgeJump_65, KX3_judgeJump_80, KX3_judgeJump_85, KX3_judgeJump_93, KX3_judgeJump_102, KX3_judgeJump_109, KX3_judgeJump_121, KX3_judgeJump_134, KX3_judgeJump_141, KX3_judgeJump_145, KX3_judgeJump_146, KX3_judgeJump_149, KX3_judgeJump_156, KX3_judgeJump_169, KX3_judgeJump_176, KX3_judgeJump_180, KX3_judgeJump_183, lkC, s1C, s2C, dlC, kyC, Nat.beq, Nat.ble, rcd, rno, rsw, Nat.reduceAdd, Nat.reduceBEq, Nat.reduceDiv, List.drop, List.take, List.reverse, List.reverseAux, Int.toNat, Option.toList, List.append, List.cons_append, List.nil_append, zg121, zg270, zg271, zg273, zg276, zg280, zg281]
              intro a215 e215 ob215
              cases e215
              have f216 : (fRC s213 (B j170) 273) = opA B (paS z j170) := o171_213.1.1.2.2.2
              refine hB _ _ _ _ _ (fun m217 hm217 => ?_)
              dsimp only [ucgo, ucwp, ucsC, uqC, uoC, ctC, rfd, KX3_judgeJump, KX3_judgeJump_0, KX3_judgeJump_5, KX3_judgeJump_9, KX3_judgeJump_16, KX3_judgeJump_23, KX3_judgeJump_30, KX3_judgeJump_39, KX3_judgeJump_48, KX3_judgeJump_56, KX3_judgeJump_65, KX3_judgeJump_80, KX3_judgeJump_85, KX3_judgeJump_93, KX3_judgeJump_102, KX3_judgeJump_109, KX3_judgeJump_121, KX3_judgeJump_134, KX3_judgeJump_141, KX3_judgeJump_145, KX3_judgeJump_146, KX3_judgeJump_149, KX3_judgeJump_156, KX3_judgeJump_169, KX3_judgeJump_176, KX3_judgeJump_180, KX3_judgeJump_183, lkC, s1C, s2C, dlC, kyC, Nat.beq, Nat.ble, rcd, rno, rsw, Nat.reduceAdd, Nat.reduceBEq, Nat.reduceDiv, List.drop, List.take, List.reverse, List.reverseAux, Int.toNat, Option.toList, List.append, List.cons_append, List.nil_append, zg121, zg270, zg271, zg273, zg276, zg280, zg281]
              refine ⟨fun h218 => ?_, fun b218 h218 => ?_⟩
              · have hx218 := opA_nn (f216.symm.trans h218)
                exact hW _ 93 [(0, .inr (.inr (some (E 3)))), (1, .inr (.inr (some p1))), (2, .inr (.inr (fRC s213 (B j170) 273)))] _ _ _ (List.forall_mem_cons.2 ⟨List.Mem.tail _ (List.Mem.head _), List.forall_mem_cons.2 ⟨List.Mem.tail _ (List.Mem.tail _ (List.Mem.head _)), List.forall_mem_cons.2 ⟨List.Mem.head _, fun _ h => absurd h List.not_mem_nil⟩⟩⟩) (L93 _ s213 (fRC s213 (B j170) 273) (j170 : Int) hF213 he213 hn213 ((pRx_g hs213).trans ((Eq.refl (some (B j170))).trans opA_k.symm)) (by omega) (by omega) hR)
              · obtain ⟨j218, hj218, hb218⟩ := opA_j (f216.symm.trans h218)
                have hwx218 := (hwf j170 hl170).1
                have hl218 : j218 < snM z := by omega
                have o219_213 := hSs_213.1 j218 hl218
                refine hB _ _ _ _ _ (fun m220 hm220 => ?_)
                dsimp only [ucgo, ucwp, ucsC, uqC, uoC, ctC, rfd, KX3_judgeJump, KX3_judgeJump_0, KX3_judgeJump_5, KX3_judgeJump_9, KX3_judgeJump_16, KX3_judgeJump_23, KX3_judgeJump_30, KX3_judgeJump_39, KX3_judgeJump_48, KX3_judgeJump_56, KX3_judgeJump_65, KX3_judgeJump_80, KX3_judgeJump_85, KX3_judgeJump_93, KX3_judgeJump_102, KX3_judgeJump_109, KX3_judgeJump_121, KX3_judgeJump_134, KX3_judgeJump_141, KX3_judgeJump_145, KX3_judgeJump_146, KX3_judgeJump_149, KX3_judgeJump_156, KX3_judgeJump_169, KX3_judgeJump_176, KX3_judgeJump_180, KX3_judgeJump_183, lkC, s1C, s2C, dlC, kyC, Nat.beq, Nat.ble, rcd, rno, rsw, Nat.reduceAdd, Nat.reduceBEq, Nat.reduceDiv, List.drop, List.take, List.reverse, List.reverseAux, Int.toNat, Option.toList, List.append, List.cons_append, List.nil_append, zg121, zg270, zg271, zg273, zg276, zg280, zg281]
                intro a221 e221 ob221
                cases e221
                have f222 : (fRC s213 p1 281) = opA B ((j170 : Int)) := (pRx_g hs213).trans ((Eq.refl (some (B j170))).trans opA_k.symm)
                refine ⟨fun b223 h223 => ?_, fun h223 => ?_⟩
                · skip
                  exact hW _ 93 [(0, .inr (.inr (some (E 3)))), (1, .inr (.inr (some p1))), (2, .inr (.inr (fRC s213 (B j170) 273)))] _ _ _ (List.forall_mem_cons.2 ⟨List.Mem.tail _ (List.Mem.head _), List.forall_mem_cons.2 ⟨List.Mem.tail _ (List.Mem.tail _ (List.Mem.head _)), List.forall_mem_cons.2 ⟨List.Mem.head _, fun _ h => absurd h List.not_mem_nil⟩⟩⟩) (L93 _ s213 (fRC s213 (B j170) 273) (j170 : Int) hF213 he213 hn213 ((pRx_g hs213).trans ((Eq.refl (some (B j170))).trans opA_k.symm)) (by omega) (by omega) hR)
                · exact absurd ((f222.trans (opA_k)).symm.trans h223) (by intro q9; cases q9)
            · have g211 := (eqI (x := r210) (y := 0) h211 : (r210 : Int32).toInt = (0 : Int32).toInt)
              have z0_ : (0 : Int32).toInt = 0 := rfl
              refine hB _ _ _ _ _ (fun m224 hm224 => ?_)
              dsimp only [ucgo, ucwp, ucsC, uqC, uoC, ctC, rfd, KX3_judgeJump, KX3_judgeJump_0, KX3_judgeJump_5, KX3_judgeJump_9, KX3_judgeJump_16, KX3_judgeJump_23, KX3_judgeJump_30, KX3_judgeJump_39, KX3_judgeJump_48, KX3_judgeJump_56, KX3_judgeJump_65, KX3_judgeJump_80, KX3_judgeJump_85, KX3_judgeJump_93, KX3_judgeJump_102, KX3_judgeJump_109, KX3_judgeJump_121, KX3_judgeJump_134, KX3_judgeJump_141, KX3_judgeJump_145, KX3_judgeJump_146, KX3_judgeJump_149, KX3_judgeJump_156, KX3_judgeJump_169, KX3_judgeJump_176, KX3_judgeJump_180, KX3_judgeJump_183, lkC, s1C, s2C, dlC, kyC, Nat.beq, Nat.ble, rcd, rno, rsw, Nat.reduceAdd, Nat.reduceBEq, Nat.reduceDiv, List.drop, List.take, List.reverse, List.reverseAux, Int.toNat, Option.toList, List.append, List.cons_append, List.nil_append, zg121, zg270, zg271, zg273, zg276, zg280, zg281]
              intro a225 e225 ob225
              cases e225
              have f226 : (fIC σ p1 270).toInt = kjS z j := op.1.1.1
              have c227 : (Int32.ofInt 64).toInt = 64 := by decide
              refine ⟨fun h228 => ?_, fun h228 => ?_⟩
              · have g228 := (neI (x := (fIC σ p1 270)) (y := (Int32.ofInt 64)) h228 : ¬ ((fIC σ p1 270) : Int32).toInt = ((Int32.ofInt 64) : Int32).toInt)
                refine hB _ _ _ _ _ (fun m229 hm229 => ?_)
                dsimp only [ucgo, ucwp, ucsC, uqC, uoC, ctC, rfd, KX3_judgeJump, KX3_judgeJump_0, KX3_judgeJump_5, KX3_judgeJump_9, KX3_judgeJump_16, KX3_judgeJump_23, KX3_judgeJump_30, KX3_judgeJump_39, KX3_judgeJump_48, KX3_judgeJump_56, KX3_judgeJump_65, KX3_judgeJump_80, KX3_judgeJump_85, KX3_judgeJump_93, KX3_judgeJump_102, KX3_judgeJump_109, KX3_judgeJump_121, KX3_judgeJump_134, KX3_judgeJump_141, KX3_judgeJump_145, KX3_judgeJump_146, KX3_judgeJump_149, KX3_judgeJump_156, KX3_judgeJump_169, KX3_judgeJump_176, KX3_judgeJump_180, KX3_judgeJump_183, lkC, s1C, s2C, dlC, kyC, Nat.beq, Nat.ble, rcd, rno, rsw, Nat.reduceAdd, Nat.reduceBEq, Nat.reduceDiv, List.drop, List.take, List.reverse, List.reverseAux, Int.toNat, Option.toList, List.append, List.cons_append, List.nil_append, zg121, zg270, zg271, zg273, zg276, zg280, zg281]
                intro a230 e230 ob230
                cases e230
                have f231 : (fRC σ (B j170) 273) = opA B (paS z j170) := o171.1.1.2.2.2
                rw [f231]
                exact hW _ 5 [(0, .inr (.inr (some (E 3)))), (1, .inr (.inr (some p1))), (2, .inr (.inr (opA B (paS z j170))))] _ _ _ (List.forall_mem_cons.2 ⟨List.Mem.tail _ (List.Mem.head _), List.forall_mem_cons.2 ⟨List.Mem.tail _ (List.Mem.tail _ (List.Mem.head _)), List.forall_mem_cons.2 ⟨List.Mem.head _, fun _ h => absurd h List.not_mem_nil⟩⟩⟩) (ih _ (by omega) (paS z j170) k9 (by have := (hwf j170 hl170).1; omega) (h5.trans (tg_go (by omega) (by rw [decide_eq_false_iff_not]; omega))))
              · have g228 := (eqI (x := (fIC σ p1 270)) (y := (Int32.ofInt 64)) h228 : ((fIC σ p1 270) : Int32).toInt = ((Int32.ofInt 64) : Int32).toInt)
                refine hB _ _ _ _ _ (fun m232 hm232 => ?_)
                dsimp only [ucgo, ucwp, ucsC, uqC, uoC, ctC, rfd, KX3_judgeJump, KX3_judgeJump_0, KX3_judgeJump_5, KX3_judgeJump_9, KX3_judgeJump_16, KX3_judgeJump_23, KX3_judgeJump_30, KX3_judgeJump_39, KX3_judgeJump_48, KX3_judgeJump_56, KX3_judgeJump_65, KX3_judgeJump_80, KX3_judgeJump_85, KX3_judgeJump_93, KX3_judgeJump_102, KX3_judgeJump_109, KX3_judgeJump_121, KX3_judgeJump_134, KX3_judgeJump_141, KX3_judgeJump_145, KX3_judgeJump_146, KX3_judgeJump_149, KX3_judgeJump_156, KX3_judgeJump_169, KX3_judgeJump_176, KX3_judgeJump_180, KX3_judgeJump_183, lkC, s1C, s2C, dlC, kyC, Nat.beq, Nat.ble, rcd, rno, rsw, Nat.reduceAdd, Nat.reduceBEq, Nat.reduceDiv, List.drop, List.take, List.reverse, List.reverseAux, Int.toNat, Option.toList, List.append, List.cons_append, List.nil_append, zg121, zg270, zg271, zg273, zg276, zg280, zg281]
                intro a233 e233 ob233
                cases e233
                have f234 : (fIC σ (B j170) 270).toInt = kjS z j170 := o171.1.1.1
                have c235 : (Int32.ofInt 61).toInt = 61 := by decide
                refine ⟨fun h236 => ?_, fun h236 => ?_⟩
                · have g236 := (neI (x := (fIC σ (B j170) 270)) (y := (Int32.ofInt 61)) h236 : ¬ ((fIC σ (B j170) 270) : Int32).toInt = ((Int32.ofInt 61) : Int32).toInt)
                  refine hB _ _ _ _ _ (fun m237 hm237 => ?_)
                  dsimp only [ucgo, ucwp, ucsC, uqC, uoC, ctC, rfd, KX3_judgeJump, KX3_judgeJump_0, KX3_judgeJump_5, KX3_judgeJump_9, KX3_judgeJump_16, KX3_judgeJump_23, KX3_judgeJump_30, KX3_judgeJump_39, KX3_judgeJump_48, KX3_judgeJump_56, KX3_judgeJump_65, KX3_judgeJump_80, KX3_judgeJump_85, KX3_judgeJump_93, KX3_judgeJump_102, KX3_judgeJump_109, KX3_judgeJump_121, KX3_judgeJump_134, KX3_judgeJump_141, KX3_judgeJump_145, KX3_judgeJump_146, KX3_judgeJump_149, KX3_judgeJump_156, KX3_judgeJump_169, KX3_judgeJump_176, KX3_judgeJump_180, KX3_judgeJump_183, lkC, s1C, s2C, dlC, kyC, Nat.beq, Nat.ble, rcd, rno, rsw, Nat.reduceAdd, Nat.reduceBEq, Nat.reduceDiv, List.drop, List.take, List.reverse, List.reverseAux, Int.toNat, Option.toList, List.append, List.cons_append, List.nil_append, zg121, zg270, zg271, zg273, zg276, zg280, zg281]
                  intro a238 e238 ob238
                  cases e238
                  have f239 : (fRC σ (B j170) 273) = opA B (paS z j170) := o171.1.1.2.2.2
                  rw [f239]
                  exact hW _ 5 [(0, .inr (.inr (some (E 3)))), (1, .inr (.inr (some p1))), (2, .inr (.inr (opA B (paS z j170))))] _ _ _ (List.forall_mem_cons.2 ⟨List.Mem.tail _ (List.Mem.head _), List.forall_mem_cons.2 ⟨List.Mem.tail _ (List.Mem.tail _ (List.Mem.head _)), List.forall_mem_cons.2 ⟨List.Mem.head _, fun _ h => absurd h List.not_mem_nil⟩⟩⟩) (ih _ (by omega) (paS z j170) k9 (by have := (hwf j170 hl170).1; omega) (h5.trans (tg_go (by omega) (by rw [decide_eq_false_iff_not]; omega))))
                · have g236 := (eqI (x := (fIC σ (B j170) 270)) (y := (Int32.ofInt 61)) h236 : ((fIC σ (B j170) 270) : Int32).toInt = ((Int32.ofInt 61) : Int32).toInt)
                  refine hB _ _ _ _ _ (fun m240 hm240 => ?_)
                  dsimp only [ucgo, ucwp, ucsC, uqC, uoC, ctC, rfd, KX3_judgeJump, KX3_judgeJump_0, KX3_judgeJump_5, KX3_judgeJump_9, KX3_judgeJump_16, KX3_judgeJump_23, KX3_judgeJump_30, KX3_judgeJump_39, KX3_judgeJump_48, KX3_judgeJump_56, KX3_judgeJump_65, KX3_judgeJump_80, KX3_judgeJump_85, KX3_judgeJump_93, KX3_judgeJump_102, KX3_judgeJump_109, KX3_judgeJump_121, KX3_judgeJump_134, KX3_judgeJump_141, KX3_judgeJump_145, KX3_judgeJump_146, KX3_judgeJump_149, KX3_judgeJump_156, KX3_judgeJump_169, KX3_judgeJump_176, KX3_judgeJump_180, KX3_judgeJump_183, lkC, s1C, s2C, dlC, kyC, Nat.beq, Nat.ble, rcd, rno, rsw, Nat.reduceAdd, Nat.reduceBEq, Nat.reduceDiv, List.drop, List.take, List.reverse, List.reverseAux, Int.toNat, Option.toList, List.append, List.cons_append, List.nil_append, zg121, zg270, zg271, zg273, zg276, zg280, zg281]
                  intro a241 e241 ob241 fk241
                  cases e241
                  clear fk241 ob241
                  generalize hs241 : pRC σ p1 281 (some (B j170)) = s241
                  have hF241 : FrE [217, 218, 281] σ s241 := FrE.pR2 FrE.rf (by decide) hs241
                  have he241 : fIC s241 (E 1) 217 = fIC σ (E 1) 217 := (erx_pR hs241).trans rfl
                  have hn241 : ∀ a, a < cnC σ → a ≠ p1 → fRC s241 a 281 = fRC σ a 281 := fun a9 l9 q9 => (pRx_n hs241 q9).trans ((fun _ _ _ => rfl) a9 l9 q9)
                  have hSs_241 := SsC.fr hSs hF241 rfl
                  have hNm_241 := NmC.fr hNm hF241 rfl
                  have op_241 : SlC A B s241 z j p1 ∧ p1 < cnC s241 := by rw [hp]; exact hSs_241.1 j hj
                  have o171_241 := hSs_241.1 j170 hl170
                  have hR : tjT N z j = rsT z (decide (kjS z j = 65)) (j170 : Int) := (h5.trans (tg_lp (by omega) (by rw [decide_eq_false_iff_not]; omega))).trans (rs_lp (by omega)).symm
                  refine hB _ _ _ _ _ (fun m242 hm242 => ?_)
                  dsimp only [ucgo, ucwp, ucsC, uqC, uoC, ctC, rfd, KX3_judgeJump, KX3_judgeJump_0, KX3_judgeJump_5, KX3_judgeJump_9, KX3_judgeJump_16, KX3_judgeJump_23, KX3_judgeJump_30, KX3_judgeJump_39, KX3_judgeJump_48, KX3_judgeJump_56, KX3_judgeJump_65, KX3_judgeJump_80, KX3_judgeJump_85, KX3_judgeJump_93, KX3_judgeJump_102, KX3_judgeJump_109, KX3_judgeJump_121, KX3_judgeJump_134, KX3_judgeJump_141, KX3_judgeJump_145, KX3_judgeJump_146, KX3_judgeJump_149, KX3_judgeJump_156, KX3_judgeJump_169, KX3_judgeJump_176, KX3_judgeJump_180, KX3_judgeJump_183, lkC, s1C, s2C, dlC, kyC, Nat.beq, Nat.ble, rcd, rno, rsw, Nat.reduceAdd, Nat.reduceBEq, Nat.reduceDiv, List.drop, List.take, List.reverse, List.reverseAux, Int.toNat, Option.toList, List.append, List.cons_append, List.nil_append, zg121, zg270, zg271, zg273, zg276, zg280, zg281]
                  intro a243 e243 ob243
                  cases e243
                  have f244 : (fRC s241 (B j170) 273) = opA B (paS z j170) := o171_241.1.1.2.2.2
                  refine hB _ _ _ _ _ (fun m245 hm245 => ?_)
                  dsimp only [ucgo, ucwp, ucsC, uqC, uoC, ctC, rfd, KX3_judgeJump, KX3_judgeJump_0, KX3_judgeJump_5, KX3_judgeJump_9, KX3_judgeJump_16, KX3_judgeJump_23, KX3_judgeJump_30, KX3_judgeJump_39, KX3_judgeJump_48, KX3_judgeJump_56, KX3_judgeJump_65, KX3_judgeJump_80, KX3_judgeJump_85, KX3_judgeJump_93, KX3_judgeJump_102, KX3_judgeJump_109, KX3_judgeJump_121, KX3_judgeJump_134, KX3_judgeJump_141, KX3_judgeJump_145, KX3_judgeJump_146, KX3_judgeJump_149, KX3_judgeJump_156, KX3_judgeJump_169, KX3_judgeJump_176, KX3_judgeJump_180, KX3_judgeJump_183, lkC, s1C, s2C, dlC, kyC, Nat.beq, Nat.ble, rcd, rno, rsw, Nat.reduceAdd, Nat.reduceBEq, Nat.reduceDiv, List.drop, List.take, List.reverse, List.reverseAux, Int.toNat, Option.toList, List.append, List.cons_append, List.nil_append, zg121, zg270, zg271, zg273, zg276, zg280, zg281]
                  refine ⟨fun h246 => ?_, fun b246 h246 => ?_⟩
                  · have hx246 := opA_nn (f244.symm.trans h246)
                    exact hW _ 93 [(0, .inr (.inr (some (E 3)))), (1, .inr (.inr (some p1))), (2, .inr (.inr (fRC s241 (B j170) 273)))] _ _ _ (List.forall_mem_cons.2 ⟨List.Mem.tail _ (List.Mem.head _), List.forall_mem_cons.2 ⟨List.Mem.tail _ (List.Mem.tail _ (List.Mem.head _)), List.forall_mem_cons.2 ⟨List.Mem.head _, fun _ h => absurd h List.not_mem_nil⟩⟩⟩) (L93 _ s241 (fRC s241 (B j170) 273) (j170 : Int) hF241 he241 hn241 ((pRx_g hs241).trans ((Eq.refl (some (B j170))).trans opA_k.symm)) (by omega) (by omega) hR)
                  · obtain ⟨j246, hj246, hb246⟩ := opA_j (f244.symm.trans h246)
                    have hwx246 := (hwf j170 hl170).1
                    have hl246 : j246 < snM z := by omega
                    have o247_241 := hSs_241.1 j246 hl246
                    refine hB _ _ _ _ _ (fun m248 hm248 => ?_)
                    dsimp only [ucgo, ucwp, ucsC, uqC, uoC, ctC, rfd, KX3_judgeJump, KX3_judgeJump_0, KX3_judgeJump_5, KX3_judgeJump_9, KX3_judgeJump_16, KX3_judgeJump_23, KX3_judgeJump_30, KX3_judgeJump_39, KX3_judgeJump_48, KX3_judgeJump_56, KX3_judgeJump_65, KX3_judgeJump_80, KX3_judgeJump_85, KX3_judgeJump_93, KX3_judgeJump_102, KX3_judgeJump_109, KX3_judgeJump_121, KX3_judgeJump_134, KX3_judgeJump_141, KX3_judgeJump_145, KX3_judgeJump_146, KX3_judgeJump_149, KX3_judgeJump_156, KX3_judgeJump_169, KX3_judgeJump_176, KX3_judgeJump_180, KX3_judgeJump_183, lkC, s1C, s2C, dlC, kyC, Nat.beq, Nat.ble, rcd, rno, rsw, Nat.reduceAdd, Nat.reduceBEq, Nat.reduceDiv, List.drop, List.take, List.reverse, List.reverseAux, Int.toNat, Option.toList, List.append, List.cons_append, List.nil_append, zg121, zg270, zg271, zg273, zg276, zg280, zg281]
                    intro a249 e249 ob249
                    cases e249
                    have f250 : (fRC s241 p1 281) = opA B ((j170 : Int)) := (pRx_g hs241).trans ((Eq.refl (some (B j170))).trans opA_k.symm)
                    refine ⟨fun b251 h251 => ?_, fun h251 => ?_⟩
                    · skip
                      exact hW _ 93 [(0, .inr (.inr (some (E 3)))), (1, .inr (.inr (some p1))), (2, .inr (.inr (fRC s241 (B j170) 273)))] _ _ _ (List.forall_mem_cons.2 ⟨List.Mem.tail _ (List.Mem.head _), List.forall_mem_cons.2 ⟨List.Mem.tail _ (List.Mem.tail _ (List.Mem.head _)), List.forall_mem_cons.2 ⟨List.Mem.head _, fun _ h => absurd h List.not_mem_nil⟩⟩⟩) (L93 _ s241 (fRC s241 (B j170) 273) (j170 : Int) hF241 he241 hn241 ((pRx_g hs241).trans ((Eq.refl (some (B j170))).trans opA_k.symm)) (by omega) (by omega) hR)
                    · exact absurd ((f250.trans (opA_k)).symm.trans h251) (by intro q9; cases q9)
  change K n_ 0 [(0, .inr (.inr (some (E 3)))), (1, .inr (.inr (some p1)))] [] σ
  refine hB _ _ _ _ _ (fun m252 hm252 => ?_)
  dsimp only [ucgo, ucwp, ucsC, uqC, uoC, ctC, rfd, KX3_judgeJump, KX3_judgeJump_0, KX3_judgeJump_5, KX3_judgeJump_9, KX3_judgeJump_16, KX3_judgeJump_23, KX3_judgeJump_30, KX3_judgeJump_39, KX3_judgeJump_48, KX3_judgeJump_56, KX3_judgeJump_65, KX3_judgeJump_80, KX3_judgeJump_85, KX3_judgeJump_93, KX3_judgeJump_102, KX3_judgeJump_109, KX3_judgeJump_121, KX3_judgeJump_134, KX3_judgeJump_141, KX3_judgeJump_145, KX3_judgeJump_146, KX3_judgeJump_149, KX3_judgeJump_156, KX3_judgeJump_169, KX3_judgeJump_176, KX3_judgeJump_180, KX3_judgeJump_183, lkC, s1C, s2C, dlC, kyC, Nat.beq, Nat.ble, rcd, rno, rsw, Nat.reduceAdd, Nat.reduceBEq, Nat.reduceDiv, List.drop, List.take, List.reverse, List.reverseAux, Int.toNat, Option.toList, List.append, List.cons_append, List.nil_append, zg121, zg270, zg271, zg273, zg276, zg280, zg281]
  intro a253 e253 ob253
  cases e253
  have f254 : (fRC σ p1 273) = opA B (paS z j) := op.1.1.2.2.2
  rw [f254]
  exact hW _ 5 [(0, .inr (.inr (some (E 3)))), (1, .inr (.inr (some p1))), (2, .inr (.inr (opA B (paS z j))))] _ _ _ (List.forall_mem_cons.2 ⟨List.Mem.tail _ (List.Mem.head _), List.forall_mem_cons.2 ⟨List.Mem.tail _ (List.Mem.tail _ (List.Mem.head _)), List.forall_mem_cons.2 ⟨List.Mem.head _, fun _ h => absurd h List.not_mem_nil⟩⟩⟩) (L5 _ (paS z j) (snM z) (by have := (hwf j hj).1; omega) rfl)
theorem wz_judgeJump : ∀ (L : Nat) (As : List AvC) (σ : CsC) (w : Option AvC) (τ : CsC), EvF L 83 As σ w τ → Uz_judgeJump As σ w τ := by
  intro L
  cases L with
  | zero => exact fun _ _ _ _ h => h.elim
  | succ L => exact fun As σ w τ h y hy => EvF.us (cs := [118, 179, 84]) (pz_judgeJump y) rfl (List.forall_mem_cons.2 ⟨wz_tell L, List.forall_mem_cons.2 ⟨wz_isLoop L, List.forall_mem_cons.2 ⟨wz_isSameName L, fun _ h => absurd h List.not_mem_nil⟩⟩⟩) h hy
abbrev Pz_judgeReturn : ((Int → Int) × (Nat → Nat) × (Nat → Nat) × (Nat → Nat) × (Nat → Nat) × ZS × TbT × MfT × Nat × Nat × MtT) → CpC := fun y As σ => match y with
  | (N, E, A, B, V, z, T, ms, nm, j, m) => ∃ (p1 : Nat), As = [.inr (.inr (some (E 3))), .inr (.inr (some p1))] ∧ (SsC E A B σ z T ms nm) ∧ (NmC N E σ) ∧ (WfS z T) ∧ (j < snM z) ∧ (p1 = B j) ∧ (0 ≤ ljS z j ∧ ms (ljS z j).toNat = some m)
abbrev Qz_judgeReturn : ((Int → Int) × (Nat → Nat) × (Nat → Nat) × (Nat → Nat) × (Nat → Nat) × ZS × TbT × MfT × Nat × Nat × MtT) → CqC := fun y As σ w τ => match y, As with
  | (N, E, A, B, V, z, T, ms, nm, j, m), [_, .inr (.inr (some p1))] => w = none ∧ (erC E τ ↔ erC E σ ∨ ¬ rtT' z T m j)
  | _, _ => True
abbrev Uz_judgeReturn : CqC := fun As σ w τ => ∀ y, Pz_judgeReturn y As σ → Qz_judgeReturn y As σ w τ
set_option maxHeartbeats 4000000 in
theorem pz_judgeReturn (y : (Int → Int) × (Nat → Nat) × (Nat → Nat) × (Nat → Nat) × (Nat → Nat) × ZS × TbT × MfT × Nat × Nat × MtT) : PbC KX3_judgeReturn [(119, TrP, EqC 119), (118, TrP, EqC 118), (52, TrP, EqC 52), (75, TrP, EqC 75), (62, TrP, EqC 62)] [(119, Uz_methodOf), (118, Uz_tell), (52, Uz_isFaulty), (75, Uz_fits), (62, Uz_isWanted)] (fun As σ => Pz_judgeReturn y As σ ∧ cnC σ ≤ 1000000 ∧ ∃ w τ, uqC quL 86 As σ w τ) (Qz_judgeReturn y) := by
  obtain ⟨N, E, A, B, V, z, T, ms, nm, j, m⟩ := y
  rintro As σ ⟨⟨p1, rfl, hSs, hNm, hwf, hj, hp, hm⟩, hcn, _, _, hQ⟩ K hB hW n_
  have op : SlC A B σ z j p1 ∧ p1 < cnC σ := by rw [hp]; exact hSs.1 j hj
  change K n_ 0 [(0, .inr (.inr (some (E 3)))), (1, .inr (.inr (some p1)))] [] σ
  refine hB _ _ _ _ _ (fun m51 hm51 => ?_)
  dsimp only [ucgo, ucwp, ucsC, uqC, uoC, ctC, rfd, KX3_judgeReturn, KX3_judgeReturn_0, KX3_judgeReturn_16, KX3_judgeReturn_23, KX3_judgeReturn_33, KX3_judgeReturn_34, KX3_judgeReturn_41, KX3_judgeReturn_45, KX3_judgeReturn_46, KX3_judgeReturn_54, KX3_judgeReturn_58, KX3_judgeReturn_59, KX3_judgeReturn_62, KX3_judgeReturn_78, KX3_judgeReturn_85, KX3_judgeReturn_108, lkC, s1C, s2C, dlC, kyC, Nat.beq, Nat.ble, rcd, rno, rsw, Nat.reduceAdd, Nat.reduceBEq, Nat.reduceDiv, List.drop, List.take, List.reverse, List.reverseAux, Int.toNat, Option.toList, List.append, List.cons_append, List.nil_append, zg62, zg121, zg182, zg271, zg279, zg280]
  intro a52 e52 ob52
  cases e52
  intro a54 e54 ob54
  cases e54
  have f55 : (fIC σ p1 280).toInt = ljS z j := op.1.2.2.2.2.2.2
  rw [hNm.1.1]
  try dsimp only
  intro w56 τ56 o56 q56
  obtain ⟨rfl, qq56⟩ := q56 (N, E, A, B, V, z, ms, nm) ⟨_, rfl, hSs.2.2.1.1⟩
  rw [show ((fIC σ p1 280) : Int32).toInt = ljS z j by omega] at qq56
  obtain ⟨mo, hmo⟩ : ∃ o, MoE E (ljS z j).toNat = o := ⟨_, rfl⟩
  obtain rfl : w56 = some (.inr (.inr (some mo))) := by
    rcases qq56 with ⟨m9, hi9, hm9, q9⟩ | ⟨hm9, q9⟩
    · rw [q9, hmo]
    · rw [hm9 hm.1] at hm; cases hm.2
  have hmk : MkC σ m mo := by rw [← hmo]; exact (hSs.2.2.1.1.2.2.2.1 _ _ hm.2).2
  try dsimp only [Option.toList, List.cons_append, List.nil_append, s1C, s2C, dlC, kyC, Nat.beq, lkC, rcd, rno, rsw]
  refine ⟨fun h57 => ?_, fun b57 h57 => ?_⟩
  · exact absurd ((Eq.refl (some mo)).symm.trans h57) (by intro q9; cases q9)
  · skip
    refine hB _ _ _ _ _ (fun m58 hm58 => ?_)
    dsimp only [ucgo, ucwp, ucsC, uqC, uoC, ctC, rfd, KX3_judgeReturn, KX3_judgeReturn_0, KX3_judgeReturn_16, KX3_judgeReturn_23, KX3_judgeReturn_33, KX3_judgeReturn_34, KX3_judgeReturn_41, KX3_judgeReturn_45, KX3_judgeReturn_46, KX3_judgeReturn_54, KX3_judgeReturn_58, KX3_judgeReturn_59, KX3_judgeReturn_62, KX3_judgeReturn_78, KX3_judgeReturn_85, KX3_judgeReturn_108, lkC, s1C, s2C, dlC, kyC, Nat.beq, Nat.ble, rcd, rno, rsw, Nat.reduceAdd, Nat.reduceBEq, Nat.reduceDiv, List.drop, List.take, List.reverse, List.reverseAux, Int.toNat, Option.toList, List.append, List.cons_append, List.nil_append, zg62, zg121, zg182, zg271, zg279, zg280]
    intro a59 e59 ob59
    cases e59
    have f60 : (fRC σ p1 279) = opA A (xjS z j) := op.1.2.2.2.2.2.1
    refine ⟨fun h61 => ?_, fun b61 h61 => ?_⟩
    · have hx61 := opA_nn (f60.symm.trans h61)
      refine hB _ _ _ _ _ (fun m62 hm62 => ?_)
      dsimp only [ucgo, ucwp, ucsC, uqC, uoC, ctC, rfd, KX3_judgeReturn, KX3_judgeReturn_0, KX3_judgeReturn_16, KX3_judgeReturn_23, KX3_judgeReturn_33, KX3_judgeReturn_34, KX3_judgeReturn_41, KX3_judgeReturn_45, KX3_judgeReturn_46, KX3_judgeReturn_54, KX3_judgeReturn_58, KX3_judgeReturn_59, KX3_judgeReturn_62, KX3_judgeReturn_78, KX3_judgeReturn_85, KX3_judgeReturn_108, lkC, s1C, s2C, dlC, kyC, Nat.beq, Nat.ble, rcd, rno, rsw, Nat.reduceAdd, Nat.reduceBEq, Nat.reduceDiv, List.drop, List.take, List.reverse, List.reverseAux, Int.toNat, Option.toList, List.append, List.cons_append, List.nil_append, zg62, zg121, zg182, zg271, zg279, zg280]
      intro a63 e63 ob63
      cases e63
      have f64 : (fRC σ p1 279) = opA A (xjS z j) := op.1.2.2.2.2.2.1
      refine ⟨fun b65 h65 => ?_, fun h65 => ?_⟩
      · exact absurd (f64.symm.trans h65) (by rw [opA_n hx61]; intro q9; cases q9)
      · have hx65 := opA_nn (f64.symm.trans h65)
        refine hB _ _ _ _ _ (fun m66 hm66 => ?_)
        dsimp only [ucgo, ucwp, ucsC, uqC, uoC, ctC, rfd, KX3_judgeReturn, KX3_judgeReturn_0, KX3_judgeReturn_16, KX3_judgeReturn_23, KX3_judgeReturn_33, KX3_judgeReturn_34, KX3_judgeReturn_41, KX3_judgeReturn_45, KX3_judgeReturn_46, KX3_judgeReturn_54, KX3_judgeReturn_58, KX3_judgeReturn_59, KX3_judgeReturn_62, KX3_judgeReturn_78, KX3_judgeReturn_85, KX3_judgeReturn_108, lkC, s1C, s2C, dlC, kyC, Nat.beq, Nat.ble, rcd, rno, rsw, Nat.reduceAdd, Nat.reduceBEq, Nat.reduceDiv, List.drop, List.take, List.reverse, List.reverseAux, Int.toNat, Option.toList, List.append, List.cons_append, List.nil_append, zg62, zg121, zg182, zg271, zg279, zg280]
        have c67 : (Int32.ofInt 1).toInt = 1 := by decide
        refine hB _ _ _ _ _ (fun m68 hm68 => ?_)
        dsimp only [ucgo, ucwp, ucsC, uqC, uoC, ctC, rfd, KX3_judgeReturn, KX3_judgeReturn_0, KX3_judgeReturn_16, KX3_judgeReturn_23, KX3_judgeReturn_33, KX3_judgeReturn_34, KX3_judgeReturn_41, KX3_judgeReturn_45, KX3_judgeReturn_46, KX3_judgeReturn_54, KX3_judgeReturn_58, KX3_judgeReturn_59, KX3_judgeReturn_62, KX3_judgeReturn_78, KX3_judgeReturn_85, KX3_judgeReturn_108, lkC, s1C, s2C, dlC, kyC, Nat.beq, Nat.ble, rcd, rno, rsw, Nat.reduceAdd, Nat.reduceBEq, Nat.reduceDiv, List.drop, List.take, List.reverse, List.reverseAux, Int.toNat, Option.toList, List.append, List.cons_append, List.nil_append, zg62, zg121, zg182, zg271, zg279, zg280]
        intro a69 e69 ob69
        cases e69
        have f70 : (fIC σ mo 182).toInt = m.2.1 := hmk.2.1
        have c71 : (Int32.ofInt 5).toInt = 5 := by decide
        refine ⟨fun h72 => ?_, fun h72 => ?_⟩
        · have g72 := (neI (x := (fIC σ mo 182)) (y := (Int32.ofInt 5)) h72 : ¬ ((fIC σ mo 182) : Int32).toInt = ((Int32.ofInt 5) : Int32).toInt)
          refine hB _ _ _ _ _ (fun m73 hm73 => ?_)
          dsimp only [ucgo, ucwp, ucsC, uqC, uoC, ctC, rfd, KX3_judgeReturn, KX3_judgeReturn_0, KX3_judgeReturn_16, KX3_judgeReturn_23, KX3_judgeReturn_33, KX3_judgeReturn_34, KX3_judgeReturn_41, KX3_judgeReturn_45, KX3_judgeReturn_46, KX3_judgeReturn_54, KX3_judgeReturn_58, KX3_judgeReturn_59, KX3_judgeReturn_62, KX3_judgeReturn_78, KX3_judgeReturn_85, KX3_judgeReturn_108, lkC, s1C, s2C, dlC, kyC, Nat.beq, Nat.ble, rcd, rno, rsw, Nat.reduceAdd, Nat.reduceBEq, Nat.reduceDiv, List.drop, List.take, List.reverse, List.reverseAux, Int.toNat, Option.toList, List.append, List.cons_append, List.nil_append, zg62, zg121, zg182, zg271, zg279, zg280]
          have c74 : (Int32.ofInt 0).toInt = 0 := by decide
          refine hB _ _ _ _ _ (fun m75 hm75 => ?_)
          dsimp only [ucgo, ucwp, ucsC, uqC, uoC, ctC, rfd, KX3_judgeReturn, KX3_judgeReturn_0, KX3_judgeReturn_16, KX3_judgeReturn_23, KX3_judgeReturn_33, KX3_judgeReturn_34, KX3_judgeReturn_41, KX3_judgeReturn_45, KX3_judgeReturn_46, KX3_judgeReturn_54, KX3_judgeReturn_58, KX3_judgeReturn_59, KX3_judgeReturn_62, KX3_judgeReturn_78, KX3_judgeReturn_85, KX3_judgeReturn_108, lkC, s1C, s2C, dlC, kyC, Nat.beq, Nat.ble, rcd, rno, rsw, Nat.reduceAdd, Nat.reduceBEq, Nat.reduceDiv, List.drop, List.take, List.reverse, List.reverseAux, Int.toNat, Option.toList, List.append, List.cons_append, List.nil_append, zg62, zg121, zg182, zg271, zg279, zg280]
          refine ⟨fun h76 => ?_, fun h76 => ?_⟩
          · have g76 := (eqI (x := (Int32.ofInt 1)) (y := (Int32.ofInt 0)) h76 : ((Int32.ofInt 1) : Int32).toInt = ((Int32.ofInt 0) : Int32).toInt)
            have z0_ : (0 : Int32).toInt = 0 := rfl
            exfalso
            omega
          · have g76 := (neI (x := (Int32.ofInt 1)) (y := (Int32.ofInt 0)) h76 : ¬ ((Int32.ofInt 1) : Int32).toInt = ((Int32.ofInt 0) : Int32).toInt)
            refine hB _ _ _ _ _ (fun m77 hm77 => ?_)
            dsimp only [ucgo, ucwp, ucsC, uqC, uoC, ctC, rfd, KX3_judgeReturn, KX3_judgeReturn_0, KX3_judgeReturn_16, KX3_judgeReturn_23, KX3_judgeReturn_33, KX3_judgeReturn_34, KX3_judgeReturn_41, KX3_judgeReturn_45, KX3_judgeReturn_46, KX3_judgeReturn_54, KX3_judgeReturn_58, KX3_judgeReturn_59, KX3_judgeReturn_62, KX3_judgeReturn_78, KX3_judgeReturn_85, KX3_judgeReturn_108, lkC, s1C, s2C, dlC, kyC, Nat.beq, Nat.ble, rcd, rno, rsw, Nat.reduceAdd, Nat.reduceBEq, Nat.reduceDiv, List.drop, List.take, List.reverse, List.reverseAux, Int.toNat, Option.toList, List.append, List.cons_append, List.nil_append, zg62, zg121, zg182, zg271, zg279, zg280]
            intro a78 e78 ob78
            cases e78
            have c80 : (Int32.ofInt 11).toInt = 11 := by decide
            intro a81 e81 ob81
            cases e81
            have f82 : (fIC σ p1 271).toInt = fiS z j := op.1.1.2.1
            rw [hNm.1.1]
            try dsimp only
            intro w83 τ83 o83 q83
            obtain ⟨rfl, hb83⟩ := q83 (N, E, A, B, V, z) ⟨_, _, rfl, by omega⟩
            have hF83 : FrE [217, 218] σ τ83 := FrE.mo o83.2 rfl
            have hSs_83 := SsC.fr hSs hF83 rfl
            have hNm_83 := NmC.fr hNm hF83 rfl
            have op_83 : SlC A B τ83 z j p1 ∧ p1 < cnC τ83 := by rw [hp]; exact hSs_83.1 j hj
            try dsimp only [Option.toList, List.cons_append, List.nil_append, s1C, s2C, dlC, kyC, Nat.beq, lkC, rcd, rno, rsw]
            refine hB _ _ _ _ _ (fun m84 hm84 => ?_)
            dsimp only [ucgo, ucwp, ucsC, uqC, uoC, ctC, rfd, KX3_judgeReturn, KX3_judgeReturn_0, KX3_judgeReturn_16, KX3_judgeReturn_23, KX3_judgeReturn_33, KX3_judgeReturn_34, KX3_judgeReturn_41, KX3_judgeReturn_45, KX3_judgeReturn_46, KX3_judgeReturn_54, KX3_judgeReturn_58, KX3_judgeReturn_59, KX3_judgeReturn_62, KX3_judgeReturn_78, KX3_judgeReturn_85, KX3_judgeReturn_108, lkC, s1C, s2C, dlC, kyC, Nat.beq, Nat.ble, rcd, rno, rsw, Nat.reduceAdd, Nat.reduceBEq, Nat.reduceDiv, List.drop, List.take, List.reverse, List.reverseAux, Int.toNat, Option.toList, List.append, List.cons_append, List.nil_append, zg62, zg121, zg182, zg271, zg279, zg280]
            try dsimp only [Qz_judgeReturn]
            exact fun τ9 h9 => ⟨rfl, (er_we h9).trans (iff_of_true hb83 (Or.inr (by unfold rtT'; intro q9; obtain ⟨q7, q8⟩ := q9; omega)))⟩
        · have g72 := (eqI (x := (fIC σ mo 182)) (y := (Int32.ofInt 5)) h72 : ((fIC σ mo 182) : Int32).toInt = ((Int32.ofInt 5) : Int32).toInt)
          refine hB _ _ _ _ _ (fun m85 hm85 => ?_)
          dsimp only [ucgo, ucwp, ucsC, uqC, uoC, ctC, rfd, KX3_judgeReturn, KX3_judgeReturn_0, KX3_judgeReturn_16, KX3_judgeReturn_23, KX3_judgeReturn_33, KX3_judgeReturn_34, KX3_judgeReturn_41, KX3_judgeReturn_45, KX3_judgeReturn_46, KX3_judgeReturn_54, KX3_judgeReturn_58, KX3_judgeReturn_59, KX3_judgeReturn_62, KX3_judgeReturn_78, KX3_judgeReturn_85, KX3_judgeReturn_108, lkC, s1C, s2C, dlC, kyC, Nat.beq, Nat.ble, rcd, rno, rsw, Nat.reduceAdd, Nat.reduceBEq, Nat.reduceDiv, List.drop, List.take, List.reverse, List.reverseAux, Int.toNat, Option.toList, List.append, List.cons_append, List.nil_append, zg62, zg121, zg182, zg271, zg279, zg280]
          have c86 : (Int32.ofInt 1).toInt = 1 := by decide
          refine hB _ _ _ _ _ (fun m87 hm87 => ?_)
          dsimp only [ucgo, ucwp, ucsC, uqC, uoC, ctC, rfd, KX3_judgeReturn, KX3_judgeReturn_0, KX3_judgeReturn_16, KX3_judgeReturn_23, KX3_judgeReturn_33, KX3_judgeReturn_34, KX3_judgeReturn_41, KX3_judgeReturn_45, KX3_judgeReturn_46, KX3_judgeReturn_54, KX3_judgeReturn_58, KX3_judgeReturn_59, KX3_judgeReturn_62, KX3_judgeReturn_78, KX3_judgeReturn_85, KX3_judgeReturn_108, lkC, s1C, s2C, dlC, kyC, Nat.beq, Nat.ble, rcd, rno, rsw, Nat.reduceAdd, Nat.reduceBEq, Nat.reduceDiv, List.drop, List.take, List.reverse, List.reverseAux, Int.toNat, Option.toList, List.append, List.cons_append, List.nil_append, zg62, zg121, zg182, zg271, zg279, zg280]
          refine ⟨fun h88 => ?_, fun h88 => ?_⟩
          · have g88 := (eqI (x := (Int32.ofInt 1)) (y := (Int32.ofInt 1)) h88 : ((Int32.ofInt 1) : Int32).toInt = ((Int32.ofInt 1) : Int32).toInt)
            refine hB _ _ _ _ _ (fun m89 hm89 => ?_)
            dsimp only [ucgo, ucwp, ucsC, uqC, uoC, ctC, rfd, KX3_judgeReturn, KX3_judgeReturn_0, KX3_judgeReturn_16, KX3_judgeReturn_23, KX3_judgeReturn_33, KX3_judgeReturn_34, KX3_judgeReturn_41, KX3_judgeReturn_45, KX3_judgeReturn_46, KX3_judgeReturn_54, KX3_judgeReturn_58, KX3_judgeReturn_59, KX3_judgeReturn_62, KX3_judgeReturn_78, KX3_judgeReturn_85, KX3_judgeReturn_108, lkC, s1C, s2C, dlC, kyC, Nat.beq, Nat.ble, rcd, rno, rsw, Nat.reduceAdd, Nat.reduceBEq, Nat.reduceDiv, List.drop, List.take, List.reverse, List.reverseAux, Int.toNat, Option.toList, List.append, List.cons_append, List.nil_append, zg62, zg121, zg182, zg271, zg279, zg280]
            intro a90 e90 ob90
            cases e90
            have f91 : (fRC σ p1 279) = opA A (xjS z j) := op.1.2.2.2.2.2.1
            refine ⟨fun h92 => ?_, fun b92 h92 => ?_⟩
            · have hx92 := opA_nn (f91.symm.trans h92)
              refine hB _ _ _ _ _ (fun m93 hm93 => ?_)
              dsimp only [ucgo, ucwp, ucsC, uqC, uoC, ctC, rfd, KX3_judgeReturn, KX3_judgeReturn_0, KX3_judgeReturn_16, KX3_judgeReturn_23, KX3_judgeReturn_33, KX3_judgeReturn_34, KX3_judgeReturn_41, KX3_judgeReturn_45, KX3_judgeReturn_46, KX3_judgeReturn_54, KX3_judgeReturn_58, KX3_judgeReturn_59, KX3_judgeReturn_62, KX3_judgeReturn_78, KX3_judgeReturn_85, KX3_judgeReturn_108, lkC, s1C, s2C, dlC, kyC, Nat.beq, Nat.ble, rcd, rno, rsw, Nat.reduceAdd, Nat.reduceBEq, Nat.reduceDiv, List.drop, List.take, List.reverse, List.reverseAux, Int.toNat, Option.toList, List.append, List.cons_append, List.nil_append, zg62, zg121, zg182, zg271, zg279, zg280]
              try dsimp only [Qz_judgeReturn]
              exact fun τ9 h9 => ⟨rfl, (er_we h9).trans (iff_e (by unfold rtT'; exact ⟨by omega, fun q9 => by omega⟩)).symm⟩
            · exact absurd (f91.symm.trans h92) (by rw [opA_n hx65]; intro q9; cases q9)
          · have g88 := (neI (x := (Int32.ofInt 1)) (y := (Int32.ofInt 1)) h88 : ¬ ((Int32.ofInt 1) : Int32).toInt = ((Int32.ofInt 1) : Int32).toInt)
            have z0_ : (0 : Int32).toInt = 0 := rfl
            exfalso
            omega
    · obtain ⟨kx61, hk61, hb61⟩ := opA_j (f60.symm.trans h61)
      have hw_kx61 := (hwf j hj).2.1 (by omega)
      rw [hk61, Int.toNat_natCast] at hw_kx61
      have hl61 : kx61 < xnM z := by omega
      have o94 := hSs.2.1 kx61 hl61
      refine hB _ _ _ _ _ (fun m95 hm95 => ?_)
      dsimp only [ucgo, ucwp, ucsC, uqC, uoC, ctC, rfd, KX3_judgeReturn, KX3_judgeReturn_0, KX3_judgeReturn_16, KX3_judgeReturn_23, KX3_judgeReturn_33, KX3_judgeReturn_34, KX3_judgeReturn_41, KX3_judgeReturn_45, KX3_judgeReturn_46, KX3_judgeReturn_54, KX3_judgeReturn_58, KX3_judgeReturn_59, KX3_judgeReturn_62, KX3_judgeReturn_78, KX3_judgeReturn_85, KX3_judgeReturn_108, lkC, s1C, s2C, dlC, kyC, Nat.beq, Nat.ble, rcd, rno, rsw, Nat.reduceAdd, Nat.reduceBEq, Nat.reduceDiv, List.drop, List.take, List.reverse, List.reverseAux, Int.toNat, Option.toList, List.append, List.cons_append, List.nil_append, zg62, zg121, zg182, zg271, zg279, zg280]
      intro a96 e96 ob96
      cases e96
      have f97 : (fRC σ p1 279) = some (A kx61) := by rw [show (fRC σ p1 279) = opA A (xjS z j) from op.1.2.2.2.2.2.1, hk61, opA_k]
      intro w98 τ98 o98 q98
      obtain ⟨r98, rfl, hr98, rfl⟩ := q98 (N, E, A, B, V, z) ⟨_, rfl⟩
      have rz98 : r98.toInt = 0 := by
        rcases hr98 with q9 | q9
        · exact absurd (o94.1.1.1.symm.trans (q9.2 _ f97)) (by first | exact hw_kx61.2 | omega)
        · exact q9.1
      try dsimp only [Option.toList, List.cons_append, List.nil_append, s1C, s2C, dlC, kyC, Nat.beq, lkC, rcd, rno, rsw]
      refine ⟨fun h99 => ?_, fun h99 => ?_⟩
      · have g99 := (eqI (x := r98) (y := 0) h99 : (r98 : Int32).toInt = (0 : Int32).toInt)
        have z0_ : (0 : Int32).toInt = 0 := rfl
        refine hB _ _ _ _ _ (fun m100 hm100 => ?_)
        dsimp only [ucgo, ucwp, ucsC, uqC, uoC, ctC, rfd, KX3_judgeReturn, KX3_judgeReturn_0, KX3_judgeReturn_16, KX3_judgeReturn_23, KX3_judgeReturn_33, KX3_judgeReturn_34, KX3_judgeReturn_41, KX3_judgeReturn_45, KX3_judgeReturn_46, KX3_judgeReturn_54, KX3_judgeReturn_58, KX3_judgeReturn_59, KX3_judgeReturn_62, KX3_judgeReturn_78, KX3_judgeReturn_85, KX3_judgeReturn_108, lkC, s1C, s2C, dlC, kyC, Nat.beq, Nat.ble, rcd, rno, rsw, Nat.reduceAdd, Nat.reduceBEq, Nat.reduceDiv, List.drop, List.take, List.reverse, List.reverseAux, Int.toNat, Option.toList, List.append, List.cons_append, List.nil_append, zg62, zg121, zg182, zg271, zg279, zg280]
        intro a101 e101 ob101
        cases e101
        have f102 : (fRC σ p1 279) = some (A kx61) := by rw [show (fRC σ p1 279) = opA A (xjS z j) from op.1.2.2.2.2.2.1, hk61, opA_k]
        refine ⟨fun b103 h103 => ?_, fun h103 => ?_⟩
        · skip
          refine hB _ _ _ _ _ (fun m104 hm104 => ?_)
          dsimp only [ucgo, ucwp, ucsC, uqC, uoC, ctC, rfd, KX3_judgeReturn, KX3_judgeReturn_0, KX3_judgeReturn_16, KX3_judgeReturn_23, KX3_judgeReturn_33, KX3_judgeReturn_34, KX3_judgeReturn_41, KX3_judgeReturn_45, KX3_judgeReturn_46, KX3_judgeReturn_54, KX3_judgeReturn_58, KX3_judgeReturn_59, KX3_judgeReturn_62, KX3_judgeReturn_78, KX3_judgeReturn_85, KX3_judgeReturn_108, lkC, s1C, s2C, dlC, kyC, Nat.beq, Nat.ble, rcd, rno, rsw, Nat.reduceAdd, Nat.reduceBEq, Nat.reduceDiv, List.drop, List.take, List.reverse, List.reverseAux, Int.toNat, Option.toList, List.append, List.cons_append, List.nil_append, zg62, zg121, zg182, zg271, zg279, zg280]
          have c105 : (Int32.ofInt 0).toInt = 0 := by decide
          refine hB _ _ _ _ _ (fun m106 hm106 => ?_)
          dsimp only [ucgo, ucwp, ucsC, uqC, uoC, ctC, rfd, KX3_judgeReturn, KX3_judgeReturn_0, KX3_judgeReturn_16, KX3_judgeReturn_23, KX3_judgeReturn_33, KX3_judgeReturn_34, KX3_judgeReturn_41, KX3_judgeReturn_45, KX3_judgeReturn_46, KX3_judgeReturn_54, KX3_judgeReturn_58, KX3_judgeReturn_59, KX3_judgeReturn_62, KX3_judgeReturn_78, KX3_judgeReturn_85, KX3_judgeReturn_108, lkC, s1C, s2C, dlC, kyC, Nat.beq, Nat.ble, rcd, rno, rsw, Nat.reduceAdd, Nat.reduceBEq, Nat.reduceDiv, List.drop, List.take, List.reverse, List.reverseAux, Int.toNat, Option.toList, List.append, List.cons_append, List.nil_append, zg62, zg121, zg182, zg271, zg279, zg280]
          intro a107 e107 ob107
          cases e107
          have f108 : (fIC σ mo 182).toInt = m.2.1 := hmk.2.1
          have c109 : (Int32.ofInt 5).toInt = 5 := by decide
          refine ⟨fun h110 => ?_, fun h110 => ?_⟩
          · have g110 := (neI (x := (fIC σ mo 182)) (y := (Int32.ofInt 5)) h110 : ¬ ((fIC σ mo 182) : Int32).toInt = ((Int32.ofInt 5) : Int32).toInt)
            refine hB _ _ _ _ _ (fun m111 hm111 => ?_)
            dsimp only [ucgo, ucwp, ucsC, uqC, uoC, ctC, rfd, KX3_judgeReturn, KX3_judgeReturn_0, KX3_judgeReturn_16, KX3_judgeReturn_23, KX3_judgeReturn_33, KX3_judgeReturn_34, KX3_judgeReturn_41, KX3_judgeReturn_45, KX3_judgeReturn_46, KX3_judgeReturn_54, KX3_judgeReturn_58, KX3_judgeReturn_59, KX3_judgeReturn_62, KX3_judgeReturn_78, KX3_judgeReturn_85, KX3_judgeReturn_108, lkC, s1C, s2C, dlC, kyC, Nat.beq, Nat.ble, rcd, rno, rsw, Nat.reduceAdd, Nat.reduceBEq, Nat.reduceDiv, List.drop, List.take, List.reverse, List.reverseAux, Int.toNat, Option.toList, List.append, List.cons_append, List.nil_append, zg62, zg121, zg182, zg271, zg279, zg280]
            have c112 : (Int32.ofInt 0).toInt = 0 := by decide
            refine hB _ _ _ _ _ (fun m113 hm113 => ?_)
            dsimp only [ucgo, ucwp, ucsC, uqC, uoC, ctC, rfd, KX3_judgeReturn, KX3_judgeReturn_0, KX3_judgeReturn_16, KX3_judgeReturn_23, KX3_judgeReturn_33, KX3_judgeReturn_34, KX3_judgeReturn_41, KX3_judgeReturn_45, KX3_judgeReturn_46, KX3_judgeReturn_54, KX3_judgeReturn_58, KX3_judgeReturn_59, KX3_judgeReturn_62, KX3_judgeReturn_78, KX3_judgeReturn_85, KX3_judgeReturn_108, lkC, s1C, s2C, dlC, kyC, Nat.beq, Nat.ble, rcd, rno, rsw, Nat.reduceAdd, Nat.reduceBEq, Nat.reduceDiv, List.drop, List.take, List.reverse, List.reverseAux, Int.toNat, Option.toList, List.append, List.cons_append, List.nil_append, zg62, zg121, zg182, zg271, zg279, zg280]
            refine ⟨fun h114 => ?_, fun h114 => ?_⟩
            · have g114 := (eqI (x := (Int32.ofInt 0)) (y := (Int32.ofInt 0)) h114 : ((Int32.ofInt 0) : Int32).toInt = ((Int32.ofInt 0) : Int32).toInt)
              refine hB _ _ _ _ _ (fun m115 hm115 => ?_)
              dsimp only [ucgo, ucwp, ucsC, uqC, uoC, ctC, rfd, KX3_judgeReturn, KX3_judgeReturn_0, KX3_judgeReturn_16, KX3_judgeReturn_23, KX3_judgeReturn_33, KX3_judgeReturn_34, KX3_judgeReturn_41, KX3_judgeReturn_45, KX3_judgeReturn_46, KX3_judgeReturn_54, KX3_judgeReturn_58, KX3_judgeReturn_59, KX3_judgeReturn_62, KX3_judgeReturn_78, KX3_judgeReturn_85, KX3_judgeReturn_108, lkC, s1C, s2C, dlC, kyC, Nat.beq, Nat.ble, rcd, rno, rsw, Nat.reduceAdd, Nat.reduceBEq, Nat.reduceDiv, List.drop, List.take, List.reverse, List.reverseAux, Int.toNat, Option.toList, List.append, List.cons_append, List.nil_append, zg62, zg121, zg182, zg271, zg279, zg280]
              intro a116 e116 ob116
              cases e116
              have f117 : (fRC σ p1 279) = some (A kx61) := by rw [show (fRC σ p1 279) = opA A (xjS z j) from op.1.2.2.2.2.2.1, hk61, opA_k]
              refine ⟨fun h118 => ?_, fun b118 h118 => ?_⟩
              · exact absurd (f117.symm.trans h118) (by intro q9; cases q9)
              · skip
                refine hB _ _ _ _ _ (fun m119 hm119 => ?_)
                dsimp only [ucgo, ucwp, ucsC, uqC, uoC, ctC, rfd, KX3_judgeReturn, KX3_judgeReturn_0, KX3_judgeReturn_16, KX3_judgeReturn_23, KX3_judgeReturn_33, KX3_judgeReturn_34, KX3_judgeReturn_41, KX3_judgeReturn_45, KX3_judgeReturn_46, KX3_judgeReturn_54, KX3_judgeReturn_58, KX3_judgeReturn_59, KX3_judgeReturn_62, KX3_judgeReturn_78, KX3_judgeReturn_85, KX3_judgeReturn_108, lkC, s1C, s2C, dlC, kyC, Nat.beq, Nat.ble, rcd, rno, rsw, Nat.reduceAdd, Nat.reduceBEq, Nat.reduceDiv, List.drop, List.take, List.reverse, List.reverseAux, Int.toNat, Option.toList, List.append, List.cons_append, List.nil_append, zg62, zg121, zg182, zg271, zg279, zg280]
                intro a120 e120 ob120
                cases e120
                have f121 : (fRC σ p1 279) = some (A kx61) := by rw [show (fRC σ p1 279) = opA A (xjS z j) from op.1.2.2.2.2.2.1, hk61, opA_k]
                intro a122 e122 ob122
                cases e122
                have f123 : (fIC σ mo 182).toInt = m.2.1 := hmk.2.1
                intro w124 τ124 o124 q124
                rw [f121] at q124 o124
                obtain ⟨r124, rfl, hr124, rfl⟩ := q124 (N, E, A, B, V, z) ⟨_, _, rfl⟩
                rw [show ((fIC σ mo 182) : Int32).toInt = m.2.1 by omega, ft_c (a := tvC σ (A kx61)) (b := T.1 kx61) o94.1.1.1 o94.1.1.2.1 o94.1.1.2.2 _] at hr124
                try dsimp only [Option.toList, List.cons_append, List.nil_append, s1C, s2C, dlC, kyC, Nat.beq, lkC, rcd, rno, rsw]
                intro a125 e125 ob125
                cases e125
                have f126 : (fRC σ p1 279) = some (A kx61) := by rw [show (fRC σ p1 279) = opA A (xjS z j) from op.1.2.2.2.2.2.1, hk61, opA_k]
                intro a127 e127 ob127
                obtain rfl : A kx61 = a127 := Option.some.inj (f126.symm.trans e127)
                intro w129 τ129 o129 q129
                obtain ⟨rfl, qq129⟩ := q129 (N, E, A, B, V, z) ⟨_, _, rfl, hNm.1⟩
                rcases qq129 with ⟨qa129, rfl⟩ | ⟨qa129, qb129⟩
                · have qc129 := qa129
                  try dsimp only [Option.toList, List.cons_append, List.nil_append, s1C, s2C, dlC, kyC, Nat.beq, lkC, rcd, rno, rsw]
                  refine hB _ _ _ _ _ (fun m130 hm130 => ?_)
                  dsimp only [ucgo, ucwp, ucsC, uqC, uoC, ctC, rfd, KX3_judgeReturn, KX3_judgeReturn_0, KX3_judgeReturn_16, KX3_judgeReturn_23, KX3_judgeReturn_33, KX3_judgeReturn_34, KX3_judgeReturn_41, KX3_judgeReturn_45, KX3_judgeReturn_46, KX3_judgeReturn_54, KX3_judgeReturn_58, KX3_judgeReturn_59, KX3_judgeReturn_62, KX3_judgeReturn_78, KX3_judgeReturn_85, KX3_judgeReturn_108, lkC, s1C, s2C, dlC, kyC, Nat.beq, Nat.ble, rcd, rno, rsw, Nat.reduceAdd, Nat.reduceBEq, Nat.reduceDiv, List.drop, List.take, List.reverse, List.reverseAux, Int.toNat, Option.toList, List.append, List.cons_append, List.nil_append, zg62, zg121, zg182, zg271, zg279, zg280]
                  try dsimp only [Qz_judgeReturn]
                  exact fun τ9 h9 => ⟨rfl, (er_we h9).trans (iff_e (by unfold rtT'; rw [hk61, Int.toNat_natCast]; exact ⟨by omega, fun q9 => by rcases hr124 with q6 | q6; exact q6.2; exact absurd q6.1 (by omega)⟩)).symm⟩
                · have qc129 := qa129
                  have hF129 : FrE [217, 218] σ τ129 := FrE.mo o129.2 rfl
                  have hSs_129 := SsC.fr hSs hF129 rfl
                  have hNm_129 := NmC.fr hNm hF129 rfl
                  have op_129 : SlC A B τ129 z j p1 ∧ p1 < cnC τ129 := by rw [hp]; exact hSs_129.1 j hj
                  have o94_129 := hSs_129.2.1 kx61 hl61
                  try dsimp only [Option.toList, List.cons_append, List.nil_append, s1C, s2C, dlC, kyC, Nat.beq, lkC, rcd, rno, rsw]
                  refine hB _ _ _ _ _ (fun m131 hm131 => ?_)
                  dsimp only [ucgo, ucwp, ucsC, uqC, uoC, ctC, rfd, KX3_judgeReturn, KX3_judgeReturn_0, KX3_judgeReturn_16, KX3_judgeReturn_23, KX3_judgeReturn_33, KX3_judgeReturn_34, KX3_judgeReturn_41, KX3_judgeReturn_45, KX3_judgeReturn_46, KX3_judgeReturn_54, KX3_judgeReturn_58, KX3_judgeReturn_59, KX3_judgeReturn_62, KX3_judgeReturn_78, KX3_judgeReturn_85, KX3_judgeReturn_108, lkC, s1C, s2C, dlC, kyC, Nat.beq, Nat.ble, rcd, rno, rsw, Nat.reduceAdd, Nat.reduceBEq, Nat.reduceDiv, List.drop, List.take, List.reverse, List.reverseAux, Int.toNat, Option.toList, List.append, List.cons_append, List.nil_append, zg62, zg121, zg182, zg271, zg279, zg280]
                  try dsimp only [Qz_judgeReturn]
                  exact fun τ9 h9 => ⟨rfl, (er_we h9).trans (iff_of_true qb129 (Or.inr (by unfold rtT'; rw [hk61, Int.toNat_natCast]; intro q9; obtain ⟨q7, q8⟩ := q9; rcases hr124 with q6 | q6; exact absurd q6.1 (by omega); exact q6.2 (q8 (by omega)))))⟩
            · have g114 := (neI (x := (Int32.ofInt 0)) (y := (Int32.ofInt 0)) h114 : ¬ ((Int32.ofInt 0) : Int32).toInt = ((Int32.ofInt 0) : Int32).toInt)
              have z0_ : (0 : Int32).toInt = 0 := rfl
              exfalso
              omega
          · have g110 := (eqI (x := (fIC σ mo 182)) (y := (Int32.ofInt 5)) h110 : ((fIC σ mo 182) : Int32).toInt = ((Int32.ofInt 5) : Int32).toInt)
            refine hB _ _ _ _ _ (fun m132 hm132 => ?_)
            dsimp only [ucgo, ucwp, ucsC, uqC, uoC, ctC, rfd, KX3_judgeReturn, KX3_judgeReturn_0, KX3_judgeReturn_16, KX3_judgeReturn_23, KX3_judgeReturn_33, KX3_judgeReturn_34, KX3_judgeReturn_41, KX3_judgeReturn_45, KX3_judgeReturn_46, KX3_judgeReturn_54, KX3_judgeReturn_58, KX3_judgeReturn_59, KX3_judgeReturn_62, KX3_judgeReturn_78, KX3_judgeReturn_85, KX3_judgeReturn_108, lkC, s1C, s2C, dlC, kyC, Nat.beq, Nat.ble, rcd, rno, rsw, Nat.reduceAdd, Nat.reduceBEq, Nat.reduceDiv, List.drop, List.take, List.reverse, List.reverseAux, Int.toNat, Option.toList, List.append, List.cons_append, List.nil_append, zg62, zg121, zg182, zg271, zg279, zg280]
            have c133 : (Int32.ofInt 1).toInt = 1 := by decide
            refine hB _ _ _ _ _ (fun m134 hm134 => ?_)
            dsimp only [ucgo, ucwp, ucsC, uqC, uoC, ctC, rfd, KX3_judgeReturn, KX3_judgeReturn_0, KX3_judgeReturn_16, KX3_judgeReturn_23, KX3_judgeReturn_33, KX3_judgeReturn_34, KX3_judgeReturn_41, KX3_judgeReturn_45, KX3_judgeReturn_46, KX3_judgeReturn_54, KX3_judgeReturn_58, KX3_judgeReturn_59, KX3_judgeReturn_62, KX3_judgeReturn_78, KX3_judgeReturn_85, KX3_judgeReturn_108, lkC, s1C, s2C, dlC, kyC, Nat.beq, Nat.ble, rcd, rno, rsw, Nat.reduceAdd, Nat.reduceBEq, Nat.reduceDiv, List.drop, List.take, List.reverse, List.reverseAux, Int.toNat, Option.toList, List.append, List.cons_append, List.nil_append, zg62, zg121, zg182, zg271, zg279, zg280]
            refine ⟨fun h135 => ?_, fun h135 => ?_⟩
            · have g135 := (eqI (x := (Int32.ofInt 0)) (y := (Int32.ofInt 1)) h135 : ((Int32.ofInt 0) : Int32).toInt = ((Int32.ofInt 1) : Int32).toInt)
              have z0_ : (0 : Int32).toInt = 0 := rfl
              exfalso
              omega
            · have g135 := (neI (x := (Int32.ofInt 0)) (y := (Int32.ofInt 1)) h135 : ¬ ((Int32.ofInt 0) : Int32).toInt = ((Int32.ofInt 1) : Int32).toInt)
              refine hB _ _ _ _ _ (fun m136 hm136 => ?_)
              dsimp only [ucgo, ucwp, ucsC, uqC, uoC, ctC, rfd, KX3_judgeReturn, KX3_judgeReturn_0, KX3_judgeReturn_16, KX3_judgeReturn_23, KX3_judgeReturn_33, KX3_judgeReturn_34, KX3_judgeReturn_41, KX3_judgeReturn_45, KX3_judgeReturn_46, KX3_judgeReturn_54, KX3_judgeReturn_58, KX3_judgeReturn_59, KX3_judgeReturn_62, KX3_judgeReturn_78, KX3_judgeReturn_85, KX3_judgeReturn_108, lkC, s1C, s2C, dlC, kyC, Nat.beq, Nat.ble, rcd, rno, rsw, Nat.reduceAdd, Nat.reduceBEq, Nat.reduceDiv, List.drop, List.take, List.reverse, List.reverseAux, Int.toNat, Option.toList, List.append, List.cons_append, List.nil_append, zg62, zg121, zg182, zg271, zg279, zg280]
              intro a137 e137 ob137
              cases e137
              have c139 : (Int32.ofInt 11).toInt = 11 := by decide
              intro a140 e140 ob140
              cases e140
              have f141 : (fIC σ p1 271).toInt = fiS z j := op.1.1.2.1
              rw [hNm.1.1]
              try dsimp only
              intro w142 τ142 o142 q142
              obtain ⟨rfl, hb142⟩ := q142 (N, E, A, B, V, z) ⟨_, _, rfl, by omega⟩
              have hF142 : FrE [217, 218] σ τ142 := FrE.mo o142.2 rfl
              have hSs_142 := SsC.fr hSs hF142 rfl
              have hNm_142 := NmC.fr hNm hF142 rfl
              have op_142 : SlC A B τ142 z j p1 ∧ p1 < cnC τ142 := by rw [hp]; exact hSs_142.1 j hj
              have o94_142 := hSs_142.2.1 kx61 hl61
              try dsimp only [Option.toList, List.cons_append, List.nil_append, s1C, s2C, dlC, kyC, Nat.beq, lkC, rcd, rno, rsw]
              refine hB _ _ _ _ _ (fun m143 hm143 => ?_)
              dsimp only [ucgo, ucwp, ucsC, uqC, uoC, ctC, rfd, KX3_judgeReturn, KX3_judgeReturn_0, KX3_judgeReturn_16, KX3_judgeReturn_23, KX3_judgeReturn_33, KX3_judgeReturn_34, KX3_judgeReturn_41, KX3_judgeReturn_45, KX3_judgeReturn_46, KX3_judgeReturn_54, KX3_judgeReturn_58, KX3_judgeReturn_59, KX3_judgeReturn_62, KX3_judgeReturn_78, KX3_judgeReturn_85, KX3_judgeReturn_108, lkC, s1C, s2C, dlC, kyC, Nat.beq, Nat.ble, rcd, rno, rsw, Nat.reduceAdd, Nat.reduceBEq, Nat.reduceDiv, List.drop, List.take, List.reverse, List.reverseAux, Int.toNat, Option.toList, List.append, List.cons_append, List.nil_append, zg62, zg121, zg182, zg271, zg279, zg280]
              try dsimp only [Qz_judgeReturn]
              exact fun τ9 h9 => ⟨rfl, (er_we h9).trans (iff_of_true hb142 (Or.inr (by unfold rtT'; rw [hk61, Int.toNat_natCast]; intro q9; obtain ⟨q7, q8⟩ := q9; omega)))⟩
        · exact absurd (f102.symm.trans h103) (by intro q9; cases q9)
      · have g99 := (neI (x := r98) (y := 0) h99 : ¬ (r98 : Int32).toInt = (0 : Int32).toInt)
        have z0_ : (0 : Int32).toInt = 0 := rfl
        exfalso
        omega
theorem wz_judgeReturn : ∀ (L : Nat) (As : List AvC) (σ : CsC) (w : Option AvC) (τ : CsC), EvF L 86 As σ w τ → Uz_judgeReturn As σ w τ := by
  intro L
  cases L with
  | zero => exact fun _ _ _ _ h => h.elim
  | succ L => exact fun As σ w τ h y hy => EvF.us (cs := [119, 118, 52, 75, 62]) (pz_judgeReturn y) rfl (List.forall_mem_cons.2 ⟨wz_methodOf L, List.forall_mem_cons.2 ⟨wz_tell L, List.forall_mem_cons.2 ⟨wz_isFaulty L, List.forall_mem_cons.2 ⟨wz_fits L, List.forall_mem_cons.2 ⟨wz_isWanted L, fun _ h => absurd h List.not_mem_nil⟩⟩⟩⟩⟩) h hy
