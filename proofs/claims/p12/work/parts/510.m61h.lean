/-! reading -/
def iFi (k : Nat) : Bool := k == 1 || k == 68 || (119 ≤ k && k ≤ 121)
def gFi (k : Nat) : Bool := false
def aFi (k : Nat) : Bool := k == 0 || k == 118
def lFi (k : Nat) : Bool := false
def Fi (σ τ : RS) : Prop := (∀ k, iFi k = false → gI τ k = gI σ k) ∧ (∀ k, gFi k = false → gL τ k = gL σ k) ∧ (∀ k, aFi k = false → aI τ k = aI σ k) ∧ ∀ k, lFi k = false → aL τ k = aL σ k
theorem Fi.rf {σ : RS} : Fi σ σ := ⟨fun _ _ => rfl, fun _ _ => rfl, fun _ _ => rfl, fun _ _ => rfl⟩
theorem Fi.tr {σ τ υ : RS} (h1 : Fi σ τ) (h2 : Fi τ υ) : Fi σ υ := ⟨fun k hk => (h2.1 k hk).trans (h1.1 k hk), fun k hk => (h2.2.1 k hk).trans (h1.2.1 k hk), fun k hk => (h2.2.2.1 k hk).trans (h1.2.2.1 k hk), fun k hk => (h2.2.2.2 k hk).trans (h1.2.2.2 k hk)⟩
theorem Fi.i {σ τ : RS} (h : Fi σ τ) {k : Nat} {v : Int32} (hk : iFi k = true) : Fi σ (sI τ k v) := ⟨fun j hj => by
  rw [gI_sI, nb_ne (fun q => by subst q; rw [hk] at hj; cases hj)]
  exact h.1 j hj, h.2.1, h.2.2.1, h.2.2.2⟩
theorem Fi.g {σ τ : RS} (h : Fi σ τ) {k : Nat} {v : Int64} (hk : gFi k = true) : Fi σ (sL τ k v) := ⟨h.1, fun j hj => by
  rw [gL_sL, nb_ne (fun q => by subst q; rw [hk] at hj; cases hj)]
  exact h.2.1 j hj, h.2.2.1, h.2.2.2⟩
theorem Fi.a {σ τ : RS} (h : Fi σ τ) {k : Nat} {f : Nat → Int32} (hk : aFi k = true) : Fi σ (sA τ k f) := ⟨h.1, h.2.1, fun j hj => by
  rw [aI_sA, nb_ne (fun q => by subst q; rw [hk] at hj; cases hj)]
  exact h.2.2.1 j hj, h.2.2.2⟩
theorem Fi.m {σ τ : RS} (h : Fi σ τ) {k : Nat} {f : Nat → Int64} (hk : lFi k = true) : Fi σ (sM τ k f) := ⟨h.1, h.2.1, h.2.2.1, fun j hj => by
  rw [aL_sM, nb_ne (fun q => by subst q; rw [hk] at hj; cases hj)]
  exact h.2.2.2 j hj⟩
theorem PD.fi {σ τ : RS} (h : PD σ) (hf : Fi σ τ) : PD τ := by
  obtain ⟨k, j, hp⟩ := h
  have h1 := hp.1.1
  have e14 : gI (sI τ 62 0) 14 = gI (sI σ 62 0) 14 := hf.1 14 rfl
  refine ⟨k, j, ?_⟩
  rw [hf.1 36 rfl]
  exact hp.mv (σ' := sI τ 62 0) k j ⟨by rw [e14]; exact Int.le_refl _, by rw [e14]; exact h1.2⟩ ⟨hp.1.2.1.2.2, by rw [e14]; omega⟩ ⟨hp.1.2.2.2.2.2.2, by rw [e14]; omega⟩ True.intro (hf.1 17 rfl) (hf.1 49 rfl) rfl (hf.1 42 rfl) (hf.1 36 rfl) (hf.2.2.1 63 rfl) (hf.2.2.1 64 rfl) (hf.2.2.1 65 rfl) (hf.2.2.1 43 rfl) (hf.2.2.1 37 rfl) (hf.2.2.1 39 rfl) (hf.2.2.1 40 rfl) (hf.2.2.1 41 rfl) (hf.1 18 rfl) (hf.2.2.1 19 rfl) (hf.2.2.1 20 rfl) (hf.2.2.1 21 rfl) (hf.2.2.1 22 rfl) (hf.2.2.1 23 rfl) (hf.2.2.1 24 rfl) (hf.2.2.1 50 rfl) (hf.2.2.1 51 rfl) (hf.2.2.1 52 rfl) (hf.2.2.1 53 rfl) (hf.2.2.1 54 rfl) (hf.2.2.1 55 rfl) (hf.2.2.1 56 rfl) (hf.2.2.1 57 rfl) (hf.2.2.1 58 rfl) (hf.2.2.1 59 rfl) (hf.2.2.1 60 rfl) (hf.2.2.1 61 rfl) (hf.2.2.1 3 rfl) (hf.2.2.1 6 rfl) (hgz := fun z => z.same (hf.2.2.1 6 rfl) (hf.2.2.1 38 rfl) (hf.2.2.1 44 rfl))
/-- a text whose bytes are bytes -/
def Yb (f : Nat → Int32) : Prop := ∀ i, 0 ≤ f i ∧ f i < 256
/-- the text that is kept was read once, and well -/
def PR (n : Int32) (f : Nat → Int32) : Prop := ∃ S T U : RS, (gI S 1 = n ∧ ∀ i, i < nT n → aI S 0 i = f i) ∧ Yb (aI S 0) ∧ WZ S ∧ EvM 6 [] S none T ∧ EvM 37 [] T (some (.int 1)) U
/-- between two calls, but for the program that stands -/
def BV (σ : RS) : Prop := (gI σ 91 = 0 ∧ (0 ≤ gI σ 2 ∧ gI σ 2 ≤ 2590)) ∧ GZ σ ∧ (Yb (aI σ 0) ∧ Yb (aI σ 118)) ∧ ((0 ≤ gI σ 1 ∧ gI σ 1 ≤ 2500) ∧ (0 ≤ gI σ 119 ∧ gI σ 119 ≤ 2500)) ∧ ((0 ≤ gI σ 123 ∧ gI σ 123 ≤ 40) ∧ (0 ≤ gI σ 148 ∧ gI σ 148 ≤ 200)) ∧ PR (gI σ 119) (aI σ 118)
/-- between two calls -/
def IV (σ : RS) : Prop := BV σ ∧ ((gI σ 68 = 0 ∧ PD σ) ∨ JD σ)
theorem IV.g {σ : RS} (h : IV σ) : IG σ := ⟨h.1.1.1, h.1.1.2, h.2⟩
theorem BV.fg {σ τ : RS} (h : BV σ) (hf : Fg σ τ) (h91 : gI τ 91 = 0) : BV τ := by
  obtain ⟨⟨-, h2⟩, h3, h4, h5, h6, h7⟩ := h
  refine ⟨⟨h91, ?_⟩, h3.same (hf.2.2.1 6 rfl) (hf.2.2.1 38 rfl) (hf.2.2.1 44 rfl), ?_⟩
  · rw [hf.1 2 rfl]; exact h2
  · rw [hf.2.2.1 0 rfl, hf.2.2.1 118 rfl, hf.1 1 rfl, hf.1 119 rfl, hf.1 123 rfl, hf.1 148 rfl]
    exact ⟨h4, h5, h6, h7⟩
/-- the cutting keeps it -/
theorem GZ.lex {σ τ : RS} (h : BV σ) (hf : Fl σ τ) (he : EvM 6 [] σ none τ) : GZ τ := by
  obtain ⟨-, hg, ⟨hb, -⟩, ⟨h1, -⟩, -⟩ := h
  have q := j_lexer [] [] σ σ ⟨rfl, fun _ _ => rfl, h1, hb, hg.1⟩ none τ none τ he he
  refine ⟨q.2.2.2, ?_, ?_⟩
  · rw [hf.2.2.1 44 rfl]; exact hg.2.1
  · rw [hf.2.2.1 38 rfl]; exact hg.2.2
/-- a reading keeps it -/
theorem BV.lp {σ τ υ : RS} (h : BV σ) (hf : Fl σ τ) (hc : 0 ≤ gI τ 2 ∧ gI τ 2 ≤ 2590) (hq : Fq (zz τ) υ) (hg : GZ τ) : BV υ := by
  obtain ⟨⟨h91, -⟩, -, h4, h5, h6, h7⟩ := h
  have z : ∀ k, qI k = false → gI υ k = gI τ k := fun k hk => (hq.1 k hk).trans (by
    unfold zz
    have hne : ∀ j, qI j = true → k ≠ j := fun j hj q => by subst q; rw [hj] at hk; cases hk
    rw [gI_sI, nb_ne (hne 17 rfl), gI_sI, nb_ne (hne 15 rfl), gI_sI, nb_ne (hne 14 rfl), gI_sI, nb_ne (hne 18 rfl), gI_sI, nb_ne (hne 49 rfl), gI_sI, nb_ne (hne 42 rfl), gI_sI, nb_ne (hne 36 rfl)])
  refine ⟨⟨?_, ?_⟩, hq.2.2.2.2 (hg.same rfl rfl rfl), ?_⟩
  · rw [z 91 rfl, hf.1 91 rfl]; exact h91
  · rw [z 2 rfl]; exact hc
  · rw [show aI υ 0 = aI σ 0 from (hq.2.2.1 0 rfl).trans (hf.2.2.1 0 rfl), show aI υ 118 = aI σ 118 from (hq.2.2.1 118 rfl).trans (hf.2.2.1 118 rfl), z 1 rfl, z 119 rfl, z 123 rfl, z 148 rfl, hf.1 1 rfl, hf.1 119 rfl, hf.1 123 rfl, hf.1 148 rfl]
    exact ⟨h4, h5, h6, h7⟩
theorem zz_same {σ τ υ : RS} (hf : Fl σ τ) (hq : Fq (zz τ) υ) : gI υ 1 = gI σ 1 ∧ gI υ 119 = gI σ 119 ∧ gI υ 68 = gI σ 68 ∧ aI υ 0 = aI σ 0 ∧ aI υ 118 = aI σ 118 :=
  ⟨(hq.1 1 rfl).trans (hf.1 1 rfl), (hq.1 119 rfl).trans (hf.1 119 rfl), (hq.1 68 rfl).trans (hf.1 68 rfl), (hq.2.2.1 0 rfl).trans (hf.2.2.1 0 rfl), (hq.2.2.1 118 rfl).trans (hf.2.2.1 118 rfl)⟩
theorem BV.fi {σ τ : RS} (h : BV σ) (hf : Fi σ τ) (b0 : Yb (aI τ 0)) (b1 : Yb (aI τ 118)) (h1 : 0 ≤ gI τ 1 ∧ gI τ 1 ≤ 2500) (h2 : 0 ≤ gI τ 119 ∧ gI τ 119 ≤ 2500) (hp : PR (gI τ 119) (aI τ 118)) : BV τ := by
  obtain ⟨⟨h91, h3⟩, hg, -, -, h6, -⟩ := h
  refine ⟨⟨by rw [hf.1 91 rfl]; exact h91, by rw [hf.1 2 rfl]; exact h3⟩, hg.same (hf.2.2.1 6 rfl) (hf.2.2.1 38 rfl) (hf.2.2.1 44 rfl), ⟨b0, b1⟩, ⟨h1, h2⟩, ?_, hp⟩
  rw [hf.1 123 rfl, hf.1 148 rfl]
  exact h6
/-- read again, the kept text is read well again -/
theorem PR.again {X τ : RS} {r : Int32} {υ : RS} (h : BV X) (h1 : gI X 1 = gI X 119) (ht : ∀ i, i < nT (gI X 119) → aI X 0 i = aI X 118 i) (he : EvM 6 [] X none τ) (hp : EvM 37 [] τ (some (.int r)) υ) : r = 1 := by
  obtain ⟨-, hg, ⟨hb, -⟩, ⟨hn, -⟩, -, S, T, U, ⟨e1, et⟩, hy, hw, hl, hq⟩ := h
  have q := j_lexer [] [] S X ⟨by rw [h1, e1], fun i hi => ?_, by rw [e1, ← h1]; exact hn, hy, hw⟩ none T none τ hl he
  · obtain ⟨b, q1, q2⟩ := j_parse [] [] T τ q.2.2.1 _ U _ υ hq hp
    have a1 := Option.some.inj q1
    have a2 := Option.some.inj q2
    injection a1 with a1
    injection a2 with a2
    rw [a2, ← a1]
  · rw [e1] at hi
    rw [ht i hi, et i hi]
def P_lexerE : RP := fun As σ => P_lexer As σ
def Q_lexerE : RQ := fun As σ w τ => Q_lexer As σ w τ ∧ EvM 6 As σ w τ
def P_parseE : RP := fun As σ => P_parse As σ
def Q_parseE : RQ := fun As σ w τ => Q_parse As σ w τ ∧ EvM 37 As σ w τ
/-- what one run of lexer and parse over this tape gives: methods, or a fault -/
def RnG (σ : RS) (m : Int32) : Prop := ∃ T U : RS, EvM 6 [] σ none T ∧ EvM 37 [] T (some (.int 1)) U ∧ m = gI U 36
def RnB (σ : RS) (f : Int32) : Prop := ∃ T U : RS, EvM 6 [] σ none T ∧ EvM 37 [] T (some (.int 0)) U ∧ f = gI U 15
/-- tokens, methods and variables are the same -/
def KpQ (σ τ : RS) : Prop := (gI τ 2 = gI σ 2 ∧ gI τ 36 = gI σ 36 ∧ gI τ 42 = gI σ 42) ∧ ∀ k, [3, 4, 5, 6, 37, 38, 39, 40, 43, 44, 45, 46].elem k = true → aI τ k = aI σ k
theorem el_q {k : Nat} (h : [3, 4, 5, 6, 37, 38, 39, 40, 43, 44, 45, 46].elem k = true) : k = 3 ∨ k = 4 ∨ k = 5 ∨ k = 6 ∨ k = 37 ∨ k = 38 ∨ k = 39 ∨ k = 40 ∨ k = 43 ∨ k = 44 ∨ k = 45 ∨ k = 46 := by simpa using h
theorem KpQ.rf {σ : RS} : KpQ σ σ := ⟨⟨rfl, rfl, rfl⟩, fun _ _ => rfl⟩
theorem KpQ.tr {σ τ υ : RS} (h : KpQ σ τ) (g : KpQ τ υ) : KpQ σ υ := ⟨⟨g.1.1.trans h.1.1, g.1.2.1.trans h.1.2.1, g.1.2.2.trans h.1.2.2⟩, fun k hk => (g.2 k hk).trans (h.2 k hk)⟩
theorem KpQ.a {σ τ : RS} {j : Nat} {f : Nat → Int32} (h : KpQ σ τ) (hj : [3, 4, 5, 6, 37, 38, 39, 40, 43, 44, 45, 46].elem j = false) : KpQ σ (sA τ j f) := ⟨h.1, fun k hk => (aI_ne (fun q => by rw [q, hj] at hk; cases hk)).trans (h.2 k hk)⟩
theorem KpQ.fg {σ τ : RS} (h : Fg σ τ) : KpQ σ τ := ⟨⟨h.1 2 rfl, h.1 36 rfl, h.1 42 rfl⟩, fun k hk => by
  rcases el_q hk with rfl | rfl | rfl | rfl | rfl | rfl | rfl | rfl | rfl | rfl | rfl | rfl <;> exact h.2.2.1 _ rfl⟩
theorem KpQ.fi {σ τ : RS} (h : Fi σ τ) : KpQ σ τ := ⟨⟨h.1 2 rfl, h.1 36 rfl, h.1 42 rfl⟩, fun k hk => by
  rcases el_q hk with rfl | rfl | rfl | rfl | rfl | rfl | rfl | rfl | rfl | rfl | rfl | rfl <;> exact h.2.2.1 _ rfl⟩
theorem F9.fi {σ τ : RS} (h : Fi σ τ) : F9 σ τ := ⟨fun k a b c => h.1 k (by
  unfold iFi
  simp only [Bool.or_eq_false_iff, Bool.and_eq_false_imp, decide_eq_true_eq, decide_eq_false_iff_not, beq_eq_false_iff_ne, ne_eq]
  omega), fun k a b => h.2.2.1 k (by
  unfold aFi
  simp only [Bool.or_eq_false_iff, beq_eq_false_iff_ne, ne_eq]
  omega), fun k _ => h.2.2.2 k rfl⟩
/-- parse leaves the tokens alone -/
def KpT (T U : RS) : Prop := gI U 2 = gI T 2 ∧ aI U 3 = aI T 3 ∧ aI U 4 = aI T 4 ∧ aI U 5 = aI T 5 ∧ aI U 6 = aI T 6
theorem KpT.q {T U : RS} (h : Fq (zz T) U) : KpT T U := ⟨(h.1 2 rfl).trans rfl, (h.2.2.1 3 rfl).trans rfl, (h.2.2.1 4 rfl).trans rfl, (h.2.2.1 5 rfl).trans rfl, (h.2.2.1 6 rfl).trans rfl⟩
/-- the program that stands: what a run of lexer and parse over the text X gives -/
def RnG2 (σ X : RS) : Prop := ∃ T U : RS, EvM 6 [] σ none T ∧ EvM 37 [] T (some (.int 1)) U ∧ KpT T U ∧ KpQ U X ∧ F9 U X
theorem RnG2.fi {σ X Y : RS} (h : RnG2 σ X) (f : Fi X Y) : RnG2 σ Y := h.elim (fun T q => q.elim (fun U q => ⟨T, U, q.1, q.2.1, q.2.2.1, q.2.2.2.1.tr (KpQ.fi f), q.2.2.2.2.tr (F9.fi f)⟩))
def RnG3 (σ τ : RS) : Prop := gI τ 119 = gI σ 1 ∧ ∀ i, i < nT (gI σ 1) → aI τ 118 i = aI σ 0 i
def RnB2 (σ τ : RS) : Prop := (∃ X T U : RS, (gI X 1 = gI σ 119 ∧ Yb (aI X 0) ∧ ∀ i, i < nT (gI σ 119) → aI X 0 i = aI σ 118 i) ∧ EvM 6 [] X none T ∧ EvM 37 [] T (some (.int 1)) U ∧ KpT T U ∧ KpQ U τ ∧ ((gI σ 68 = 0 ∧ gI τ 68 = 0 ∧ F9 U τ) ∨ (¬ gI σ 68 = 0 ∧ ∃ V, F9 U V ∧ gI V 91 = 0 ∧ EvM 82 [] V none τ))) ∧ (gI τ 119 = gI σ 119 ∧ aI τ 118 = aI σ 118)
def RnX (σ : RS) (r : Int32) (τ : RS) : Prop := (r = gI τ 36 ∧ (RnG2 σ τ ∧ gI τ 68 = 0) ∧ RnG3 σ τ) ∨ (∃ f, RnB σ f ∧ r = -10 - f) ∧ RnB2 σ τ
theorem m_lexerE (l : Launch) : RMet l 3 6 P_lexerE Q_lexerE := e_lexer l
theorem m_parseE (l : Launch) : RMet l 13 37 P_parseE Q_parseE := e_parse l
def P_judgeAllE : RP := fun As σ => P_judgeAll As σ
def Q_judgeAllE : RQ := fun As σ w τ => Q_judgeAll As σ w τ ∧ EvM 82 As σ w τ
theorem m_judgeAllE (l : Launch) : RMet l 6 82 P_judgeAllE Q_judgeAllE := e_judgeAll l
def P_read : RP := fun As σ => match As with
  | [] => IV σ
  | _ => False
def Q_read : RQ := fun As σ w τ => match As with
  | [] => ∃ r : Int32, w = some (.int r) ∧ IV τ ∧ (gI τ 1 = 0 ∧ gI τ 123 = gI σ 123) ∧ RnX σ r τ
  | _ => False
set_option maxRecDepth 100000 in
set_option maxHeartbeats 4000000 in
theorem m_read (l : Launch) : RMet l 14 123 P_read Q_read := by
  refine RMet.by Bread [(6, P_lexerE, Q_lexerE), (37, P_parseE, Q_parseE), (82, P_judgeAllE, Q_judgeAllE)] roread okBread (ctc (m_lexerE l) (by decide) (ctc (m_parseE l) (by decide) (ctc (m_judgeAllE l) (by decide) ct0))) ?_ ?_
  · intro As σ hP
    unfold P_read at hP
    split at hP
    next => exact Nat.le_of_ble_eq_true rfl
    next => exact hP.elim
  · intro As σ hP G hB hW
    unfold P_read at hP
    split at hP
    next => 
      unfold Q_read at hB
      dsimp only at hB
      obtain ⟨hX, hI⟩ := hP
      have t53 : ∀ X : RS, BV X → PD X → ((gI X 1 = 0 ∧ gI X 123 = gI σ 123) ∧ RnG2 σ X ∧ RnG3 σ X) → G 53 [(0, .ref 1000)] [] X := by
        intro X hX hD hzq
        apply hB
        dsimp only [rgo, rfd, Bread, Nat.beq, rwp, rst, lv_args, rlk, rs1, rs2, rdl, rky, rct, rcs, rcd, rno, rsw, Value.category, List.filter, List.take, List.drop, List.reverse, List.reverseAux, List.cons_append, List.nil_append, Option.toList, Int.toNat, Int.reduceToNat, if_pos, if_neg, reduceIte, ↓reduceIte, Nat.reduceAdd, Nat.reduceEqDiff, Nat.reduceBEq, beq_self_eq_true, Bool.not_true, Bool.not_false, Bool.and_true, Bool.and_false, Bool.true_and, Bool.false_and, gI_sI, gI_sL, gI_sA, gI_sM, gL_sI, gL_sL, gL_sA, gL_sM, aI_sI, aI_sL, aI_sA, aI_sM, aL_sI, aL_sL, aL_sA, aL_sM, P_lexer, P_parse, P_judgeAll, Bread_0, Bread_23, Bread_30, Bread_35, Bread_53, Bread_74, Bread_98, Bread_107, Bread_127, Bread_149, Bread_153, oi_0, oi_1, oi_m10, oi_m2, P_lexerE, P_parseE, P_judgeAllE]; try dsimp only
        refine ⟨rfl, Or.inl rfl, rfl, Or.inl rfl, rfl, rfl, trivial, ?_⟩
        exact ⟨_, rfl, ⟨BV.fi hX (by (repeat (first | exact Fi.rf | refine Fi.a ?_ rfl | refine Fi.i ?_ rfl))) hX.2.2.1.1 hX.2.2.1.2 hX.2.2.2.1.1 hX.2.2.2.1.2 hX.2.2.2.2.2, Or.inl ⟨rfl, hD.fi (by (repeat (first | exact Fi.rf | refine Fi.a ?_ rfl | refine Fi.i ?_ rfl)))⟩⟩, hzq.1, Or.inl ⟨rfl, ⟨hzq.2.1.fi (by (repeat (first | exact Fi.rf | refine Fi.a ?_ rfl | refine Fi.i ?_ rfl))), rfl⟩, hzq.2.2⟩⟩
      have t30 : ∀ (Z : RS) (n : Int32), (0 ≤ n ∧ n ≤ 2500) → Yb (aI Z 0) → PD Z → (∀ f : Nat → Int32, (∀ i, i < nT n → f i = aI Z 0 i) → Yb f → BV (sA Z 118 f)) → ((gI Z 1 = 0 ∧ gI Z 123 = gI σ 123) ∧ RnG2 σ Z ∧ (gI Z 119 = gI σ 1 ∧ n = gI σ 1 ∧ aI Z 0 = aI σ 0)) → ∀ m : Nat, ∀ (k : Int32) (f : Nat → Int32), (2500 - k.toInt).toNat = m → (0 ≤ k ∧ k ≤ n) → (∀ i, i < nT k → f i = aI Z 0 i) → Yb f → G 30 [(0, .ref 1000), (1, .int n), (3, .int k)] [] (sA Z 118 f) := by
        intro Z n hn hb0 hD hZ hzq m
        induction m using Nat.strongRecOn with
        | ind m l30 =>
          intro k f hm hk hfe hfb
          apply hB
          dsimp only [rgo, rfd, Bread, Nat.beq, rwp, rst, lv_args, rlk, rs1, rs2, rdl, rky, rct, rcs, rcd, rno, rsw, Value.category, List.filter, List.take, List.drop, List.reverse, List.reverseAux, List.cons_append, List.nil_append, Option.toList, Int.toNat, Int.reduceToNat, if_pos, if_neg, reduceIte, ↓reduceIte, Nat.reduceAdd, Nat.reduceEqDiff, Nat.reduceBEq, beq_self_eq_true, Bool.not_true, Bool.not_false, Bool.and_true, Bool.and_false, Bool.true_and, Bool.false_and, gI_sI, gI_sL, gI_sA, gI_sM, gL_sI, gL_sL, gL_sA, gL_sM, aI_sI, aI_sL, aI_sA, aI_sM, aL_sI, aL_sL, aL_sA, aL_sM, P_lexer, P_parse, P_judgeAll, Bread_0, Bread_23, Bread_30, Bread_35, Bread_53, Bread_74, Bread_98, Bread_107, Bread_127, Bread_149, Bread_153, oi_0, oi_1, oi_m10, oi_m2, P_lexerE, P_parseE, P_judgeAllE]; try dsimp only
          refine ⟨fun h1 => ?_, fun h1 => ?_⟩
          · exact hW 53 [(0, .ref 1000)] _ _ _ (by simp [rdl, rky]) (t53 _ (hZ f (fun i hi => hfe i (Nat.lt_of_lt_of_le hi (nT_le hn.1 (by lia)))) hfb) (hD.fi (Fi.rf.a rfl)) ⟨hzq.1, hzq.2.1.fi (Fi.rf.a rfl), hzq.2.2.1, fun i hi => by rw [← hzq.2.2.2.1] at hi; rw [← hzq.2.2.2.2]; exact hfe i (Nat.lt_of_lt_of_le hi (nT_le hn.1 (by lia)))⟩)
          · apply hB
            dsimp only [rgo, rfd, Bread, Nat.beq, rwp, rst, lv_args, rlk, rs1, rs2, rdl, rky, rct, rcs, rcd, rno, rsw, Value.category, List.filter, List.take, List.drop, List.reverse, List.reverseAux, List.cons_append, List.nil_append, Option.toList, Int.toNat, Int.reduceToNat, if_pos, if_neg, reduceIte, ↓reduceIte, Nat.reduceAdd, Nat.reduceEqDiff, Nat.reduceBEq, beq_self_eq_true, Bool.not_true, Bool.not_false, Bool.and_true, Bool.and_false, Bool.true_and, Bool.false_and, gI_sI, gI_sL, gI_sA, gI_sM, gL_sI, gL_sL, gL_sA, gL_sM, aI_sI, aI_sL, aI_sA, aI_sM, aL_sI, aL_sL, aL_sA, aL_sM, P_lexer, P_parse, P_judgeAll, Bread_0, Bread_23, Bread_30, Bread_35, Bread_53, Bread_74, Bread_98, Bread_107, Bread_127, Bread_149, Bread_153, oi_0, oi_1, oi_m10, oi_m2, P_lexerE, P_parseE, P_judgeAllE]; try dsimp only
            refine ⟨rfl, rfl, rfl, (in_0 (by lia) (by lia)), rfl, (in_118 (by lia) (by lia)), ?_⟩
            rw [sA_sA]
            refine hW 30 [(0, .ref 1000), (1, .int n), (3, .int (k + 1))] _ _ _ (by simp [rdl, rky]) (l30 _ ?_ (k + 1) _ rfl ⟨by lia, by lia⟩ (fun i hi => ?_) (fun i => ?_))
            · exact mlt25 hm (by lia) (by lia)
            · have e := nT_add hk.1 (show k < 2147483647 by lia)
              by_cases q : i = nT k
              · subst q; exact upd_eq
              · exact (upd_ne q).trans (hfe i (by omega))
            · show 0 ≤ upd f (nT k) (aI Z 0 (nT k)) i ∧ upd f (nT k) (aI Z 0 (nT k)) i < 256
              by_cases q : i = nT k
              · subst q; rw [upd_eq]; exact hb0 _
              · rw [upd_ne q]; exact hfb i
      have t127 : ∀ (X : RS) (s : Int32), RnB σ s → (gI X 119 = gI σ 119 ∧ aI X 118 = aI σ 118) → BV X → gI X 1 = gI X 119 → (∀ i, i < nT (gI X 119) → aI X 0 i = aI X 118 i) → (gI X 123 = gI σ 123 ∧ gI X 68 = gI σ 68) → G 127 [(0, .ref 1000), (3, .int s)] [] X := by
        intro X s hbs hk9 hX h1 ht ⟨hx5, hx8⟩
        apply hB
        dsimp only [rgo, rfd, Bread, Nat.beq, rwp, rst, lv_args, rlk, rs1, rs2, rdl, rky, rct, rcs, rcd, rno, rsw, Value.category, List.filter, List.take, List.drop, List.reverse, List.reverseAux, List.cons_append, List.nil_append, Option.toList, Int.toNat, Int.reduceToNat, if_pos, if_neg, reduceIte, ↓reduceIte, Nat.reduceAdd, Nat.reduceEqDiff, Nat.reduceBEq, beq_self_eq_true, Bool.not_true, Bool.not_false, Bool.and_true, Bool.and_false, Bool.true_and, Bool.false_and, gI_sI, gI_sL, gI_sA, gI_sM, gL_sI, gL_sL, gL_sA, gL_sM, aI_sI, aI_sL, aI_sA, aI_sM, aL_sI, aL_sL, aL_sA, aL_sM, P_lexer, P_parse, P_judgeAll, Bread_0, Bread_23, Bread_30, Bread_35, Bread_53, Bread_74, Bread_98, Bread_107, Bread_127, Bread_149, Bread_153, oi_0, oi_1, oi_m10, oi_m2, P_lexerE, P_parseE, P_judgeAllE]; try dsimp only
        refine ⟨rfl, (by decide), (⟨hX.2.2.2.1.1.1, hX.2.2.2.1.1.2⟩), fun w1 τ1 hq1 => ?_⟩
        obtain ⟨⟨rfl, hF1, hc1⟩, hev1⟩ := hq1
        have hFL := hF1
        have hcL := hc1
        have hevL := hev1
        have hGL := GZ.lex hX hF1 hev1
        dsimp only [Option.toList, List.cons_append, List.nil_append, Nat.beq, gI_sI, gI_sL, gI_sA, gI_sM, gL_sI, gL_sL, gL_sA, gL_sM, aI_sI, aI_sL, aI_sA, aI_sM, aL_sI, aL_sL, aL_sA, aL_sM, P_lexer, P_parse, P_judgeAll]
        refine ⟨rfl, (by decide), (hGL), fun w2 τ2 hq2 => ?_⟩
        obtain ⟨⟨r2, rfl, hq2⟩, hev2⟩ := hq2
        have hr1 := PR.again hX h1 ht hevL hev2
        subst hr1
        rcases hq2 with ⟨h0, -⟩ | ⟨-, hf2, mn2, kk2, jj2, hx2, hmn2⟩
        · exact absurd h0 (by decide)
        have hB2 := hX.lp hFL hcL hf2 hGL
        have hD2 : PD τ2 := ⟨kk2, jj2, by rw [← hmn2]; exact hx2⟩
        have hS2 := zz_same hFL hf2
        have h5 : gI τ2 123 = gI σ 123 := ((hf2.1 123 rfl).trans (hFL.1 123 rfl)).trans hx5
        dsimp only [Option.toList, List.cons_append, List.nil_append, Nat.beq, gI_sI, gI_sL, gI_sA, gI_sM, gL_sI, gL_sL, gL_sA, gL_sM, aI_sI, aI_sL, aI_sA, aI_sM, aL_sI, aL_sL, aL_sA, aL_sM, P_lexer, P_parse, P_judgeAll]
        refine ⟨rfl, rfl, fun h3 => ?_, fun h3 => ?_⟩
        · apply hB
          dsimp only [rgo, rfd, Bread, Nat.beq, rwp, rst, lv_args, rlk, rs1, rs2, rdl, rky, rct, rcs, rcd, rno, rsw, Value.category, List.filter, List.take, List.drop, List.reverse, List.reverseAux, List.cons_append, List.nil_append, Option.toList, Int.toNat, Int.reduceToNat, if_pos, if_neg, reduceIte, ↓reduceIte, Nat.reduceAdd, Nat.reduceEqDiff, Nat.reduceBEq, beq_self_eq_true, Bool.not_true, Bool.not_false, Bool.and_true, Bool.and_false, Bool.true_and, Bool.false_and, gI_sI, gI_sL, gI_sA, gI_sM, gL_sI, gL_sL, gL_sA, gL_sM, aI_sI, aI_sL, aI_sA, aI_sM, aL_sI, aL_sL, aL_sA, aL_sM, P_lexer, P_parse, P_judgeAll, Bread_0, Bread_23, Bread_30, Bread_35, Bread_53, Bread_74, Bread_98, Bread_107, Bread_127, Bread_149, Bread_153, oi_0, oi_1, oi_m10, oi_m2, P_lexerE, P_parseE, P_judgeAllE]; try dsimp only
          refine ⟨trivial, ?_⟩
          exact ⟨_, rfl, ⟨BV.fi (τ := sI τ2 1 0) hB2 (Fi.rf.i rfl) hB2.2.2.1.1 hB2.2.2.1.2 ⟨by show (0 : Int32) ≤ 0; decide, by show (0 : Int32) ≤ 2500; decide⟩ hB2.2.2.2.1.2 hB2.2.2.2.2.2, Or.inl ⟨by assumption, hD2.fi (Fi.rf.i rfl)⟩⟩, ⟨rfl, h5⟩, Or.inr ⟨⟨s, hbs, rfl⟩, ⟨X, τ1, τ2, ⟨h1.trans hk9.1, hX.2.2.1.1, fun i hi => by rw [← hk9.1] at hi; rw [ht i hi, hk9.2]⟩, hevL, hev2, KpT.q hf2, KpQ.fi (Fi.rf.i rfl), Or.inl ⟨(hS2.2.2.1.trans hx8).symm.trans (by assumption), by assumption, F9.fi (Fi.rf.i rfl)⟩⟩, hS2.2.1.trans hk9.1, hS2.2.2.2.2.trans hk9.2⟩⟩
        · apply hB
          dsimp only [rgo, rfd, Bread, Nat.beq, rwp, rst, lv_args, rlk, rs1, rs2, rdl, rky, rct, rcs, rcd, rno, rsw, Value.category, List.filter, List.take, List.drop, List.reverse, List.reverseAux, List.cons_append, List.nil_append, Option.toList, Int.toNat, Int.reduceToNat, if_pos, if_neg, reduceIte, ↓reduceIte, Nat.reduceAdd, Nat.reduceEqDiff, Nat.reduceBEq, beq_self_eq_true, Bool.not_true, Bool.not_false, Bool.and_true, Bool.and_false, Bool.true_and, Bool.false_and, gI_sI, gI_sL, gI_sA, gI_sM, gL_sI, gL_sL, gL_sA, gL_sM, aI_sI, aI_sL, aI_sA, aI_sM, aL_sI, aL_sL, aL_sA, aL_sM, P_lexer, P_parse, P_judgeAll, Bread_0, Bread_23, Bread_30, Bread_35, Bread_53, Bread_74, Bread_98, Bread_107, Bread_127, Bread_149, Bread_153, oi_0, oi_1, oi_m10, oi_m2, P_lexerE, P_parseE, P_judgeAllE]; try dsimp only
          refine ⟨rfl, (by decide), (⟨hD2.fi (Fi.rf.i rfl), hB2.1.1, hB2.1.2⟩), fun w4 τ4 hq4 => ?_⟩
          have hw4 : w4 = none := hq4.1.1
          subst hw4
          dsimp only [Option.toList, List.cons_append, List.nil_append, Nat.beq, gI_sI, gI_sL, gI_sA, gI_sM, gL_sI, gL_sL, gL_sA, gL_sM, aI_sI, aI_sL, aI_sA, aI_sM, aL_sI, aL_sL, aL_sA, aL_sM, P_lexer, P_parse, P_judgeAll]
          apply hB
          dsimp only [rgo, rfd, Bread, Nat.beq, rwp, rst, lv_args, rlk, rs1, rs2, rdl, rky, rct, rcs, rcd, rno, rsw, Value.category, List.filter, List.take, List.drop, List.reverse, List.reverseAux, List.cons_append, List.nil_append, Option.toList, Int.toNat, Int.reduceToNat, if_pos, if_neg, reduceIte, ↓reduceIte, Nat.reduceAdd, Nat.reduceEqDiff, Nat.reduceBEq, beq_self_eq_true, Bool.not_true, Bool.not_false, Bool.and_true, Bool.and_false, Bool.true_and, Bool.false_and, gI_sI, gI_sL, gI_sA, gI_sM, gL_sI, gL_sL, gL_sA, gL_sM, aI_sI, aI_sL, aI_sA, aI_sM, aL_sI, aL_sL, aL_sA, aL_sM, P_lexer, P_parse, P_judgeAll, Bread_0, Bread_23, Bread_30, Bread_35, Bread_53, Bread_74, Bread_98, Bread_107, Bread_127, Bread_149, Bread_153, oi_0, oi_1, oi_m10, oi_m2, P_lexerE, P_parseE, P_judgeAllE]; try dsimp only
          refine ⟨trivial, ?_⟩
          obtain ⟨⟨-, hjd, Xj, hx1, hx2⟩, hevJ⟩ := hq4
          have hfg := Fg.tr (Fg.tr (Fg.rf.i rfl) hx1.g) hx2.g2
          exact ⟨_, rfl, ⟨(BV.fi (τ := sI τ2 1 0) hB2 (Fi.rf.i rfl) hB2.2.2.1.1 hB2.2.2.1.2 ⟨by show (0 : Int32) ≤ 0; decide, by show (0 : Int32) ≤ 2500; decide⟩ hB2.2.2.2.1.2 hB2.2.2.2.2.2).fg hfg hjd.2.1.2.1, Or.inr hjd⟩, ⟨(hfg.1 1 rfl).trans rfl, (hfg.1 123 rfl).trans h5⟩, Or.inr ⟨⟨s, hbs, rfl⟩, ⟨X, τ1, τ2, ⟨h1.trans hk9.1, hX.2.2.1.1, fun i hi => by rw [← hk9.1] at hi; rw [ht i hi, hk9.2]⟩, hevL, hev2, KpT.q hf2, (KpQ.fi (Fi.rf.i rfl)).tr (KpQ.fg hfg), Or.inr ⟨fun q => absurd ((hS2.2.2.1.trans hx8).trans q) (by assumption), _, F9.fi (Fi.rf.i rfl), (by exact hB2.1.1), hevJ⟩⟩, (hfg.1 119 rfl).trans (hS2.2.1.trans hk9.1), (hfg.2.2.1 118 rfl).trans (hS2.2.2.2.2.trans hk9.2)⟩⟩
      have t98 : ∀ (Z : RS) (s : Int32), RnB σ s → (gI Z 119 = gI σ 119 ∧ aI Z 118 = aI σ 118) → BV Z → gI Z 1 = gI Z 119 → (gI Z 123 = gI σ 123 ∧ gI Z 68 = gI σ 68) → ∀ m : Nat, ∀ (k : Int32) (f : Nat → Int32), (2500 - k.toInt).toNat = m → (0 ≤ k ∧ k ≤ gI Z 119) → (∀ i, i < nT k → f i = aI Z 118 i) → Yb f → G 98 [(0, .ref 1000), (3, .int s), (4, .int k)] [] (sA Z 0 f) := by
        intro Z s hbs hk9 hZ hZ1 hz5 m
        have hn := hZ.2.2.2.1.2
        induction m using Nat.strongRecOn with
        | ind m l98 =>
          intro k f hm hk hfe hfb
          apply hB
          dsimp only [rgo, rfd, Bread, Nat.beq, rwp, rst, lv_args, rlk, rs1, rs2, rdl, rky, rct, rcs, rcd, rno, rsw, Value.category, List.filter, List.take, List.drop, List.reverse, List.reverseAux, List.cons_append, List.nil_append, Option.toList, Int.toNat, Int.reduceToNat, if_pos, if_neg, reduceIte, ↓reduceIte, Nat.reduceAdd, Nat.reduceEqDiff, Nat.reduceBEq, beq_self_eq_true, Bool.not_true, Bool.not_false, Bool.and_true, Bool.and_false, Bool.true_and, Bool.false_and, gI_sI, gI_sL, gI_sA, gI_sM, gL_sI, gL_sL, gL_sA, gL_sM, aI_sI, aI_sL, aI_sA, aI_sM, aL_sI, aL_sL, aL_sA, aL_sM, P_lexer, P_parse, P_judgeAll, Bread_0, Bread_23, Bread_30, Bread_35, Bread_53, Bread_74, Bread_98, Bread_107, Bread_127, Bread_149, Bread_153, oi_0, oi_1, oi_m10, oi_m2, P_lexerE, P_parseE, P_judgeAllE]; try dsimp only
          refine ⟨rfl, fun h1 => ?_, fun h1 => ?_⟩
          · exact hW 127 [(0, .ref 1000), (3, .int s)] _ _ _ (by simp [rdl, rky]) (t127 _ s hbs hk9 (BV.fi hZ (Fi.rf.a rfl) hfb hZ.2.2.1.2 hZ.2.2.2.1.1 hZ.2.2.2.1.2 hZ.2.2.2.2.2) hZ1 (fun i hi => hfe i (Nat.lt_of_lt_of_le hi (nT_le hn.1 (show gI Z 119 ≤ k by lia)))) hz5)
          · apply hB
            dsimp only [rgo, rfd, Bread, Nat.beq, rwp, rst, lv_args, rlk, rs1, rs2, rdl, rky, rct, rcs, rcd, rno, rsw, Value.category, List.filter, List.take, List.drop, List.reverse, List.reverseAux, List.cons_append, List.nil_append, Option.toList, Int.toNat, Int.reduceToNat, if_pos, if_neg, reduceIte, ↓reduceIte, Nat.reduceAdd, Nat.reduceEqDiff, Nat.reduceBEq, beq_self_eq_true, Bool.not_true, Bool.not_false, Bool.and_true, Bool.and_false, Bool.true_and, Bool.false_and, gI_sI, gI_sL, gI_sA, gI_sM, gL_sI, gL_sL, gL_sA, gL_sM, aI_sI, aI_sL, aI_sA, aI_sM, aL_sI, aL_sL, aL_sA, aL_sM, P_lexer, P_parse, P_judgeAll, Bread_0, Bread_23, Bread_30, Bread_35, Bread_53, Bread_74, Bread_98, Bread_107, Bread_127, Bread_149, Bread_153, oi_0, oi_1, oi_m10, oi_m2, P_lexerE, P_parseE, P_judgeAllE]; try dsimp only
            refine ⟨rfl, rfl, rfl, (in_118 (by lia) (by lia)), rfl, (in_0 (by lia) (by lia)), ?_⟩
            rw [sA_sA]
            refine hW 98 [(0, .ref 1000), (3, .int s), (4, .int (k + 1))] _ _ _ (by simp [rdl, rky]) (l98 _ ?_ (k + 1) _ rfl ⟨by lia, by lia⟩ (fun i hi => ?_) (fun i => ?_))
            · exact mlt25 hm (by lia) (by lia)
            · have e := nT_add hk.1 (show k < 2147483647 by lia)
              by_cases q : i = nT k
              · subst q; exact upd_eq
              · exact (upd_ne q).trans (hfe i (by omega))
            · show 0 ≤ upd f (nT k) (aI Z 118 (nT k)) i ∧ upd f (nT k) (aI Z 118 (nT k)) i < 256
              by_cases q : i = nT k
              · subst q; rw [upd_eq]; exact hZ.2.2.1.2 _
              · rw [upd_ne q]; exact hfb i
      apply hB
      dsimp only [rgo, rfd, Bread, Nat.beq, rwp, rst, lv_args, rlk, rs1, rs2, rdl, rky, rct, rcs, rcd, rno, rsw, Value.category, List.filter, List.take, List.drop, List.reverse, List.reverseAux, List.cons_append, List.nil_append, Option.toList, Int.toNat, Int.reduceToNat, if_pos, if_neg, reduceIte, ↓reduceIte, Nat.reduceAdd, Nat.reduceEqDiff, Nat.reduceBEq, beq_self_eq_true, Bool.not_true, Bool.not_false, Bool.and_true, Bool.and_false, Bool.true_and, Bool.false_and, gI_sI, gI_sL, gI_sA, gI_sM, gL_sI, gL_sL, gL_sA, gL_sM, aI_sI, aI_sL, aI_sA, aI_sM, aL_sI, aL_sL, aL_sA, aL_sM, P_lexer, P_parse, P_judgeAll, Bread_0, Bread_23, Bread_30, Bread_35, Bread_53, Bread_74, Bread_98, Bread_107, Bread_127, Bread_149, Bread_153, oi_0, oi_1, oi_m10, oi_m2, P_lexerE, P_parseE, P_judgeAllE]; try dsimp only
      refine ⟨rfl, rfl, (by decide), (⟨hX.2.2.2.1.1.1, hX.2.2.2.1.1.2⟩), fun w1 τ1 hq1 => ?_⟩
      obtain ⟨⟨rfl, hF1, hc1⟩, hev1⟩ := hq1
      have hFL := hF1
      have hcL := hc1
      have hevL := hev1
      have hGL := GZ.lex hX hF1 hev1
      dsimp only [Option.toList, List.cons_append, List.nil_append, Nat.beq, gI_sI, gI_sL, gI_sA, gI_sM, gL_sI, gL_sL, gL_sA, gL_sM, aI_sI, aI_sL, aI_sA, aI_sM, aL_sI, aL_sL, aL_sA, aL_sM, P_lexer, P_parse, P_judgeAll]
      refine ⟨rfl, (by decide), (hGL), fun w2 τ2 hq2 => ?_⟩
      obtain ⟨⟨r2, rfl, hq2⟩, hev2⟩ := hq2
      rcases hq2 with ⟨rfl, hf2⟩ | ⟨rfl, hf2, mn2, kk2, jj2, hx2, hmn2⟩
      · dsimp only [Option.toList, List.cons_append, List.nil_append, Nat.beq, gI_sI, gI_sL, gI_sA, gI_sM, gL_sI, gL_sL, gL_sA, gL_sM, aI_sI, aI_sL, aI_sA, aI_sM, aL_sI, aL_sL, aL_sA, aL_sM, P_lexer, P_parse, P_judgeAll]
        have hB2 := hX.lp hFL hcL hf2 hGL
        refine ⟨rfl, fun h3 => ?_, fun h3 => absurd h3 (by decide)⟩
        clear h3
        apply hB
        dsimp only [rgo, rfd, Bread, Nat.beq, rwp, rst, lv_args, rlk, rs1, rs2, rdl, rky, rct, rcs, rcd, rno, rsw, Value.category, List.filter, List.take, List.drop, List.reverse, List.reverseAux, List.cons_append, List.nil_append, Option.toList, Int.toNat, Int.reduceToNat, if_pos, if_neg, reduceIte, ↓reduceIte, Nat.reduceAdd, Nat.reduceEqDiff, Nat.reduceBEq, beq_self_eq_true, Bool.not_true, Bool.not_false, Bool.and_true, Bool.and_false, Bool.true_and, Bool.false_and, gI_sI, gI_sL, gI_sA, gI_sM, gL_sI, gL_sL, gL_sA, gL_sM, aI_sI, aI_sL, aI_sA, aI_sM, aL_sI, aL_sL, aL_sA, aL_sM, P_lexer, P_parse, P_judgeAll, Bread_0, Bread_23, Bread_30, Bread_35, Bread_53, Bread_74, Bread_98, Bread_107, Bread_127, Bread_149, Bread_153, oi_0, oi_1, oi_m10, oi_m2, P_lexerE, P_parseE, P_judgeAllE]; try dsimp only
        refine ⟨rfl, rfl, rfl, rfl, rfl, ?_⟩
        have e0 : sA (sI (sI (sI τ2 1 0) 120 (gI τ2 16)) 1 (gI τ2 119)) 0 (aI (sI (sI (sI τ2 1 0) 120 (gI τ2 16)) 1 (gI τ2 119)) 0) = (sI (sI (sI τ2 1 0) 120 (gI τ2 16)) 1 (gI τ2 119)) := sA_id
        rw [← e0]
        exact hW 98 [(0, .ref 1000), (3, .int (gI τ2 15)), (4, .int 0)] _ _ _ (by simp [rdl, rky]) (t98 (sI (sI (sI τ2 1 0) 120 (gI τ2 16)) 1 (gI τ2 119)) (gI τ2 15) ⟨τ1, τ2, hevL, hev2, rfl⟩ ⟨(zz_same hFL hf2).2.1, (zz_same hFL hf2).2.2.2.2⟩ (BV.fi hB2 (((Fi.rf.i rfl).i rfl).i rfl) hB2.2.2.1.1 hB2.2.2.1.2 hB2.2.2.2.1.2 hB2.2.2.2.1.2 hB2.2.2.2.2.2) rfl ⟨(hf2.1 123 rfl).trans (hFL.1 123 rfl), (zz_same hFL hf2).2.2.1⟩ _ 0 _ rfl ⟨by decide, hB2.2.2.2.1.2.1⟩ (fun i hi => absurd hi (Nat.not_lt_zero i)) hB2.2.2.1.1)
      · dsimp only [Option.toList, List.cons_append, List.nil_append, Nat.beq, gI_sI, gI_sL, gI_sA, gI_sM, gL_sI, gL_sL, gL_sA, gL_sM, aI_sI, aI_sL, aI_sA, aI_sM, aL_sI, aL_sL, aL_sA, aL_sM, P_lexer, P_parse, P_judgeAll]
        have hB2 := hX.lp hFL hcL hf2 hGL
        have hD2 : PD τ2 := ⟨kk2, jj2, by rw [← hmn2]; exact hx2⟩
        refine ⟨rfl, fun h4 => absurd h4 (by decide), fun h4 => ?_⟩
        clear h4
        apply hB
        dsimp only [rgo, rfd, Bread, Nat.beq, rwp, rst, lv_args, rlk, rs1, rs2, rdl, rky, rct, rcs, rcd, rno, rsw, Value.category, List.filter, List.take, List.drop, List.reverse, List.reverseAux, List.cons_append, List.nil_append, Option.toList, Int.toNat, Int.reduceToNat, if_pos, if_neg, reduceIte, ↓reduceIte, Nat.reduceAdd, Nat.reduceEqDiff, Nat.reduceBEq, beq_self_eq_true, Bool.not_true, Bool.not_false, Bool.and_true, Bool.and_false, Bool.true_and, Bool.false_and, gI_sI, gI_sL, gI_sA, gI_sM, gL_sI, gL_sL, gL_sA, gL_sM, aI_sI, aI_sL, aI_sA, aI_sM, aL_sI, aL_sL, aL_sA, aL_sM, P_lexer, P_parse, P_judgeAll, Bread_0, Bread_23, Bread_30, Bread_35, Bread_53, Bread_74, Bread_98, Bread_107, Bread_127, Bread_149, Bread_153, oi_0, oi_1, oi_m10, oi_m2, P_lexerE, P_parseE, P_judgeAllE]; try dsimp only
        refine ⟨rfl, ?_⟩
        have hS := zz_same hFL hf2
        have e0 : sA (sI (sI τ2 1 0) 119 (gI σ 1)) 118 (aI (sI (sI τ2 1 0) 119 (gI σ 1)) 118) = sI (sI τ2 1 0) 119 (gI σ 1) := sA_id
        rw [← e0]
        exact hW 30 [(0, .ref 1000), (1, .int (gI σ 1)), (3, .int 0)] _ _ _ (by simp [rdl, rky]) (t30 (sI (sI τ2 1 0) 119 (gI σ 1)) (gI σ 1) hX.2.2.2.1.1 hB2.2.2.1.1 (hD2.fi ((Fi.rf.i rfl).i rfl)) (fun f hfe hfb => BV.fi hB2 (((Fi.rf.i rfl).i rfl).a rfl) hB2.2.2.1.1 hfb ⟨by show (0 : Int32) ≤ 0; decide, by show (0 : Int32) ≤ 2500; decide⟩ hX.2.2.2.1.1 ⟨σ, τ1, τ2, ⟨rfl, fun i hi => (congrFun hS.2.2.2.1 i).symm.trans (hfe i hi).symm⟩, hX.2.2.1.1, hX.2.1.1, hevL, hev2⟩) ⟨⟨rfl, (hf2.1 123 rfl).trans (hFL.1 123 rfl)⟩, ⟨⟨τ1, τ2, hevL, hev2, KpT.q hf2, KpQ.fi ((Fi.rf.i rfl).i rfl), F9.fi ((Fi.rf.i rfl).i rfl)⟩, rfl, rfl, hS.2.2.2.1⟩⟩ _ 0 _ rfl ⟨by decide, hX.2.2.2.1.1.1⟩ (fun i hi => absurd hi (Nat.not_lt_zero i)) hB2.2.2.1.2)
    next => exact hP.elim
