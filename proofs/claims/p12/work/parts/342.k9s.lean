/-! S's and exps that stay as they are -/
def xjS (z : ZS) (j : Nat) : Int := (reS z j).2.2.2.2.2.2.1
def bjS (z : ZS) (j : Nat) : Int := (reS z j).2.2.2.1
def njS (z : ZS) (j : Nat) : Int := (reS z j).2.2.1
def ojS (z : ZS) (j : Nat) : Int := (reS z j).2.2.2.2.1
def gjS (z : ZS) (j : Nat) : Int := (reS z j).2.2.2.2.2.1
theorem opA_j {A : Nat → Nat} {x : Int} {b : Nat} (h : opA A x = some b) : ∃ n : Nat, x = (n : Int) ∧ b = A n := by
  unfold opA at h
  by_cases c : x < 0
  · rw [if_pos c] at h; cases h
  · rw [if_neg c] at h
    exact ⟨x.toNat, by omega, (Option.some.inj h).symm⟩
theorem opA_nn {A : Nat → Nat} {x : Int} (h : opA A x = none) : x < 0 := by
  unfold opA at h
  by_cases c : x < 0
  · exact c
  · rw [if_neg c] at h; cases h
/-- an S's object: what was read of it -/
def SlC (A B : Nat → Nat) (σ : CsC) (z : ZS) (j : Nat) (o : Nat) : Prop := ((fIC σ o 270).toInt = kjS z j ∧ (fIC σ o 271).toInt = fiS z j ∧ (fIC σ o 272).toInt = (reS z j).1.2.2.1 ∧ fRC σ o 273 = opA B (paS z j)) ∧ (fRC σ o 275 = opA B (njS z j) ∧ fRC σ o 276 = opA B (bjS z j) ∧ fRC σ o 277 = opA B (ojS z j) ∧ fRC σ o 278 = opA B (gjS z j) ∧ fRC σ o 279 = opA A (xjS z j) ∧ (fIC σ o 280).toInt = ljS z j)
/-- an exp's object -/
def XzC (σ : CsC) (x : XrZ) (k : Nat) (o : Nat) : Prop := (fIC σ o 60).toInt = x.1.1 ∧ (fIC σ o 61).toInt = x.1.2.1 ∧ (fIC σ o 63).toInt = x.2.2.1.1 ∧ (fIC σ o 65).toInt = (k : Int) ∧ (fIC σ o 66).toInt = x.2.1.1
/-- a list's row is there, if it holds anything -/
abbrev RoC (σ : CsC) (a : Nat) : Prop := 0 < (fIC σ a 2).toInt → ∀ r, fRC σ a 1 = some r → r < cnC σ
/-- S's, exps as they are judged, methods -/
def SsC (E A B : Nat → Nat) (σ : CsC) (z : ZS) (T : TbT) (ms : MfT) (nm : Nat) : Prop := (∀ j, j < snM z → SlC A B σ z j (B j) ∧ B j < cnC σ) ∧ (∀ k, k < xnM z → (TwC σ (A k) (T.1 k) ∧ XzC σ (xth z k) k (A k) ∧ (¬ (xth z k).1.1 = 10 → (fIC σ (A k) 67).toInt = (xth z k).2.1.2.1)) ∧ A k < cnC σ) ∧ (MaC E σ ms nm ∧ (E 1 < cnC σ ∧ E 211 < cnC σ) ∧ (RoC σ (E 211)) ∧ ∀ i m, ms i = some m → MoE E i < cnC σ) ∧ (fRC σ (E 1) 213 = some (E 213) ∧ LiC σ (E 213) (xnM z) A) ∧ E 213 < cnC σ ∧ RoC σ (E 213)
theorem nel {L M : List Nat} (h : L.all (fun k => !M.elem k) = true) {k : Nat} (hk : L.elem k = true) : M.elem k = false := by
  have := List.all_eq_true.mp h k (List.elem_iff.mp hk)
  cases e : M.elem k with
  | false => rfl
  | true => rw [e] at this; cases this
abbrev ssF : List Nat := [999, 900, 902, 1, 2, 60, 61, 63, 65, 66, 67, 68, 70, 71, 181, 182, 183, 185, 211, 213, 215, 216, 270, 271, 272, 273, 275, 276, 277, 278, 279, 280]
theorem MkC.fr {M : List Nat} {σ τ : CsC} {o : Nat} {m : MtT} (h : MkC σ m o) (f : FrE M σ τ) (hM : ssF.all (fun k => !M.elem k) = true) (ho : o < cnC σ) : MkC τ m o := by
  have q := f.2 (nel hM rfl) o ho
  obtain ⟨h1, h2, h3, r, ⟨h4, h5, h6⟩, h7⟩ := h
  refine ⟨?_, ?_, ?_, r, ⟨?_, ?_, h6⟩, ?_⟩
  · rw [(q.1 181 (nel hM rfl)).2.1]; exact h1
  · rw [(q.1 182 (nel hM rfl)).1]; exact h2
  · rw [(q.1 185 (nel hM rfl)).1]; exact h3
  · rw [(q.1 183 (nel hM rfl)).2.2]; exact h4
  · exact Nat.lt_of_lt_of_le h5 f.1
  · rw [(f.2 (nel hM rfl) r h5).2.1 (nel hM rfl)]; exact h7
theorem LiC.fr {M : List Nat} {σ τ : CsC} {a n : Nat} {A : Nat → Nat} (h : LiC σ a n A) (f : FrE M σ τ) (hM : ssF.all (fun k => !M.elem k) = true) (ha : a < cnC σ) (hr : RoC σ a) : LiC τ a n A := by
  have q := f.2 (nel hM rfl) a ha
  refine ⟨by rw [(q.1 2 (nel hM rfl)).1]; exact h.1, fun i hi => ⟨?_, Nat.lt_of_lt_of_le (h.2 i hi).2 f.1⟩⟩
  have e := (h.2 i hi).1
  unfold elC at e ⊢
  rw [(q.1 1 (nel hM rfl)).2.2]
  cases hc : fRC σ a 1 with
  | none => rw [hc] at e; exact e
  | some r =>
    rw [hc] at e
    dsimp only at e ⊢
    rw [(f.2 (nel hM rfl) r (hr (by have := h.1; omega) r hc)).2.2.2 (nel hM rfl)]
    exact e
theorem TwC.fr {M : List Nat} {σ τ : CsC} {o : Nat} {r : TvT} (h : TwC σ o r) (f : FrE M σ τ) (hM : ssF.all (fun k => !M.elem k) = true) (ho : o < cnC σ) : TwC τ o r := by
  have q := f.2 (nel hM rfl) o ho
  unfold TwC at *
  rw [(q.1 68 (nel hM rfl)).1, (q.1 70 (nel hM rfl)).1, (q.1 71 (nel hM rfl)).2.1]
  exact h
theorem SsC.fr {E A B : Nat → Nat} {M : List Nat} {σ τ : CsC} {z : ZS} {T : TbT} {ms : MfT} {nm : Nat} (h : SsC E A B σ z T ms nm) (f : FrE M σ τ) (hM : ssF.all (fun k => !M.elem k) = true) : SsC E A B τ z T ms nm := by
  obtain ⟨h1, h2, ⟨⟨⟨m1, m2, m3⟩, m4, m5, m6, m7⟩, ⟨h4, h5⟩, h6, h7⟩, ⟨h8, h9⟩, h10, h11⟩ := h
  have q1 := f.2 (nel hM rfl) (E 1) h4
  refine ⟨fun j hj => ?_, fun k hk => ?_, ⟨⟨⟨?_, ?_, ?_⟩, m4.fr f hM h5 h6, m5, fun i m hm => ⟨(m6 i m hm).1, (m6 i m hm).2.fr f hM (h7 i m hm)⟩, m7⟩, ⟨Nat.lt_of_lt_of_le h4 f.1, Nat.lt_of_lt_of_le h5 f.1⟩, fun s0 r hr => ?_, fun i m hm => Nat.lt_of_lt_of_le (h7 i m hm) f.1⟩, ⟨?_, h9.fr f hM h10 h11⟩, Nat.lt_of_lt_of_le h10 f.1, fun s0 r hr => ?_⟩
  · obtain ⟨⟨⟨a1, a2, a3, a4⟩, b1, b2, b3, b4, b5, b6⟩, c⟩ := h1 j hj
    have q := (f.2 (nel hM rfl) (B j) c).1
    refine ⟨⟨⟨?_, ?_, ?_, ?_⟩, ?_, ?_, ?_, ?_, ?_, ?_⟩, Nat.lt_of_lt_of_le c f.1⟩
    · rw [(q 270 (nel hM rfl)).1]; exact a1
    · rw [(q 271 (nel hM rfl)).1]; exact a2
    · rw [(q 272 (nel hM rfl)).1]; exact a3
    · rw [(q 273 (nel hM rfl)).2.2]; exact a4
    · rw [(q 275 (nel hM rfl)).2.2]; exact b1
    · rw [(q 276 (nel hM rfl)).2.2]; exact b2
    · rw [(q 277 (nel hM rfl)).2.2]; exact b3
    · rw [(q 278 (nel hM rfl)).2.2]; exact b4
    · rw [(q 279 (nel hM rfl)).2.2]; exact b5
    · rw [(q 280 (nel hM rfl)).1]; exact b6
  · obtain ⟨⟨a1, ⟨b1, b2, b3, b4, b5⟩, b6⟩, c⟩ := h2 k hk
    have q := (f.2 (nel hM rfl) (A k) c).1
    refine ⟨⟨a1.fr f hM c, ⟨?_, ?_, ?_, ?_, ?_⟩, fun hk => ?_⟩, Nat.lt_of_lt_of_le c f.1⟩
    · rw [(q 60 (nel hM rfl)).1]; exact b1
    · rw [(q 61 (nel hM rfl)).1]; exact b2
    · rw [(q 63 (nel hM rfl)).1]; exact b3
    · rw [(q 65 (nel hM rfl)).1]; exact b4
    · rw [(q 66 (nel hM rfl)).1]; exact b5
    · rw [(q 67 (nel hM rfl)).1]; exact b6 hk
  · rw [(q1.1 211 (nel hM rfl)).2.2]; exact m1
  · rw [(q1.1 215 (nel hM rfl)).2.2]; exact m2
  · rw [(q1.1 216 (nel hM rfl)).2.2]; exact m3
  · rw [((f.2 (nel hM rfl) (E 211) h5).1 1 (nel hM rfl)).2.2] at hr
    rw [((f.2 (nel hM rfl) (E 211) h5).1 2 (nel hM rfl)).1] at s0
    exact Nat.lt_of_lt_of_le (h6 s0 r hr) f.1
  · rw [(q1.1 213 (nel hM rfl)).2.2]; exact h8
  · rw [((f.2 (nel hM rfl) (E 213) h10).1 1 (nel hM rfl)).2.2] at hr
    rw [((f.2 (nel hM rfl) (E 213) h10).1 2 (nel hM rfl)).1] at s0
    exact Nat.lt_of_lt_of_le (h11 s0 r hr) f.1
/-- what the judge finds: its program, tokens' worth -/
def NmC (N : Int → Int) (E : Nat → Nat) (σ : CsC) : Prop := PjC E σ ∧ (TnC E σ ∧ E 2 < cnC σ ∧ E 304 < cnC σ) ∧ ∀ j : Nat, (eLC σ (E 304) j).toInt = N j
theorem NmC.fr {N : Int → Int} {E : Nat → Nat} {M : List Nat} {σ τ : CsC} (h : NmC N E σ) (f : FrE M σ τ) (hM : [999, 121, 210, 303, 304, 901].all (fun k => !M.elem k) = true) : NmC N E τ := by
  obtain ⟨⟨p1, p2, p3⟩, ⟨⟨t1, t2, t3⟩, t4, t5⟩, n⟩ := h
  refine ⟨⟨?_, Nat.lt_of_lt_of_le p2 f.1, Nat.lt_of_lt_of_le p3 f.1⟩, ⟨⟨?_, ?_, ?_⟩, Nat.lt_of_lt_of_le t4 f.1, Nat.lt_of_lt_of_le t5 f.1⟩, fun j => ?_⟩
  · rw [((f.2 (nel hM rfl) (E 3) p3).1 121 (nel hM rfl)).2.2]; exact p1
  · rw [((f.2 (nel hM rfl) (E 1) p2).1 210 (nel hM rfl)).2.2]; exact t1
  · rw [((f.2 (nel hM rfl) (E 2) t4).1 303 (nel hM rfl)).2.2]; exact t2
  · rw [((f.2 (nel hM rfl) (E 2) t4).1 304 (nel hM rfl)).2.2]; exact t3
  · rw [(f.2 (nel hM rfl) (E 304) t5).2.2.1 (nel hM rfl)]; exact n j
