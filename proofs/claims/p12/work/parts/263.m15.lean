/-! the reference's frames, things, variables against what is laid -/
theorem IcR.at {th : Int → Int} {τ : RS} : ∀ {l : List ItZ} {c : Nat} {x : ItZ}, IcR th τ l → itN l c = some x → itR th τ c x := by
  intro l
  induction l with
  | nil => intro c x _ h; cases h
  | cons y l ih =>
    intro c x q h
    rw [itN] at h
    by_cases e : c = l.length
    · rw [if_pos e] at h
      cases h
      rw [e]
      exact q.1
    · rw [if_neg e] at h
      exact ih q.2 h
def FxR (σ : RS) (z : ZS) : List FrZ → Prop
  | [] => True
  | a :: F => ((aI σ 63 F.length).toInt = a.1 ∧ (aI σ 64 F.length).toInt = (a.2.2.1.2 : Int)) ∧ (¬ a.1 = 0 → (aI σ 65 F.length).toInt = (a.2.2.1.1 : Int) ∧ itN z.2.1 a.2.2.1.1 = some (.inr (20, 0, 0, fiS z a.2.1, -1)) ∧ (aI σ 60 a.2.2.1.2).toInt = fiS z a.2.1) ∧ FxR σ z F
theorem FxR.g {σ τ : RS} {z z' : ZS} (ig : z.2.1 <:+ z'.2.1) (sg : SgZ z z') : ∀ {F : List FrZ} {m : Nat} {i : Int} {b : Nat}, FxR σ z F → FtZ F m → AcZ z F i b → b ≤ snM z → (∀ k, k < m → aI τ 60 k = aI σ 60 k) → (∀ j, j < F.length → aI τ 63 j = aI σ 63 j ∧ aI τ 64 j = aI σ 64 j ∧ aI τ 65 j = aI σ 65 j) → FxR τ z' F := by
  intro F
  induction F with
  | nil => intro m i b _ _ _ _ _ _; trivial
  | cons a F ih =>
    intro m i b h ht ha hb e1 e2
    obtain ⟨⟨h1, h2⟩, h3, h4⟩ := h
    obtain ⟨t1, t2, t3⟩ := ht
    obtain ⟨a0, a1, a2, a3, a4, a5, a6, a7, a8, a9⟩ := ha
    have q := e2 F.length (by rw [List.length_cons]; omega)
    have ef : fiS z' a.2.1 = fiS z a.2.1 := by unfold fiS; rw [(sg.2 a.2.1 (by omega)).1]
    refine ⟨⟨by rw [q.1]; exact h1, by rw [q.2.1]; exact h2⟩, fun c => ?_, ?_⟩
    · have g := h3 c
      rw [q.2.2, ef, e1 _ t1]
      exact ⟨g.1, itN_g ig g.2.1, g.2.2⟩
    · exact ih h4 t3 a9 (by omega) (fun k hk => e1 k (by omega)) (fun j hj => e2 j (by rw [List.length_cons]; omega))
theorem AcZ.m {z : ZS} {F : List FrZ} {i : Int} {m m' : Nat} (h : AcZ z F i m) (hm : m ≤ m') : AcZ z F i m' := by
  cases F with
  | nil => exact h
  | cons a F => exact ⟨h.1, h.2.1, Nat.lt_of_lt_of_le h.2.2.1 hm, h.2.2.2⟩
/-- F: the reference's frames; K: those of what is read (one more where its variables are told ahead of it) -/
def ZRx (σ : RS) (z : ZS) (F K : List FrZ) : Prop := PcM id σ z ∧ (nT (gI σ 49) = tnM z ∧ nT (gI σ 62) = F.length) ∧ (FxR σ z F ∧ FtZ F (tnM z) ∧ ∃ i b, b ≤ snM z ∧ AcZ z F i b) ∧ FtZ K (tnM z) ∧ AcZ z K z.2.2.2.1.2 (snM z) ∧ KnZ (fun v => (aI σ 47 v).toInt) K z.2.2.2.1.1 ∧ EnZ (fun v => (aI σ 48 v).toInt) z.2.2.2.1.1 z.2.2.2.2.1 (nT (gI σ 42)) ∧ ∀ p ∈ z.2.2.2.1.1, p.1 < (nT (gI σ 42) : Int)
abbrev ZR (σ : RS) (z : ZS) (F : List FrZ) : Prop := ZRx σ z F F
/-- what of the reference's state it looks at, the codes aside -/
def ZeR (σ τ : RS) : Prop := gI τ 42 = gI σ 42 ∧ gI τ 49 = gI σ 49 ∧ gI τ 62 = gI σ 62 ∧ aI τ 47 = aI σ 47 ∧ aI τ 48 = aI σ 48 ∧ aI τ 60 = aI σ 60 ∧ aI τ 63 = aI σ 63 ∧ aI τ 64 = aI σ 64 ∧ aI τ 65 = aI σ 65
theorem ZeR.i42 {σ τ : RS} (h : ZeR σ τ) : gI τ 42 = gI σ 42 := h.1
theorem ZeR.i49 {σ τ : RS} (h : ZeR σ τ) : gI τ 49 = gI σ 49 := h.2.1
theorem ZeR.i62 {σ τ : RS} (h : ZeR σ τ) : gI τ 62 = gI σ 62 := h.2.2.1
theorem ZeR.a47 {σ τ : RS} (h : ZeR σ τ) : aI τ 47 = aI σ 47 := h.2.2.2.1
theorem ZeR.a48 {σ τ : RS} (h : ZeR σ τ) : aI τ 48 = aI σ 48 := h.2.2.2.2.1
theorem ZeR.a60 {σ τ : RS} (h : ZeR σ τ) : aI τ 60 = aI σ 60 := h.2.2.2.2.2.1
theorem ZeR.a63 {σ τ : RS} (h : ZeR σ τ) : aI τ 63 = aI σ 63 := h.2.2.2.2.2.2.1
theorem ZeR.a64 {σ τ : RS} (h : ZeR σ τ) : aI τ 64 = aI σ 64 := h.2.2.2.2.2.2.2.1
theorem ZeR.a65 {σ τ : RS} (h : ZeR σ τ) : aI τ 65 = aI σ 65 := h.2.2.2.2.2.2.2.2
theorem ZeR.rf {σ : RS} : ZeR σ σ := ⟨rfl, rfl, rfl, rfl, rfl, rfl, rfl, rfl, rfl⟩
theorem ZeR.tr {σ τ υ : RS} (h : ZeR σ τ) (g : ZeR τ υ) : ZeR σ υ := ⟨g.i42.trans h.i42, g.i49.trans h.i49, g.i62.trans h.i62, g.a47.trans h.a47, g.a48.trans h.a48, g.a60.trans h.a60, g.a63.trans h.a63, g.a64.trans h.a64, g.a65.trans h.a65⟩
/-- more is laid, more S's: the frames stay -/
theorem ZRx.g {σ τ : RS} {z z' : ZS} {F K : List FrZ} (h : ZRx σ z F K) (p : PcM id τ z') (ig : z.2.1 <:+ z'.2.1) (sg : SgZ z z') (e : z'.2.2.2 = z.2.2.2) (q : ZeR σ τ) : ZRx τ z' F K := by
  obtain ⟨h1, ⟨h2, h3⟩, ⟨h4, h5, i, b, h6, h7⟩, h8, h9, h10, h11, h12⟩ := h
  have et : tnM z' = tnM z := by unfold tnM; rw [e]
  refine ⟨p, ⟨by rw [q.i49, et]; exact h2, by rw [q.i62]; exact h3⟩, ⟨h4.g ig sg h5 h7 h6 (fun k _ => by rw [q.a60]) (fun j _ => ⟨by rw [q.a63], by rw [q.a64], by rw [q.a65]⟩), by rw [et]; exact h5, i, b, Nat.le_trans h6 sg.1, AcZ.g sg h6 h7⟩, by rw [et]; exact h8, ?_, ?_, ?_, ?_⟩
  · rw [e]
    exact (AcZ.g sg (Nat.le_refl _) h9).m sg.1
  · rw [e, q.a47]
    exact h10
  · rw [e, q.a48, q.i42]
    exact h11
  · rw [e, q.i42]
    exact h12
/-- a code of an S is laid -/
theorem ZRx.co {σ τ : RS} {z : ZS} {F K : List FrZ} {x : Int × Int × Int × Int × Int} (h : ZRx σ z F K) (p : PcM id τ (z.1, .inr x :: z.2.1, z.2.2)) (q : ZeR σ τ) : ZRx τ (z.1, .inr x :: z.2.1, z.2.2) F K := h.g p (List.suffix_cons _ _) (SgZ.e rfl) rfl q
/-- an exp is laid -/
theorem ZRx.ex {σ τ : RS} {N : Int → Int} {n : Nat} {z : ZS} {F K : List FrZ} (h : ZRx σ z F K) (p : PcM id τ (eM N n z)) (q : ZeR σ τ) : ZRx τ (eM N n z) F K := h.g p (ig_e z) (SgZ.e (by rw [ks_e])) (by rw [ks_e]) q
/-- one reads on -/
theorem ZRx.z {σ τ : RS} {z z' : ZS} {F K : List FrZ} (h : ZRx σ z F K) (p : PcM id τ z) (e : z'.2 = z.2) (q : ZeR σ τ) : ZRx τ z' F K := h.g (p.z (by rw [e])) (by rw [e]; exact List.suffix_rfl) (SgZ.e (by rw [e])) (by rw [e]) q
/-- an S begins; something is told of an S -/
theorem ZRx.be {σ : RS} {z : ZS} {F K : List FrZ} {k lv : Int} (h : ZRx σ z F K) : ZRx σ (beM k lv z) F K := h.g (h.1.z rfl) List.suffix_rfl SgZ.be rfl ZeR.rf
theorem ZRx.se {σ : RS} {z : ZS} {F K : List FrZ} {i : Nat} {f : SrZ → SrZ} (h : ZRx σ z F K) (hf : ∀ x, (f x).1 = x.1 ∧ (f x).2.1 = x.2.1 ∧ (f x).2.2.2.2.2.2.2.2 = x.2.2.2.2.2.2.2.2) (hl : kjS z i = 6 → ∀ x, (f x).2.2.2.2.2.2.2.1 = x.2.2.2.2.2.2.2.1) : ZRx σ (seM i f z) F K := h.g (h.1.z rfl) List.suffix_rfl (SgZ.se hf hl) rfl ZeR.rf
theorem ZRx.sNx {σ : RS} {z : ZS} {F K : List FrZ} {i : Nat} {v : Int} (h : ZRx σ z F K) : ZRx σ (seM i (sNx v) z) F K := h.se (fun _ => ⟨rfl, rfl, rfl⟩) (fun _ _ => rfl)
theorem ZRx.sBd {σ : RS} {z : ZS} {F K : List FrZ} {i : Nat} {v : Int} (h : ZRx σ z F K) : ZRx σ (seM i (sBd v) z) F K := h.se (fun _ => ⟨rfl, rfl, rfl⟩) (fun _ _ => rfl)
theorem ZRx.sOt {σ : RS} {z : ZS} {F K : List FrZ} {i : Nat} {v : Int} (h : ZRx σ z F K) : ZRx σ (seM i (sOt v) z) F K := h.se (fun _ => ⟨rfl, rfl, rfl⟩) (fun _ _ => rfl)
theorem ZRx.sLs {σ : RS} {z : ZS} {F K : List FrZ} {i : Nat} {v : Int} (h : ZRx σ z F K) : ZRx σ (seM i (sLs v) z) F K := h.se (fun _ => ⟨rfl, rfl, rfl⟩) (fun _ _ => rfl)
theorem ZRx.sEx {σ : RS} {z : ZS} {F K : List FrZ} {i : Nat} {v : Int} (h : ZRx σ z F K) : ZRx σ (seM i (sEx v) z) F K := h.se (fun _ => ⟨rfl, rfl, rfl⟩) (fun _ _ => rfl)
theorem ZRx.sLk {σ : RS} {z : ZS} {F K : List FrZ} {i : Nat} {v : Int} (h : ZRx σ z F K) (hk : ¬ kjS z i = 6) : ZRx σ (seM i (sLk v) z) F K := h.se (fun _ => ⟨rfl, rfl, rfl⟩) (fun q => absurd q hk)
/-- one thing more -/
theorem ZRx.th {σ τ : RS} {z : ZS} {F K : List FrZ} (h : ZRx σ z F K) (p : PcM id τ z) (e42 : gI τ 42 = gI σ 42) (e49 : nT (gI τ 49) = nT (gI σ 49) + 1) (e62 : gI τ 62 = gI σ 62) (a47 : aI τ 47 = aI σ 47) (a48 : aI τ 48 = aI σ 48) (a60 : ∀ k, k < nT (gI σ 49) → aI τ 60 k = aI σ 60 k) (a63 : aI τ 63 = aI σ 63) (a64 : aI τ 64 = aI σ 64) (a65 : aI τ 65 = aI σ 65) : ZRx τ (thM z) F K := by
  obtain ⟨h1, ⟨h2, h3⟩, ⟨h4, h5, i, b, h6, h7⟩, h8, h9, h10, h11, h12⟩ := h
  have sg : SgZ z (thM z) := SgZ.e rfl
  refine ⟨p.z rfl, ⟨by rw [e49, h2]; rfl, by rw [e62]; exact h3⟩, ⟨FxR.g (z := z) (z' := thM z) List.suffix_rfl sg h4 h5 h7 h6 (fun k hk => a60 k (by omega)) (fun j _ => ⟨by rw [a63], by rw [a64], by rw [a65]⟩), h5.m (Nat.le_succ _), i, b, h6, AcZ.g sg h6 h7⟩, h8.m (Nat.le_succ _), AcZ.g sg (Nat.le_refl _) h9, ?_, ?_, ?_⟩
  · show KnZ _ K z.2.2.2.1.1
    rw [a47]
    exact h10
  · show EnZ _ z.2.2.2.1.1 z.2.2.2.2.1 _
    rw [a48, e42]
    exact h11
  · rw [e42]
    exact h12
/-- a frame's variables are told ahead of it: the frame is one of what is read -/
theorem ZRx.k {σ : RS} {z : ZS} {F K : List FrZ} {a : FrZ} (h : ZRx σ z F K) (ht : FtZ (a :: K) (tnM z)) (ha : AcZ z (a :: K) (owF a : Int) (snM z)) (hk : KnZ (fun v => (aI σ 47 v).toInt) (a :: K) z.2.2.2.1.1) : ZRx σ (arM (owF a) z) F (a :: K) := by
  obtain ⟨h1, ⟨h2, h3⟩, ⟨h4, h5, i, b, h6, h7⟩, h8, h9, h10, h11, h12⟩ := h
  have sg : SgZ z (arM (owF a) z) := SgZ.e rfl
  exact ⟨h1.z rfl, ⟨h2, h3⟩, ⟨FxR.g (z := z) (z' := arM (owF a) z) List.suffix_rfl sg h4 h5 h7 h6 (fun _ _ => rfl) (fun _ _ => ⟨rfl, rfl, rfl⟩), h5, i, b, h6, AcZ.g sg h6 h7⟩, ht, AcZ.g sg (Nat.le_refl _) ha, hk, h11, h12⟩
/-- a frame is opened -/
theorem ZRx.op {σ τ : RS} {z : ZS} {F : List FrZ} {a : FrZ} (h : ZRx σ z F (a :: F)) (p : PcM id τ z) (e42 : gI τ 42 = gI σ 42) (e49 : gI τ 49 = gI σ 49) (e62 : nT (gI τ 62) = F.length + 1) (a47 : aI τ 47 = aI σ 47) (a48 : aI τ 48 = aI σ 48) (a60 : aI τ 60 = aI σ 60) (ra : ∀ j, j < F.length → aI τ 63 j = aI σ 63 j ∧ aI τ 64 j = aI σ 64 j ∧ aI τ 65 j = aI σ 65 j) (n1 : (aI τ 63 F.length).toInt = a.1) (n2 : (aI τ 64 F.length).toInt = (a.2.2.1.2 : Int)) (n3 : ¬ a.1 = 0 → (aI τ 65 F.length).toInt = (a.2.2.1.1 : Int) ∧ itN z.2.1 a.2.2.1.1 = some (.inr (20, 0, 0, fiS z a.2.1, -1)) ∧ (aI τ 60 a.2.2.1.2).toInt = fiS z a.2.1) : ZR τ z (a :: F) := by
  obtain ⟨h1, ⟨h2, h3⟩, ⟨h4, h5, i, b, h6, h7⟩, h8, h9, h10, h11, h12⟩ := h
  refine ⟨p, ⟨by rw [e49]; exact h2, by rw [e62]; rfl⟩, ⟨⟨⟨n1, n2⟩, n3, h4.g List.suffix_rfl SgZ.rf h5 h7 h6 (fun k _ => by rw [a60]) ra⟩, h8, _, _, Nat.le_refl _, h9⟩, h8, h9, ?_, ?_, ?_⟩
  · rw [a47]
    exact h10
  · rw [a48, e42]
    exact h11
  · rw [e42]
    exact h12
