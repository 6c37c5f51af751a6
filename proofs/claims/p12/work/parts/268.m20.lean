/-! all that stands between the reference and what is laid, while S's are read -/
/-- what codes, tokens, things, frames and variables may not lose -/
def WeR (σ τ : RS) : Prop := (gI τ 2 = gI σ 2 ∧ gI τ 42 = gI σ 42 ∧ gI τ 49 = gI σ 49 ∧ gI τ 62 = gI σ 62 ∧ gI τ 36 = gI σ 36) ∧ (∀ k, k < 19 ∨ 30 < k → aI τ k = aI σ k) ∧ aL τ = aL σ
theorem WeR.rf {σ : RS} : WeR σ σ := ⟨⟨rfl, rfl, rfl, rfl, rfl⟩, fun _ _ => rfl, rfl⟩
theorem WeR.tr {σ τ υ : RS} (h : WeR σ τ) (g : WeR τ υ) : WeR σ υ := ⟨⟨g.1.1.trans h.1.1, g.1.2.1.trans h.1.2.1, g.1.2.2.1.trans h.1.2.2.1, g.1.2.2.2.1.trans h.1.2.2.2.1, g.1.2.2.2.2.trans h.1.2.2.2.2⟩, fun k hk => (g.2.1 k hk).trans (h.2.1 k hk), g.2.2.trans h.2.2⟩
theorem WeR.s1 {k : Nat} {σ τ : RS} (h : S1 k σ τ) (hk : k ≠ 2 ∧ k ≠ 42 ∧ k ≠ 49 ∧ k ≠ 62 ∧ k ≠ 36) (l : aL τ = aL σ) : WeR σ τ := ⟨⟨h.1 2 (fun q => hk.1 q.symm), h.1 42 (fun q => hk.2.1 q.symm), h.1 49 (fun q => hk.2.2.1 q.symm), h.1 62 (fun q => hk.2.2.2.1 q.symm), h.1 36 (fun q => hk.2.2.2.2 q.symm)⟩, fun j _ => h.2 j, l⟩
theorem xA_t {k : Nat} (h : k < 19 ∨ 30 < k) : xaR k = false := by
  rcases h with h | h
  · unfold xaR
    have e1 : Nat.ble 19 k = false := by
      cases q : Nat.ble 19 k with
      | false => rfl
      | true => have := Nat.le_of_ble_eq_true q; omega
    rw [e1]
    simp only [Bool.false_and, Bool.false_or, beq_eq_false_iff_ne]
    omega
  · exact xA_f (by omega)
theorem WeR.kr {σ τ : RS} (h : KR σ τ) (l : aL τ = aL σ) : WeR σ τ := ⟨⟨h.1.1 2 rfl, h.1.1 42 rfl, h.1.1 49 rfl, h.1.1 62 rfl, h.1.1 36 rfl⟩, fun k hk => h.1.2 k (xA_t hk), l⟩
theorem WeR.em {σ τ : RS} {op a : Int32} (h : Em σ op a τ) (l : aL τ = aL σ) : WeR σ τ := ⟨⟨h.1 2 (by decide), h.1 42 (by decide), h.1 49 (by decide), h.1 62 (by decide), h.1 36 (by decide)⟩, fun k hk => h.2.2.2.2.1 k (by omega), l⟩
theorem WeR.z {σ τ : RS} (h : WeR σ τ) : ZeR σ τ := ⟨h.1.2.1, h.1.2.2.1, h.1.2.2.2.1, h.2.1 47 (by omega), h.2.1 48 (by omega), h.2.1 60 (by omega), h.2.1 63 (by omega), h.2.1 64 (by omega), h.2.1 65 (by omega)⟩
def NmZ (N : Int → Int) (σ : RS) : Prop := ∀ i j : Nat, i < nT (gI σ 2) → j < nT (gI σ 2) → i ≤ 500 → j ≤ 500 → aI σ 3 i = 1 → aI σ 3 j = 1 → ((aL σ 7 i = aL σ 7 j ∧ aI σ 8 i = aI σ 8 j ∧ aI σ 5 i = aI σ 5 j) ↔ N i = N j)
/-- a label's token is a NAME; a method's number, its NAME -/
def LbF (σ : RS) (z : ZS) (a : FrZ) : Prop := (a.1 = 7 → ∃ t : Nat, fiS z a.2.1 = (t : Int) ∧ t < nT (gI σ 2) ∧ t ≤ 500 ∧ aI σ 3 t = 1) ∧ (a.1 = 0 → (gI σ 36 - 1).toInt = a.2.2.2.1.getD 4 0 ∧ (aI σ 37 (gI σ 36 - 1).toNatClampNeg).toInt = a.2.2.2.1.getD 5 0)
def LbZ (σ : RS) (z : ZS) (F : List FrZ) : Prop := ∀ a ∈ F, LbF σ z a
theorem LbZ.fr {σ τ : RS} {z : ZS} {F : List FrZ} (h : LbZ σ z F) (e2 : gI τ 2 = gI σ 2) (e6 : gI τ 36 = gI σ 36) (a3 : aI τ 3 = aI σ 3) (a7 : aI τ 37 = aI σ 37) : LbZ τ z F := by
  intro a ha
  unfold LbF
  rw [e2, e6, a3, a7]
  exact h a ha
def UcZ (z : ZS) (F : List FrZ) : Prop := ∀ a ∈ F, a.1 = 9 → ∀ c x, itN z.2.1 c = some (.inr x) → x.1 = 51 → ¬ x.2.1 = (a.2.2.1.2 : Int)
/-- what was known ahead of a frame's S -/
def KoZ (z : ZS) (K : List FrZ) : Prop := ∀ a ∈ K, ¬ a.1 = 0 → knS z a.2.1 = a.2.2.2.2
def BZ (N : Int → Int) (σ : RS) (z : ZS) (F K : List FrZ) : Prop := ZRx σ z F K ∧ (TlZ σ z.1 ∧ NmZ N σ ∧ LbZ σ z F ∧ UcZ z F ∧ KoZ z K) ∧ (0 ≤ gI σ 49 ∧ gI σ 49 ≤ 600)
theorem TlZ.w {σ τ : RS} {s s' : SpC} (h : TlZ σ s) (e : WeR σ τ) (ek : zK s' = zK s) : TlZ τ s' := by
  intro i h1 h2 h3
  rw [e.1.1] at h1
  rw [e.2.1 3 (by omega)] at h3
  rw [e.2.1 10 (by omega), ek]
  exact h i h1 h2 h3
theorem NmZ.w {N : Int → Int} {σ τ : RS} (h : NmZ N σ) (e : WeR σ τ) : NmZ N τ := by
  intro i j
  rw [e.1.1, e.2.1 3 (by omega), e.2.1 5 (by omega), e.2.1 8 (by omega), e.2.2]
  exact h i j
theorem AcZ.lt {z : ZS} : ∀ {F : List FrZ} {i : Int} {m : Nat}, AcZ z F i m → ∀ a ∈ F, a.2.1 < m := by
  intro F
  induction F with
  | nil => intro i m _ a ha; cases ha
  | cons b G ih =>
    intro i m h a ha
    obtain ⟨h0, h1, h2, h3, h4, h5, h6, h7, h8, h9⟩ := h
    rcases List.mem_cons.mp ha with rfl | ha
    · omega
    · have := ih h9 a ha
      omega
theorem ZRx.ac {σ : RS} {z : ZS} {F K : List FrZ} (h : ZRx σ z F K) : ∀ a ∈ F, a.2.1 < snM z := by
  obtain ⟨h1, h2, ⟨h4, h5, i, b, h6, h7⟩, h8⟩ := h
  intro a ha
  have := h7.lt a ha
  omega
theorem LbZ.w {σ τ : RS} {z z' : ZS} {F : List FrZ} (h : LbZ σ z F) (hF : ∀ a ∈ F, a.2.1 < snM z) (e : WeR σ τ) (sg : SgZ z z') : LbZ τ z' F := by
  intro a ha
  have ef : fiS z' a.2.1 = fiS z a.2.1 := by unfold fiS; rw [(sg.2 a.2.1 (hF a ha)).1]
  unfold LbF
  rw [ef, e.1.1, e.1.2.2.2.2, e.2.1 3 (by omega), e.2.1 37 (by omega)]
  exact h a ha
theorem UcZ.w {z z' : ZS} {F : List FrZ} (h : UcZ z F) (e : ∀ c x, itN z'.2.1 c = some (.inr x) → x.1 = 51 → itN z.2.1 c = some (.inr x)) : UcZ z' F := fun a ha h9 c x q o => h a ha h9 c x (e c x q o) o
theorem ZRx.ak {σ : RS} {z : ZS} {F K : List FrZ} (h : ZRx σ z F K) : ∀ a ∈ K, a.2.1 < snM z := h.2.2.2.2.1.lt
theorem KoZ.w {z z' : ZS} {K : List FrZ} (h : KoZ z K) (hK : ∀ a ∈ K, a.2.1 < snM z) (sg : SgZ z z') : KoZ z' K := fun a ha h0 => by
  have e : knS z' a.2.1 = knS z a.2.1 := (sg.2 a.2.1 (hK a ha)).2.1
  rw [e]
  exact h a ha h0
theorem BZ.g {N : Int → Int} {σ τ : RS} {z z' : ZS} {F K : List FrZ} (h : BZ N σ z F K) (e : WeR σ τ) (p : PcM id τ z') (ig : z.2.1 <:+ z'.2.1) (sg : SgZ z z') (e4 : z'.2.2.2 = z.2.2.2) (ek : zK z'.1 = zK z.1) (n5 : ∀ c x, itN z'.2.1 c = some (.inr x) → x.1 = 51 → itN z.2.1 c = some (.inr x)) : BZ N τ z' F K := ⟨h.1.g p ig sg e4 e.z, ⟨h.2.1.1.w e ek, h.2.1.2.1.w e, h.2.1.2.2.1.w h.1.ac e sg, h.2.1.2.2.2.1.w n5, h.2.1.2.2.2.2.w h.1.ak sg⟩, by rw [e.1.2.2.1]; exact h.2.2⟩
theorem n5_xs {l l' : List ItZ} (h : XsR l l') : ∀ c x, itN l' c = some (.inr x) → x.1 = 51 → itN l c = some (.inr x) := fun _ _ q _ => itN_xs h q
theorem n5_co {l : List ItZ} {y : Int × Int × Int × Int × Int} (h : ¬ y.1 = 51) : ∀ c x, itN (.inr y :: l) c = some (.inr x) → x.1 = 51 → itN l c = some (.inr x) := by
  intro c x q o
  rw [itN] at q
  by_cases e : c = l.length
  · rw [if_pos e] at q
    cases q
    exact absurd o h
  · rw [if_neg e] at q
    exact q
theorem kK_2 {s t : SpC} (e : t.2 = s.2) : zK t = zK s := by unfold zK; rw [e]
/-- one reads on; what of it is only told -/
theorem BZ.z {N : Int → Int} {σ τ : RS} {z z' : ZS} {F K : List FrZ} (h : BZ N σ z F K) (e : WeR σ τ) (p : gI τ 18 = gI σ 18) (pa : ∀ k, 19 ≤ k → k ≤ 24 → aI τ k = aI σ k) (e2 : z'.2 = z.2) (ek : zK z'.1 = zK z.1) : BZ N τ z' F K := h.g e ((h.1.1.fr p (fun k a b _ _ => by rw [pa k a b])).z (by rw [e2])) (by rw [e2]; exact List.suffix_rfl) (SgZ.e (by rw [e2])) (by rw [e2]) ek (by rw [e2]; exact fun _ _ q _ => q)
theorem BZ.s1 {N : Int → Int} {k : Nat} {σ τ : RS} {z z' : ZS} {F K : List FrZ} (h : BZ N σ z F K) (e : S1 k σ τ) (hk : k ≠ 2 ∧ k ≠ 18 ∧ k ≠ 42 ∧ k ≠ 49 ∧ k ≠ 62 ∧ k ≠ 36) (l : aL τ = aL σ) (e2 : z'.2 = z.2) (ek : zK z'.1 = zK z.1) : BZ N τ z' F K := h.z (WeR.s1 e ⟨hk.1, hk.2.2⟩ l) (e.1 18 (fun q => hk.2.1 q.symm)) (fun j _ _ => e.2 j) e2 ek
theorem kK_acc {s : SpC} : zK (accY s) = zK s := kK_2 acc2
theorem kK_rai {n : Int} {s : SpC} : zK (raiY n s) = zK s := by
  unfold raiY
  split <;> rfl
theorem kK_xp {c : Int} {s : SpC} : zK (xpY c s) = zK s := by
  unfold xpY
  split
  · exact kK_acc
  · exact kK_rai
theorem BZ.tk {N : Int → Int} {σ τ : RS} {z : ZS} {F K : List FrZ} (h : BZ N σ z F K) (e : S1 14 σ τ) (l : aL τ = aL σ) : BZ N τ (accM z) F K := h.s1 e (by decide) l rfl kK_acc
theorem BZ.xp {N : Int → Int} {σ τ : RS} {z : ZS} {F K : List FrZ} {d : Int} (h : BZ N σ z F K) (e : S1 14 σ τ) (l : aL τ = aL σ) : BZ N τ (xpM d z) F K := h.s1 e (by decide) l rfl kK_xp
/-- an exp -/
theorem BZ.ex {N : Int → Int} {σ τ : RS} {n : Nat} {z : ZS} {F K : List FrZ} (h : BZ N σ z F K) (e : KR σ τ) (l : aL τ = aL σ) (p : PcM id τ (eM N n z)) : BZ N τ (eM N n z) F K := h.g (WeR.kr e l) p (ig_e z) (SgZ.e (by rw [ks_e])) (by rw [ks_e]) (kK_2 (by rw [lf_e, p2_e])) (n5_xs ((ix_lv n).1 z))
/-- told of S's -/
theorem BZ.se {N : Int → Int} {σ : RS} {z : ZS} {F K : List FrZ} {i : Nat} {f : SrZ → SrZ} (h : BZ N σ z F K) (hf : ∀ x, (f x).1 = x.1 ∧ (f x).2.1 = x.2.1 ∧ (f x).2.2.2.2.2.2.2.2 = x.2.2.2.2.2.2.2.2) (hl : kjS z i = 6 → ∀ x, (f x).2.2.2.2.2.2.2.1 = x.2.2.2.2.2.2.2.1) : BZ N σ (seM i f z) F K := h.g WeR.rf (h.1.1.z rfl) List.suffix_rfl (SgZ.se hf hl) rfl rfl (fun _ _ q _ => q)
theorem BZ.qNx {N : Int → Int} {σ : RS} {z : ZS} {F K : List FrZ} {i : Nat} {v : Int} (h : BZ N σ z F K) : BZ N σ (seM i (sNx v) z) F K := h.se (fun _ => ⟨rfl, rfl, rfl⟩) (fun _ _ => rfl)
theorem BZ.qBd {N : Int → Int} {σ : RS} {z : ZS} {F K : List FrZ} {i : Nat} {v : Int} (h : BZ N σ z F K) : BZ N σ (seM i (sBd v) z) F K := h.se (fun _ => ⟨rfl, rfl, rfl⟩) (fun _ _ => rfl)
theorem BZ.qOt {N : Int → Int} {σ : RS} {z : ZS} {F K : List FrZ} {i : Nat} {v : Int} (h : BZ N σ z F K) : BZ N σ (seM i (sOt v) z) F K := h.se (fun _ => ⟨rfl, rfl, rfl⟩) (fun _ _ => rfl)
theorem BZ.qLs {N : Int → Int} {σ : RS} {z : ZS} {F K : List FrZ} {i : Nat} {v : Int} (h : BZ N σ z F K) : BZ N σ (seM i (sLs v) z) F K := h.se (fun _ => ⟨rfl, rfl, rfl⟩) (fun _ _ => rfl)
theorem BZ.qEx {N : Int → Int} {σ : RS} {z : ZS} {F K : List FrZ} {i : Nat} {v : Int} (h : BZ N σ z F K) : BZ N σ (seM i (sEx v) z) F K := h.se (fun _ => ⟨rfl, rfl, rfl⟩) (fun _ _ => rfl)
theorem BZ.qLk {N : Int → Int} {σ : RS} {z : ZS} {F K : List FrZ} {i : Nat} {v : Int} (h : BZ N σ z F K) (hk : ¬ kjS z i = 6) : BZ N σ (seM i (sLk v) z) F K := h.se (fun _ => ⟨rfl, rfl, rfl⟩) (fun q => absurd q hk)
theorem BZ.be {N : Int → Int} {σ : RS} {z : ZS} {F K : List FrZ} {k lv : Int} (h : BZ N σ z F K) : BZ N σ (beM k lv z) F K := h.g WeR.rf (h.1.1.z rfl) List.suffix_rfl SgZ.be rfl rfl (fun _ _ q _ => q)
theorem BZ.nx {N : Int → Int} {σ : RS} {z : ZS} {F K : List FrZ} {l : Int} {j : Nat} (h : BZ N σ z F K) : BZ N σ (nxM l j z) F K := by
  unfold nxM
  split
  · exact h
  · exact h.qNx
/-- an exp of an S; a condition -/
theorem BZ.exq {N : Int → Int} {σ τ : RS} {j n : Nat} {z : ZS} {F K : List FrZ} (h : BZ N σ z F K) (e : KR σ τ) (l : aL τ = aL σ) (p : PcM id τ (eM N n z)) : BZ N τ (exS N j n z) F K := (h.ex e l p).qEx
theorem BZ.cd {N : Int → Int} {σ τ : RS} {j n : Nat} {z : ZS} {F K : List FrZ} (h : BZ N σ z F K) (e : KR σ τ) (l : aL τ = aL σ) (p : PcM id τ (cdM N 0 n z)) : BZ N τ (cdM N j n z) F K := by
  have h1 : BZ N σ (xpM 0 z) F K := h.z WeR.rf rfl (fun _ _ _ => rfl) rfl kK_xp
  have h2 : BZ N τ (exS N j n (xpM 0 z)) F K := h1.exq e l (PcM.z p rfl)
  exact h2.z WeR.rf rfl (fun _ _ _ => rfl) rfl kK_xp
/-- a code of an S: b: what was put there afterwards -/
theorem PcM.sb {th : Int → Int} {σ τ : RS} {z : ZS} {op a t b : Int32} {x : Int × Int × Int × Int × Int} (h : PcM th σ z) (e : EmZ σ op a 0 t t t τ) (h1 : op.toInt = x.1) (h2 : a.toInt = th x.2.1) (h3 : b.toInt = x.2.2.1) (h4 : t.toInt = x.2.2.2.1) : PcM th (sA τ 21 (upd (aI τ 21) (gI σ 18).toNatClampNeg b)) (z.1, .inr x :: z.2.1, z.2.2) := by
  have hn : (gI σ 18).toNatClampNeg = nT (gI σ 18) := rfl
  refine h.st (x := .inr x) e.n (fun k q1 q2 j hj => ?_) ?_
  · by_cases hk : k = 21
    · subst hk
      rw [aI_eq, hn, upd_ne (by omega)]
      exact e.o (by decide) (by decide) hj
    · rw [aI_ne hk]
      exact e.o q1 q2 hj
  · obtain ⟨c1, c2, c3, c4, c5, c6⟩ := e.c
    show (aI _ 19 _).toInt = x.1 ∧ (aI _ 20 _).toInt = th x.2.1 ∧ (aI _ 21 _).toInt = x.2.2.1 ∧ (aI _ 22 _).toInt = x.2.2.2.1
    rw [aI_ne (by decide), aI_ne (by decide), aI_eq, aI_ne (by decide), hn, upd_eq, c1, c2, c4]
    exact ⟨h1, h2, h3, h4⟩
theorem PcM.co {th : Int → Int} {σ τ : RS} {z : ZS} {op a t : Int32} {x : Int × Int × Int × Int × Int} (h : PcM th σ z) (e : EmZ σ op a 0 t t t τ) (h1 : op.toInt = x.1) (h2 : a.toInt = th x.2.1) (h3 : 0 = x.2.2.1) (h4 : t.toInt = x.2.2.2.1) : PcM th τ (z.1, .inr x :: z.2.1, z.2.2) := by
  refine h.st (x := .inr x) e.n (fun k q1 q2 j hj => e.o q1 q2 hj) ?_
  obtain ⟨c1, c2, c3, c4, c5, c6⟩ := e.c
  show (aI τ 19 _).toInt = x.1 ∧ (aI τ 20 _).toInt = th x.2.1 ∧ (aI τ 21 _).toInt = x.2.2.1 ∧ (aI τ 22 _).toInt = x.2.2.2.1
  rw [c1, c2, c3, c4]
  exact ⟨h1, h2, h3, h4⟩
theorem WeR.a {σ τ : RS} {k : Nat} {f : Nat → Int32} (h : WeR σ τ) (hk : 19 ≤ k ∧ k ≤ 30) : WeR σ (sA τ k f) := ⟨h.1, fun j hj => (aI_ne (by omega)).trans (h.2.1 j hj), h.2.2⟩
theorem BZ.co {N : Int → Int} {σ τ : RS} {z : ZS} {F K : List FrZ} {op a t : Int32} {x : Int × Int × Int × Int × Int} (h : BZ N σ z F K) (e : EmZ σ op a 0 t t t τ) (l : aL τ = aL σ) (h1 : op.toInt = x.1) (h2 : a.toInt = x.2.1) (h3 : 0 = x.2.2.1) (h4 : t.toInt = x.2.2.2.1) (h5 : ¬ x.1 = 51) : BZ N τ (z.1, .inr x :: z.2.1, z.2.2) F K := h.g (WeR.em e.1 l) (h.1.1.co e h1 h2 h3 h4) (List.suffix_cons _ _) (SgZ.e rfl) rfl rfl (n5_co h5)
theorem BZ.sb {N : Int → Int} {σ τ : RS} {z : ZS} {F K : List FrZ} {op a t b : Int32} {x : Int × Int × Int × Int × Int} (h : BZ N σ z F K) (e : EmZ σ op a 0 t t t τ) (l : aL τ = aL σ) (h1 : op.toInt = x.1) (h2 : a.toInt = x.2.1) (h3 : b.toInt = x.2.2.1) (h4 : t.toInt = x.2.2.2.1) (h5 : ¬ x.1 = 51) : BZ N (sA τ 21 (upd (aI τ 21) (gI σ 18).toNatClampNeg b)) (z.1, .inr x :: z.2.1, z.2.2) F K := h.g ((WeR.em e.1 l).a (by decide)) (h.1.1.sb e h1 h2 h3 h4) (List.suffix_cons _ _) (SgZ.e rfl) rfl rfl (n5_co h5)
def bI (k : Nat) : Bool := k == 2 || k == 18 || k == 42 || k == 49 || k == 62 || k == 36
def bA (k : Nat) : Bool := k == 3 || k == 5 || k == 8 || k == 10 || (Nat.ble 19 k && Nat.ble k 24) || k == 37 || k == 47 || k == 48 || k == 60 || k == 63 || k == 64 || k == 65
theorem BZ.i {N : Int → Int} {σ : RS} {z : ZS} {F K : List FrZ} {k : Nat} {v : Int32} (h : BZ N σ z F K) (hk : bI k = false) : BZ N (sI σ k v) z F K := by
  have g : ∀ j, bI j = true → gI (sI σ k v) j = gI σ j := fun j hj => by rw [gI_sI, nb_ne (fun q => by subst q; rw [hk] at hj; cases hj)]
  exact h.z ⟨⟨g 2 rfl, g 42 rfl, g 49 rfl, g 62 rfl, g 36 rfl⟩, fun _ _ => rfl, rfl⟩ (g 18 rfl) (fun _ _ _ => rfl) rfl rfl
theorem BZ.a {N : Int → Int} {σ : RS} {z : ZS} {F K : List FrZ} {k : Nat} {f : Nat → Int32} (h : BZ N σ z F K) (hk : bA k = false) : BZ N (sA σ k f) z F K := by
  have g : ∀ j, bA j = true → aI (sA σ k f) j = aI σ j := fun j hj => by rw [aI_sA, nb_ne (fun q => by subst q; rw [hk] at hj; cases hj)]
  have p : PcM id (sA σ k f) z := h.1.1.fr rfl (fun j q1 q2 _ _ => by
    rw [g j ?_]
    unfold bA
    rw [Nat.ble_eq_true_of_le q1, Nat.ble_eq_true_of_le q2]
    simp)
  refine ⟨h.1.g p List.suffix_rfl SgZ.rf rfl ⟨rfl, rfl, rfl, g 47 rfl, g 48 rfl, g 60 rfl, g 63 rfl, g 64 rfl, g 65 rfl⟩, ⟨?_, ?_, ?_, h.2.1.2.2.2⟩, h.2.2⟩
  · intro i h1 h2 h3
    rw [g 3 rfl] at h3
    rw [g 10 rfl]
    exact h.2.1.1 i h1 h2 h3
  · intro i j
    rw [g 3 rfl, g 8 rfl, g 5 rfl]
    exact h.2.1.2.1 i j
  · exact h.2.1.2.2.1.fr rfl rfl (g 3 rfl) (g 37 rfl)
/-- one thing more -/
theorem BZ.th {N : Int → Int} {σ τ : RS} {z : ZS} {F K : List FrZ} {t : Int32} (h : BZ N σ z F K) (e : ThZ σ t τ) (l : aL τ = aL σ) : BZ N τ (thM z) F K := by
  obtain ⟨e1, e2, e3, e4⟩ := e
  have en := th49 e1
  have hn := h.1.2.1.1
  have b := e1.2.2.2.2
  have ar : ∀ k, k < 50 ∨ 61 < k → aI τ k = aI σ k := e1.2.2.2.1
  refine ⟨h.1.th (h.1.1.fr (e1.1 18 (by decide)) (fun k q1 q2 _ _ => by rw [ar k (by omega)])) (e1.1 42 (by decide)) en (e1.1 62 (by decide)) (ar 47 (by omega)) (ar 48 (by omega)) (fun k hk => by rw [e3, upd_ne (by omega)]) (ar 63 (by omega)) (ar 64 (by omega)) (ar 65 (by omega)), ⟨?_, ?_, ?_, h.2.1.2.2.2⟩, ?_⟩
  · intro i h1 h2 h3
    rw [e1.1 2 (by decide)] at h1
    rw [ar 3 (by omega)] at h3
    rw [ar 10 (by omega)]
    exact h.2.1.1 i h1 h2 h3
  · intro i j
    rw [e1.1 2 (by decide), ar 3 (by omega), ar 8 (by omega), ar 5 (by omega), l]
    exact h.2.1.2.1 i j
  · exact LbZ.fr (z := z) h.2.1.2.2.1 (e1.1 2 (by decide)) (e1.1 36 (by decide)) (ar 3 (by omega)) (ar 37 (by omega))
  · rw [e1.2.1]
    lia
theorem BZ.f' {N : Int → Int} {σ0 σ : RS} {z0 z : ZS} {F : List FrZ} {kd lv k : Int} {x : List Int} (h0 : BZ N σ0 z0 F F) (h : BZ N σ z F F) (sg0 : SgZ z0 z) (hlt : snM z0 < snM z) (A : (reS z (snM z0)).1 = (kd, zAt z0.1, lv, z0.2.2.2.1.2) ∧ (reS z (snM z0)).2.1 = z0.2.2.2.1.1 ∧ tjS z (snM z0) = (tnM z0 : Int)) (e1 : z.2.2.2.1 = z0.2.2.2.1) (et : tnM z = tnM z0 + 1) (hu : (hdF F).1 = 7 → snM z0 = (hdF F).2 + 1) (hk : 1 ≤ k ∧ k ≤ 8 ∨ k = 12) (hkd : kd = kdF k) (h7 : k = 7 → ljS z (snM z0) = fiS z (snM z0)) : BZ N σ (arM (snM z0) z) F (frB k z0 x :: F) := by
  have hk9 : ¬ (9 ≤ k ∧ k ≤ 11) := by omega
  have ow : owF (frB k z0 x) = snM z0 := if_neg hk9
  have a0 := h0.1.2.2.2.2.1
  have ft0 := h0.1.2.2.2.1
  have kn := h.1.2.2.2.2.2.1
  have ac : AcZ z (frB k z0 x :: F) (owF (frB k z0 x) : Int) (snM z) := by
    refine ⟨rfl, by rw [ow]; exact Nat.le_refl _, by rw [ow]; exact hlt, by show 0 ≤ k ∧ k ≤ 12; omega, ?_, fun q => absurd q hk9, fun _ => ?_, fun q => h7 q, fun q => hu q, ?_⟩
    · show kjS z (snM z0) = kdF k
      unfold kjS
      rw [A.1]
      exact hkd
    · show tjS z (snM z0) = (tnM z0 : Int)
      exact A.2.2
    · show AcZ z F (paS z (snM z0)) (snM z0)
      have ep : paS z (snM z0) = z0.2.2.2.1.2 := by
        unfold paS
        rw [A.1]
      rw [ep]
      exact AcZ.g sg0 (Nat.le_refl _) a0
  have ft : FtZ (frB k z0 x :: F) (tnM z) := ⟨by show tnM z0 < tnM z; omega, by show k ≤ 12; omega, ft0⟩
  have kz : KnZ (fun v => (aI σ 47 v).toInt) (frB k z0 x :: F) z.2.2.2.1.1 := by
    show (if scF k = true then ∃ seg, z.2.2.2.1.1 = seg ++ z0.2.2.2.1.1 ∧ (∀ p ∈ seg, 0 ≤ p.1 ∧ (aI σ 47 p.1.toNat).toInt = nuF (frB k z0 x)) ∧ KnZ (fun v => (aI σ 47 v).toInt) F z0.2.2.2.1.1 else KnZ (fun v => (aI σ 47 v).toInt) F z.2.2.2.1.1)
    rw [e1] at kn ⊢
    split
    · exact ⟨[], rfl, fun _ q => (by cases q), kn⟩
    · exact kn
  have q := ZRx.k h.1 ft ac kz
  rw [ow] at q
  refine ⟨q, ⟨h.2.1.1, h.2.1.2.1, h.2.1.2.2.1, h.2.1.2.2.2.1, fun b hb h0' => ?_⟩, h.2.2⟩
  rcases List.mem_cons.mp hb with rfl | hb
  · show knS z (snM z0) = z0.2.2.2.1.1
    exact A.2.1
  · exact h.2.1.2.2.2.2 b hb h0'
theorem BZ.fr {N : Int → Int} {σ0 σ : RS} {z0 z : ZS} {F : List FrZ} {kd lv k : Int} {x : List Int} (h0 : BZ N σ0 z0 F F) (h : BZ N σ z F F) (sg : SgZ (beM kd lv z0) z) (e1 : z.2.2.2.1 = z0.2.2.2.1) (et : tnM z = tnM z0 + 1) (hu : (hdF F).1 = 7 → snM z0 = (hdF F).2 + 1) (hk : 1 ≤ k ∧ k ≤ 8 ∨ k = 12) (hkd : kd = kdF k) (h7 : k = 7 → ljS z (snM z0) = fiS z (snM z0)) : BZ N σ (arM (snM z0) z) F (frB k z0 x :: F) := by
  have A := sg.2 (snM z0) (Nat.lt_succ_self _)
  have R : reS (beM kd lv z0) (snM z0) = ((kd, zAt z0.1, lv, z0.2.2.2.1.2), z0.2.2.2.1.1, (-1, -1, -1, -1, -1, -1, (tnM z0 : Int))) := if_pos rfl
  refine BZ.f' (kd := kd) (lv := lv) h0 h (SgZ.be.tr sg) (by have := sg.1; exact this) ⟨by rw [A.1, R], by rw [A.2.1, R], ?_⟩ e1 et hu hk hkd h7
  rw [A.2.2.1]
  unfold tjS
  rw [R]
/-- a label begins: its NAME is told at once -/
theorem SgZ.bl {z : ZS} {k lv v : Int} : SgZ z (seM (snM z) (sLk v) (beM k lv z)) := by
  have e : ∀ j, j < snM z → reS (seM (snM z) (sLk v) (beM k lv z)) j = reS z j := fun j hj => by
    show (if j = snM z then _ else (if j = snM z then _ else _)) = _
    rw [if_neg (by omega), if_neg (by omega)]
    rfl
  refine ⟨Nat.le_succ _, fun j hj => ?_⟩
  have e := e j hj
  exact ⟨by rw [e], by rw [e], by unfold tjS; rw [e], fun _ => by unfold ljS; rw [e]⟩
theorem BZ.bl {N : Int → Int} {σ : RS} {z : ZS} {F K : List FrZ} {k lv v : Int} (h : BZ N σ z F K) : BZ N σ (seM (snM z) (sLk v) (beM k lv z)) F K := h.g WeR.rf (h.1.1.z rfl) List.suffix_rfl SgZ.bl rfl rfl (fun _ _ q _ => q)
theorem R_bl {z : ZS} {k lv v : Int} : reS (seM (snM z) (sLk v) (beM k lv z)) (snM z) = ((k, zAt z.1, lv, z.2.2.2.1.2), z.2.2.2.1.1, (-1, -1, -1, -1, -1, v, (tnM z : Int))) := by
  show (if snM z = snM z then _ else _ : SrZ) = _
  rw [if_pos rfl]
  show sLk v (if snM z = snM z then _ else _ : SrZ) = _
  rw [if_pos rfl]
  rfl
