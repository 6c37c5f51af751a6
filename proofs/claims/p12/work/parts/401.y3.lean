/-! what an S lays, by its kind: codes, records, in the order of reading (Z: all that was read) -/
/-- how many S's, how many things, what is laid -/
abbrev Ps : Type := Nat × Nat × List ItZ
def psM (z : ZS) : Ps := (snM z, tnM z, z.2.1)
def cIy (o a b t : Int) : ItZ := .inr (o, a, b, t, -1)
def cEy (o a b t : Int) (m : List ItZ) : ItZ := .inr (o, a, b, t, (xcZ m : Int) - 1)
def thS (Z : ZS) (j : Nat) : Int := (reS Z j).2.2.2.2.2.2.2.2
def hdI : List Nat → Int
  | [] => -1
  | j :: _ => (j : Int)
/-- kind, first token, level, parent; body, other, last, exp, link, thing -/
def ReD (Z : ZS) (j : Nat) (h : Int × Int × Int × Int) (b : Int × Int × Int × Int × Int × Int) : Prop := (reS Z j).1 = h ∧ (reS Z j).2.2.2 = b
def PgD (js : Int) (p q : Ps) : Prop := p.1 ≤ q.1 ∧ p.2.1 ≤ q.2.1 ∧ ∃ t, q.2.2 = t ++ p.2.2 ∧ GuL p.2.1 js q.2.1 t
def VaD (Z : ZS) (j : Nat) (h : Int × Int × Int × Int) (th : Int) (l m : List ItZ) : Prop := ∃ v t : Int, (0 ≤ v ∧ v < 60) ∧
  ((ReD Z j h (-1, -1, -1, -1, v, th) ∧ m = cIy 22 v 0 t :: l) ∨ ∃ m0 r x, ExX h.2.2.1 (cIy 22 v 2 t :: l) m0 r ∧ ReD Z j h (-1, -1, -1, (xcZ m0 : Int) - 1, v, th) ∧ (x.1.1 = 15 ∧ x.2.1.2.1 = v ∧ x.2.2.1.2.1 = (xcZ m0 : Int) - 1) ∧ m = .inl x :: m0)
def XsD (Z : ZS) (lv a : Int) (j k : Nat) (t : Int) (l : List ItZ) (q : Ps) : Prop := ∃ m r, ExX lv l m r ∧ ReD Z j (90, t, lv, a) (-1, -1, -1, (xcZ m : Int) - 1, -1, k) ∧ q = (j + 1, k, cEy 21 (acZ r) 0 r.1.2.2.1 m :: m)
def ToD (Z : ZS) (lv a : Int) (j k : Nat) (t : Int) (l : List ItZ) (q : Ps) : Prop := ∃ m, VaD Z j (91, t, lv, a) k l m ∧ q = (j + 1, k, m)
def EmD (Z : ZS) (lv a : Int) (j k : Nat) (t : Int) (l : List ItZ) (q : Ps) : Prop := ReD Z j (4, t, lv, a) (-1, -1, -1, -1, -1, k) ∧ q = (j + 1, k, l)
abbrev SsT : Type := Int → Ps → Ps → Prop
abbrev RsT : Type := Int → Nat → Int → List Nat → Ps → Ps → Prop
def BlD (Rw : RsT) (Z : ZS) (lv a : Int) (j k : Nat) (t : Int) (l : List ItZ) (q : Ps) : Prop := ∃ L, Rw 0 0 j L (j + 1, k + 1, l) q ∧ ReD Z j (2, t, lv, a) (hdI L, -1, -1, -1, -1, k)
def LaD (St : SsT) (Z : ZS) (lv a : Int) (j k : Nat) (t : Int) (l : List ItZ) (q : Ps) : Prop := ∃ q1 : Ps, St j (j + 1, k + 1, cIy 41 k 0 t :: l) q1 ∧ ReD Z j (6, t, lv, a) (((j + 1 : Nat) : Int), -1, -1, -1, t, k) ∧ q = (q1.1, q1.2.1, cIy 42 k 0 t :: q1.2.2)
def IfD (St : SsT) (Z : ZS) (lv a : Int) (j k : Nat) (t : Int) (l : List ItZ) (q : Ps) : Prop := ∃ m r, ∃ q1 : Ps, ExX lv l m r ∧ St j (j + 1, k + 1, cEy 23 k 0 t m :: m) q1 ∧
  ((ReD Z j (56, t, lv, a) (((j + 1 : Nat) : Int), -1, -1, (xcZ m : Int) - 1, -1, k) ∧ q = (q1.1, q1.2.1, cIy 25 k 0 t :: q1.2.2)) ∨
   ∃ t2, ∃ q2 : Ps, St j (q1.1, q1.2.1, cIy 24 k 0 t2 :: q1.2.2) q2 ∧ ReD Z j (56, t, lv, a) (((j + 1 : Nat) : Int), q1.1, -1, (xcZ m : Int) - 1, -1, k) ∧ q = (q2.1, q2.2.1, cIy 25 k 0 t :: q2.2.2))
def WhD (St : SsT) (Z : ZS) (lv a : Int) (j k : Nat) (t : Int) (l : List ItZ) (q : Ps) : Prop := ∃ m r, ∃ q1 : Ps, ExX lv (cIy 26 k 0 t :: l) m r ∧ St j (j + 1, k + 1, cEy 27 k 0 t m :: m) q1 ∧ ReD Z j (58, t, lv, a) (((j + 1 : Nat) : Int), -1, -1, (xcZ m : Int) - 1, -1, k) ∧ q = (q1.1, q1.2.1, cIy 28 k 0 t :: q1.2.2)
def DoD (St : SsT) (Z : ZS) (lv a : Int) (j k : Nat) (t : Int) (l : List ItZ) (q : Ps) : Prop := ∃ m r, ∃ q1 : Ps, St j (j + 1, k + 1, cIy 29 k 0 t :: l) q1 ∧ ExX lv (cIy 30 k 0 t :: q1.2.2) m r ∧ ReD Z j (59, t, lv, a) (((j + 1 : Nat) : Int), -1, -1, (xcZ m : Int) - 1, -1, k) ∧ q = (q1.1, q1.2.1, cEy 31 k 0 t m :: m)
/-- exps of for -/
def FxD (Z : ZS) (lv a : Int) : List Nat → Ps → Ps → Prop
  | [], p, q => q = p
  | j :: L, p, q => j = p.1 ∧ njS Z j = hdI L ∧ ∃ t m r, ReD Z j (94, t, lv, a) (-1, -1, -1, (xcZ m : Int) - 1, -1, p.2.1) ∧ ExX lv p.2.2 m r ∧ FxD Z lv a L (p.1 + 1, p.2.1, cEy 21 (acZ r) 0 r.1.2.2.1 m :: m) q
def FiD (Z : ZS) (lv : Int) (j : Nat) (o : Int) (p q : Ps) : Prop := (o = -1 ∧ q = p) ∨ (o = p.1 ∧ ∃ t m, VaD Z p.1 (93, t, lv, j) p.2.1 p.2.2 m ∧ njS Z p.1 = -1 ∧ q = (p.1 + 1, p.2.1, m)) ∨ ∃ L, o = hdI L ∧ ¬ L = [] ∧ FxD Z lv j L p q
def FuD (Z : ZS) (lv : Int) (j : Nat) (o : Int) (p q : Ps) : Prop := ∃ L, o = hdI L ∧ FxD Z lv j L p q
def FcD (lv : Int) (k : Nat) (t x : Int) (l m : List ItZ) : Prop := (x = -1 ∧ m = cIy 33 k 0 t :: l) ∨ ∃ m0 r, ExX lv l m0 r ∧ x = (xcZ m0 : Int) - 1 ∧ m = cEy 33 k 1 t m0 :: m0
def FoD (St : SsT) (Z : ZS) (lv a : Int) (j k : Nat) (t : Int) (l : List ItZ) (q : Ps) : Prop := ∃ (q1 q3 q4 : Ps) (m2 : List ItZ) (o g x : Int), FiD Z lv j o (j + 1, k + 1, l) q1 ∧ FcD lv k t x (cIy 32 k 0 t :: q1.2.2) m2 ∧ FuD Z lv j g (q1.1, q1.2.1, cIy 34 k 0 t :: m2) q3 ∧ St j (q3.1, q3.2.1, cIy 35 k 0 t :: q3.2.2) q4 ∧
  ReD Z j (60, t, lv, a) (q3.1, o, g, x, -1, k) ∧ q = (q4.1, q4.2.1, cIy 36 k 0 t :: q4.2.2)
def SwD (Rw : RsT) (Z : ZS) (lv a : Int) (j k : Nat) (t : Int) (l : List ItZ) (q : Ps) : Prop := ∃ m r L, ∃ q1 : Ps, ExX lv l m r ∧ Rw 1 k j L (j + 1, k + 1, cEy 37 k 0 t m :: m) q1 ∧ (∀ i L', L = i :: L' → kjS Z i = 62 ∨ kjS Z i = 63) ∧ ReD Z j (61, t, lv, a) (hdI L, -1, -1, (xcZ m : Int) - 1, -1, k) ∧ q = (q1.1, q1.2.1, cIy 40 k 0 t :: q1.2.2)
/-- a block that is no S of its own -/
def BkD (Rw : RsT) (Z : ZS) (lv a : Int) (p q : Ps) : Prop := ∃ L t, Rw 0 0 p.1 L (p.1 + 1, p.2) q ∧ ReD Z p.1 (92, t, lv, a) (hdI L, -1, -1, -1, -1, p.2.1)
def TyD (Rw : RsT) (Z : ZS) (lv a : Int) (j k : Nat) (t : Int) (l : List ItZ) (q : Ps) : Prop := ∃ (q1 q2 q3 : Ps) (o g v : Int), BkD Rw Z lv j (j + 1, k + 1, cIy 50 k 0 t :: l) q1 ∧
  ((o = -1 ∧ v = -1 ∧ q2 = q1) ∨ (o = q1.1 ∧ (0 ≤ v ∧ v < 60) ∧ ∃ t2, BkD Rw Z lv j (q1.1, q1.2.1, .inr (51, (k : Int), 0, t2, -2 - v) :: q1.2.2) q2)) ∧
  ((g = -1 ∧ q3 = q2) ∨ (g = q2.1 ∧ ∃ t3, BkD Rw Z lv j (q2.1, q2.2.1, cIy 52 k 0 t3 :: q2.2.2) q3)) ∧ (0 ≤ o ∨ 0 ≤ g) ∧ ReD Z j (68, t, lv, a) (((j + 1 : Nat) : Int), o, g, -1, v, k) ∧ q = (q3.1, q3.2.1, cIy 53 k 0 t :: q3.2.2)
/-- the thing that a jump leads to -/
def tqD (N : Int → Int) (Z : ZS) (j : Nat) : Int := if tjT N Z j < 0 then -2 else thS Z (tjT N Z j).toNat
def JuD (N : Int → Int) (Z : ZS) (lv a : Int) (j k : Nat) (t : Int) (l : List ItZ) (q : Ps) : Prop := ∃ kd lk t2, (kd = 64 ∨ kd = 65) ∧ ((lk = -1 ∧ t2 = t ∧ zK Z.1 t2.toNat = kd) ∨ (lk = t2 ∧ 0 ≤ t2 ∧ zK Z.1 t2.toNat = 80)) ∧ ReD Z j (kd, t, lv, a) (-1, -1, -1, -1, lk, k) ∧ q = (j + 1, k, cIy (kd - 18) (tqD N Z j) 0 t2 :: l)
def GiD (M : Int) (Z : ZS) (lv a : Int) (j k : Nat) (t : Int) (l : List ItZ) (q : Ps) : Prop := (ReD Z j (66, t, lv, a) (-1, -1, -1, -1, M, k) ∧ q = (j + 1, k, cIy 48 0 (-2) t :: l)) ∨
  ∃ m r, ExX lv l m r ∧ ((ReD Z j (66, t, lv, a) (-1, -1, -1, (xcZ m : Int) - 1, M, k) ∧ q = (j + 1, k, cEy 48 1 ((m.length : Int) - 1) t m :: m)) ∨ (ReD Z j (67, t, lv, a) (-1, -1, -1, (xcZ m : Int) - 1, -1, k) ∧ q = (j + 1, k, cEy 49 1 ((m.length : Int) - 1) t m :: m)))
/-- inside of an S -/
def InD (N : Int → Int) (M : Int) (St : SsT) (Rw : RsT) (Z : ZS) (lv a : Int) (j k : Nat) (t : Int) (l : List ItZ) (q : Ps) : Prop :=
  XsD Z lv a j k t l q ∨ ToD Z lv a j k t l q ∨ EmD Z lv a j k t l q ∨ BlD Rw Z lv a j k t l q ∨ LaD St Z lv a j k t l q ∨ IfD St Z lv a j k t l q ∨ WhD St Z lv a j k t l q ∨ DoD St Z lv a j k t l q ∨ FoD St Z lv a j k t l q ∨ SwD Rw Z lv a j k t l q ∨ TyD Rw Z lv a j k t l q ∨ JuD N Z lv a j k t l q ∨ GiD M Z lv a j k t l q
theorem inXs {N : Int → Int} {M : Int} {St : SsT} {Rw : RsT} {Z : ZS} {lv a : Int} {j k : Nat} {t : Int} {l : List ItZ} {q : Ps} (h : XsD Z lv a j k t l q) : InD N M St Rw Z lv a j k t l q := Or.inl h
theorem inTo {N : Int → Int} {M : Int} {St : SsT} {Rw : RsT} {Z : ZS} {lv a : Int} {j k : Nat} {t : Int} {l : List ItZ} {q : Ps} (h : ToD Z lv a j k t l q) : InD N M St Rw Z lv a j k t l q := Or.inr (Or.inl h)
theorem inEm {N : Int → Int} {M : Int} {St : SsT} {Rw : RsT} {Z : ZS} {lv a : Int} {j k : Nat} {t : Int} {l : List ItZ} {q : Ps} (h : EmD Z lv a j k t l q) : InD N M St Rw Z lv a j k t l q := Or.inr (Or.inr (Or.inl h))
theorem inBl {N : Int → Int} {M : Int} {St : SsT} {Rw : RsT} {Z : ZS} {lv a : Int} {j k : Nat} {t : Int} {l : List ItZ} {q : Ps} (h : BlD Rw Z lv a j k t l q) : InD N M St Rw Z lv a j k t l q := Or.inr (Or.inr (Or.inr (Or.inl h)))
theorem inLa {N : Int → Int} {M : Int} {St : SsT} {Rw : RsT} {Z : ZS} {lv a : Int} {j k : Nat} {t : Int} {l : List ItZ} {q : Ps} (h : LaD St Z lv a j k t l q) : InD N M St Rw Z lv a j k t l q := Or.inr (Or.inr (Or.inr (Or.inr (Or.inl h))))
theorem inIf {N : Int → Int} {M : Int} {St : SsT} {Rw : RsT} {Z : ZS} {lv a : Int} {j k : Nat} {t : Int} {l : List ItZ} {q : Ps} (h : IfD St Z lv a j k t l q) : InD N M St Rw Z lv a j k t l q := Or.inr (Or.inr (Or.inr (Or.inr (Or.inr (Or.inl h)))))
theorem inWh {N : Int → Int} {M : Int} {St : SsT} {Rw : RsT} {Z : ZS} {lv a : Int} {j k : Nat} {t : Int} {l : List ItZ} {q : Ps} (h : WhD St Z lv a j k t l q) : InD N M St Rw Z lv a j k t l q := Or.inr (Or.inr (Or.inr (Or.inr (Or.inr (Or.inr (Or.inl h))))))
theorem inDo {N : Int → Int} {M : Int} {St : SsT} {Rw : RsT} {Z : ZS} {lv a : Int} {j k : Nat} {t : Int} {l : List ItZ} {q : Ps} (h : DoD St Z lv a j k t l q) : InD N M St Rw Z lv a j k t l q := Or.inr (Or.inr (Or.inr (Or.inr (Or.inr (Or.inr (Or.inr (Or.inl h)))))))
theorem inFo {N : Int → Int} {M : Int} {St : SsT} {Rw : RsT} {Z : ZS} {lv a : Int} {j k : Nat} {t : Int} {l : List ItZ} {q : Ps} (h : FoD St Z lv a j k t l q) : InD N M St Rw Z lv a j k t l q := Or.inr (Or.inr (Or.inr (Or.inr (Or.inr (Or.inr (Or.inr (Or.inr (Or.inl h))))))))
theorem inSw {N : Int → Int} {M : Int} {St : SsT} {Rw : RsT} {Z : ZS} {lv a : Int} {j k : Nat} {t : Int} {l : List ItZ} {q : Ps} (h : SwD Rw Z lv a j k t l q) : InD N M St Rw Z lv a j k t l q := Or.inr (Or.inr (Or.inr (Or.inr (Or.inr (Or.inr (Or.inr (Or.inr (Or.inr (Or.inl h)))))))))
theorem inTy {N : Int → Int} {M : Int} {St : SsT} {Rw : RsT} {Z : ZS} {lv a : Int} {j k : Nat} {t : Int} {l : List ItZ} {q : Ps} (h : TyD Rw Z lv a j k t l q) : InD N M St Rw Z lv a j k t l q := Or.inr (Or.inr (Or.inr (Or.inr (Or.inr (Or.inr (Or.inr (Or.inr (Or.inr (Or.inr (Or.inl h))))))))))
theorem inJu {N : Int → Int} {M : Int} {St : SsT} {Rw : RsT} {Z : ZS} {lv a : Int} {j k : Nat} {t : Int} {l : List ItZ} {q : Ps} (h : JuD N Z lv a j k t l q) : InD N M St Rw Z lv a j k t l q := Or.inr (Or.inr (Or.inr (Or.inr (Or.inr (Or.inr (Or.inr (Or.inr (Or.inr (Or.inr (Or.inr (Or.inl h)))))))))))
theorem inGi {N : Int → Int} {M : Int} {St : SsT} {Rw : RsT} {Z : ZS} {lv a : Int} {j k : Nat} {t : Int} {l : List ItZ} {q : Ps} (h : GiD M Z lv a j k t l q) : InD N M St Rw Z lv a j k t l q := Or.inr (Or.inr (Or.inr (Or.inr (Or.inr (Or.inr (Or.inr (Or.inr (Or.inr (Or.inr (Or.inr (Or.inr h)))))))))))
/-- a case, a default -/
def CsD (Z : ZS) (lv : Int) (js : Nat) (a : Int) (p q : Ps) : Prop := (∃ t m r, ReD Z p.1 (62, t, lv, a) (-1, -1, -1, (xcZ m : Int) - 1, -1, p.2.1) ∧ ExX lv p.2.2 m r ∧ q = (p.1 + 1, p.2.1, cEy 38 js ((m.length : Int) - 1) t m :: m)) ∨ ∃ t, ReD Z p.1 (63, t, lv, a) (-1, -1, -1, -1, -1, p.2.1) ∧ q = (p.1 + 1, p.2.1, cIy 39 js 0 t :: p.2.2)
/-- a row -/
def RwD (St : SsT) (Z : ZS) (lv : Int) (sw : Int) (js : Nat) (a : Int) : List Nat → Ps → Ps → Prop
  | [], p, q => q = p
  | j :: L, p, q => j = p.1 ∧ njS Z j = hdI L ∧ ∃ p1, ((sw = 1 ∧ CsD Z lv js a p p1) ∨ St a p p1) ∧ RwD St Z lv sw js a L p1 q
/-- an S -/
def StD (N : Int → Int) (M : Int) (Z : ZS) : Nat → SsT
  | 0 => fun _ _ _ => False
  | n + 1 => fun a p q => ∃ (t : Int) (q1 : Ps), PgD (-1) p q ∧ (p.1 < q.1 ∧ 0 ≤ t ∧ t ≤ 500) ∧ InD N M (StD N M Z n) (RwD (StD N M Z n) Z (lvN n)) Z (lvN (n + 1)) a p.1 p.2.1 t (cIy 20 0 0 t :: p.2.2) q1 ∧ q = (q1.1, q1.2.1, cIy 45 p.2.2.length 0 t :: q1.2.2)
