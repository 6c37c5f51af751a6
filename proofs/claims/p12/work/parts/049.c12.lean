/-! reading as a function -/
/-- place, fault, its place; methods told, variables told; codes, places of tokens -/
abbrev SpC : Type := (Int × Int × Int) × (List (Int × Int × List Int) × List (Int × Int × Int × Int)) × (Nat → Int) × ((Nat → Int) × (Nat → Option (List (Int × Int × Int × Int))) × (Nat → Option (List (Int × Int × List Int))) × Nat × List (Nat × Nat))
def zAt (s : SpC) : Int := s.1.1
def zFt (s : SpC) : Int := s.1.2.1
def zPl (s : SpC) : Int := s.1.2.2
def zMs (s : SpC) : List (Int × Int × List Int) := s.2.1.1
def zVs (s : SpC) : List (Int × Int × Int × Int) := s.2.1.2
def zK (s : SpC) : Nat → Int := s.2.2.1
def zL (s : SpC) : Nat → Int := s.2.2.2.1
/-- variables that other programs have told, by their lists -/
def zO (s : SpC) : Nat → Option (List (Int × Int × Int × Int)) := s.2.2.2.2.1
/-- methods that other programs have told, by their lists; what is older than this reading; which methods stand where -/
def zP (s : SpC) : Nat → Option (List (Int × Int × List Int)) := s.2.2.2.2.2.1
def zN (s : SpC) : Nat := s.2.2.2.2.2.2.1
def zF (s : SpC) : List (Nat × Nat) := s.2.2.2.2.2.2.2
def codY (s : SpC) : Int := if zFt s = 0 then zK s (zAt s).toNat else -1
def cobY (s : SpC) : Int := if zFt s = 0 then (if zAt s < 500 then zK s (zAt s + 1).toNat else -1) else -1
def raiY (n : Int) (s : SpC) : SpC := if zFt s = 0 then ((zAt s, (if zK s (zAt s).toNat = 85 then 1 else n), zL s (zAt s).toNat), s.2) else s
def accY (s : SpC) : SpC := if 500 ≤ zAt s then raiY 3 s else if zFt s = 0 then ((zAt s + 1, zFt s, zPl s), s.2) else s
def xpY (c : Int) (s : SpC) : SpC := if codY s = c then accY s else raiY 2 s
def tkY (c : Int) (s : SpC) : SpC := if codY s = c then accY s else s
def dpY (d : Int) (s : SpC) : SpC := if 20 < d then raiY 3 s else s
def typY (s : SpC) : SpC := if 50 ≤ codY s ∧ codY s ≤ 54 then accY s else raiY 2 s
def tyvY (s : SpC) : Int := if 50 ≤ codY s ∧ codY s ≤ 54 then codY s - 50 else 3
def metY (ty : Int) (s : SpC) : SpC := (s.1, ((zAt s, ty, []) :: zMs s, zVs s), s.2.2)
def vadY (ty f : Int) (s : SpC) : SpC := (s.1, (zMs s, (zAt s, ty, f, ((zMs s).length : Int) - 1) :: zVs s), s.2.2)
def padY (ty : Int) (s : SpC) : SpC := (s.1, ((match zMs s with
  | [] => []
  | (a, b, l) :: r => (a, b, ty :: l) :: r), zVs s), s.2.2)
def dc1Y (h : Int) (s : SpC) : SpC := if codY s = 80 then (if h = 0 ∨ 60 ≤ (zVs s).length then raiY 3 s else s) else raiY 2 s
def dc2Y (ty f : Int) (s : SpC) : SpC := if zFt s = 0 then accY (vadY ty f s) else s
def dclY (ty f h : Int) (s : SpC) : SpC := dc2Y ty f (dc1Y h s)
def dcrY (h : Int) (s : SpC) : Int := if zFt (dc1Y h s) = 0 then (zVs s).length else -1
/-- a loop of exps with , between -/
def clpY (E : SpC → SpC) : Nat → SpC → SpC
  | 0, s => s
  | f + 1, s => if codY s = 5 then clpY E f (E (accY s)) else s
/-- a chain's loop -/
def chlY (O : SpC → SpC) : Nat → SpC → SpC
  | 0, s => s
  | f + 1, s => if 20 ≤ codY s ∧ codY s ≤ 38 then chlY O f (O (accY s)) else s
def cntY (s : SpC) : SpC := xpY 80 (accY s)
/-- one level of exps: E, C, I: an exp, a choice, an operand one deeper; m = 0: that is too deep -/
def ca2Y (m : Nat) (E : SpC → SpC) (s : SpC) : SpC := if m = 0 then raiY 3 s else if codY s = 1 then s else clpY E 501 (E s)
def calY (m : Nat) (E : SpC → SpC) (s : SpC) : SpC := xpY 1 (ca2Y m E (accY (accY s)))
def nmeY (m : Nat) (E : SpC → SpC) (s : SpC) : SpC := if cobY s = 0 then calY m E s else if cobY s = 41 ∨ cobY s = 42 then accY (accY s) else accY s
def alnY (I : SpC → SpC) (s : SpC) : SpC := I (accY s)
def op2Y (I E : SpC → SpC) (s : SpC) : SpC := if 50 ≤ codY s ∧ codY s ≤ 54 then I (xpY 1 (typY s)) else xpY 1 (E s)
def opnY (I E : SpC → SpC) (s : SpC) : SpC := op2Y I E (accY s)
def oprY (m : Nat) (E I : SpC → SpC) (s : SpC) : SpC :=
  if codY s = 34 ∨ codY s = 35 ∨ codY s = 39 ∨ codY s = 40 then alnY I s
  else if codY s = 41 ∨ codY s = 42 then cntY s
  else if codY s = 0 then opnY I E s
  else if codY s = 80 then nmeY m E s
  else if codY s = 81 ∨ codY s = 82 ∨ codY s = 83 ∨ codY s = 72 ∨ codY s = 73 then accY s
  else raiY 2 s
def chnY (O : SpC → SpC) (s : SpC) : SpC := chlY O 501 (O s)
def ch2Y (E C : SpC → SpC) (s : SpC) : SpC := if codY s = 7 then C (xpY 6 (E (accY s))) else s
def chcY (O E C : SpC → SpC) (s : SpC) : SpC := ch2Y E C (chnY O s)
def asgY (E : SpC → SpC) (s : SpC) : SpC := E (accY (accY s))
def xpsY (O E C : SpC → SpC) (s : SpC) : SpC := if codY s = 80 then (if 8 ≤ cobY s ∧ cobY s ≤ 19 then asgY E s else chcY O E C s) else chcY O E C s
/-- an exp, a choice, an operand at depth 21 - n -/
def lvY : Nat → (SpC → SpC) × (SpC → SpC) × (SpC → SpC)
  | 0 => (raiY 3, raiY 3, raiY 3)
  | n + 1 => (xpsY (oprY n (lvY n).1 (lvY n).2.2) (lvY n).1 (lvY n).2.1, chcY (oprY n (lvY n).1 (lvY n).2.2) (lvY n).1 (lvY n).2.1, oprY n (lvY n).1 (lvY n).2.2)
def eY (n : Nat) : SpC → SpC := (lvY n).1
def cY (n : Nat) : SpC → SpC := (lvY n).2.1
def oY (n : Nat) : SpC → SpC := (lvY n).2.2
def opY (n : Nat) (s : SpC) : SpC := oprY (n - 1) (eY (n - 1)) (oY (n - 1)) s
def chY (n : Nat) (s : SpC) : SpC := chcY (opY n) (eY (n - 1)) (cY (n - 1)) s
def exY (n : Nat) (s : SpC) : SpC := xpsY (opY n) (eY (n - 1)) (cY (n - 1)) s
theorem oY_s {n : Nat} (h : 1 ≤ n) : oY n = opY n := by
  cases n with
  | zero => omega
  | succ n => rfl
theorem cY_s {n : Nat} (h : 1 ≤ n) : cY n = chY n := by
  cases n with
  | zero => omega
  | succ n => rfl
theorem eY_s {n : Nat} (h : 1 ≤ n) : eY n = exY n := by
  cases n with
  | zero => omega
  | succ n => rfl
/-- S's: St, Rw: an S, a row one deeper -/
def cndY (n : Nat) (s : SpC) : SpC := xpY 1 (eY n (xpY 0 s))
def xstY (n : Nat) (s : SpC) : SpC := xpY 4 (eY n s)
def va2Y (n : Nat) (f : Int) (s : SpC) : SpC := if f = 1 ∨ codY s = 8 then eY n (xpY 8 s) else s
def varY (n : Nat) (s : SpC) : SpC := if codY s = 71 then va2Y n 1 (dclY (tyvY (accY s)) 1 1 (typY (accY s))) else va2Y n 0 (dclY (tyvY s) 0 1 (typY s))
def fexY (n : Nat) (s : SpC) : SpC := clpY (eY n) 501 (eY n s)
def casY (n : Nat) (s : SpC) : SpC := if codY s = 62 then xpY 6 (eY n (accY s)) else xpY 6 (accY s)
def blkY (Rw : Int → SpC → SpC) (s : SpC) : SpC := xpY 3 (Rw 0 (xpY 2 s))
def si3Y (k : Int) (s : SpC) : SpC := if k = 66 then s else if k = 67 then s else if codY s = 80 then accY s else s
def si2Y (n : Nat) (k : Int) (s : SpC) : SpC := if k = 67 then eY n s else if k = 66 then (if codY s = 4 then s else eY n s) else s
def simY (n : Nat) (Rw : Int → SpC → SpC) (s : SpC) : SpC := if codY s = 2 then blkY Rw s else if codY s = 4 then accY s else xpY 4 (si3Y (codY s) (si2Y n (codY s) (accY s)))
def labY (St : SpC → SpC) (s : SpC) : SpC := St (xpY 6 (accY s))
def if2Y (St : SpC → SpC) (s : SpC) : SpC := if codY s = 57 then St (accY s) else s
def ifY (n : Nat) (St : SpC → SpC) (s : SpC) : SpC := if2Y St (St (cndY n (accY s)))
def whiY (n : Nat) (St : SpC → SpC) (s : SpC) : SpC := St (cndY n (accY s))
def doY (n : Nat) (St : SpC → SpC) (s : SpC) : SpC := xpY 4 (cndY n (xpY 58 (St (accY s))))
def fo1Y (n : Nat) (s : SpC) : SpC := if codY s = 71 ∨ (50 ≤ codY s ∧ codY s ≤ 54) then varY n s else if codY s = 4 then s else fexY n s
def fo2Y (n : Nat) (s : SpC) : SpC := if codY s = 4 then s else eY n s
def fo3Y (n : Nat) (s : SpC) : SpC := if codY s = 1 then s else fexY n s
def forY (n : Nat) (St : SpC → SpC) (s : SpC) : SpC := St (xpY 1 (fo3Y n (xpY 4 (fo2Y n (xpY 4 (fo1Y n (xpY 0 (accY s))))))))
def swiY (n : Nat) (Rw : Int → SpC → SpC) (s : SpC) : SpC := xpY 3 (Rw 1 (xpY 2 (cndY n (accY s))))
def tr1Y (s : SpC) : SpC := if codY s = 69 ∨ codY s = 70 then s else raiY 2 s
def tr2Y (Rw : Int → SpC → SpC) (s : SpC) : SpC := if codY s = 69 then blkY Rw (xpY 1 (dclY 3 0 1 (xpY 0 (accY s)))) else s
def tr3Y (Rw : Int → SpC → SpC) (s : SpC) : SpC := if codY s = 70 then blkY Rw (accY s) else s
def tryY (Rw : Int → SpC → SpC) (s : SpC) : SpC := tr3Y Rw (tr2Y Rw (tr1Y (blkY Rw (accY s))))
def smY (n : Nat) (St : SpC → SpC) (Rw : Int → SpC → SpC) (s : SpC) : SpC :=
  if codY s = 56 then ifY n St s
  else if codY s = 58 then whiY n St s
  else if codY s = 59 then doY n St s
  else if codY s = 60 then forY n St s
  else if codY s = 61 then swiY n Rw s
  else if codY s = 68 then tryY Rw s
  else if codY s = 2 ∨ codY s = 4 ∨ codY s = 64 ∨ codY s = 65 ∨ codY s = 66 ∨ codY s = 67 then simY n Rw s
  else if codY s = 80 then (if cobY s = 6 then labY St s else xstY n s)
  else xstY n s
def rp2Y (n : Nat) (S : SpC → SpC) (s : SpC) : SpC := if codY s = 71 ∨ (50 ≤ codY s ∧ codY s ≤ 54) then xpY 4 (varY n s) else S s
def rpaY (n : Nat) (S : SpC → SpC) (sw b : Int) (s : SpC) : SpC := if sw = 1 then (if codY s = 62 ∨ codY s = 63 then casY n s else if b = 1 then rp2Y n S (raiY 2 s) else rp2Y n S s) else rp2Y n S s
def rwlY (n : Nat) (S : SpC → SpC) (sw : Int) : Nat → Int → SpC → SpC
  | 0, _, s => s
  | f + 1, b, s => if zFt s = 0 then (if codY s = 3 then s else rwlY n S sw f 0 (rpaY n S sw b s)) else s
/-- an S, a row at depth 21 - n -/
def lsY : Nat → (SpC → SpC) × (Int → SpC → SpC)
  | 0 => (raiY 3, fun _ => raiY 3)
  | n + 1 => (smY (n + 1) (lsY n).1 (lsY n).2, fun sw s => rwlY (n + 1) (smY (n + 1) (lsY n).1 (lsY n).2) sw 501 1 s)
def stY (n : Nat) : SpC → SpC := (lsY n).1
def rwY (n : Nat) : Int → SpC → SpC := (lsY n).2
def stsY (n : Nat) (s : SpC) : SpC := smY n (stY (n - 1)) (rwY (n - 1)) s
theorem stY_s {n : Nat} (h : 1 ≤ n) : stY n = stsY n := by
  cases n with
  | zero => omega
  | succ n => rfl
theorem rwY_s {n : Nat} (h : 1 ≤ n) (sw : Int) (s : SpC) : rwY n sw s = rwlY n (stY n) sw 501 1 s := by
  cases n with
  | zero => omega
  | succ n => rfl
theorem eY_z {n : Nat} (h : n = 0) : eY n = raiY 3 := by subst h; rfl
theorem cY_z {n : Nat} (h : n = 0) : cY n = raiY 3 := by subst h; rfl
theorem oY_z {n : Nat} (h : n = 0) : oY n = raiY 3 := by subst h; rfl
theorem dpY_n {d : Int} {s : SpC} (h : ¬ 20 < d) : dpY d s = s := by unfold dpY; rw [if_neg h]
theorem tkY_y {c : Int} {s : SpC} (h : codY s = c) : tkY c s = accY s := by unfold tkY; rw [if_pos h]
theorem tkY_n {c : Int} {s : SpC} (h : ¬ codY s = c) : tkY c s = s := by unfold tkY; rw [if_neg h]
theorem nzY {a b : Int} (f : a = b) (h : ¬ a = 0) : ¬ b = 0 := f ▸ h
theorem lgY {a : Int} {n k : Nat} (f : a = (n : Int)) (h : (k : Int) ≤ a) : k ≤ n := by omega
theorem ngY {a : Int} {n k : Nat} (f : a = (n : Int)) (h : a < (k : Int)) : ¬ k ≤ n := by omega
theorem neY {a b c d : Int} (f : a = b) (h : ¬ a = c) (e : c = d) : ¬ b = d := fun z => h (f.trans (z.trans e.symm))
theorem rgY {a b c d : Int} (f : a = b) (h : c ≤ a ∧ a ≤ d) : c ≤ b ∧ b ≤ d := f ▸ h
theorem nrY {a b c d : Int} (f : a = b) (h : ¬ (c ≤ a ∧ a ≤ d)) : ¬ (c ≤ b ∧ b ≤ d) := f ▸ h
/-- behind a fault nothing is read -/
theorem raiY_f {n : Int} {s : SpC} (h : ¬ zFt s = 0) : raiY n s = s := by unfold raiY; rw [if_neg h]
theorem codY_f {s : SpC} (h : ¬ zFt s = 0) : codY s = -1 := by unfold codY; rw [if_neg h]
theorem cobY_f {s : SpC} (h : ¬ zFt s = 0) : cobY s = -1 := by unfold cobY; rw [if_neg h]
theorem accY_f {s : SpC} (h : ¬ zFt s = 0) : accY s = s := by unfold accY; rw [raiY_f h, if_neg h]; split <;> rfl
theorem xpY_f {c : Int} {s : SpC} (h : ¬ zFt s = 0) : xpY c s = s := by unfold xpY; rw [raiY_f h, accY_f h]; split <;> rfl
theorem raiY_z {n : Int} {s : SpC} (hn : ¬ n = 0) : ¬ zFt (raiY n s) = 0 := by
  unfold raiY
  split
  · show ¬ (if zK s (zAt s).toNat = 85 then 1 else n) = 0
    split
    · decide
    · exact hn
  · assumption
theorem xst0 {s : SpC} : xstY 0 (raiY 3 s) = raiY 3 s := by
  show xpY 4 (raiY 3 (raiY 3 s)) = _
  rw [raiY_f (raiY_z (by decide)), xpY_f (raiY_z (by decide))]
theorem dpY_z {d : Int} {s : SpC} (h : 20 < d) : dpY d s = raiY 3 s := by unfold dpY; rw [if_pos h]
theorem rwlY_f {n f : Nat} {S : SpC → SpC} {sw b : Int} {s : SpC} (h : ¬ zFt s = 0) : rwlY n S sw f b s = s := by
  cases f with
  | zero => rfl
  | succ f => rw [rwlY, if_neg h]
theorem rwl0 {f : Nat} {sw b : Int} {s : SpC} : rwlY 0 (stY 0) sw f b (raiY 3 s) = rwY 0 sw s := rwlY_f (raiY_z (by decide))
/-- whether a row has begun -/
def fsY (o : Option Nat) : Int := match o with
  | none => 1
  | some _ => 0
/-- methods -/
def pa2Y (i : Nat) (ty f : Int) (s : SpC) : SpC := if i < 6 then padY ty (dclY ty f 1 s) else dclY ty f 0 s
def pa1Y (i : Nat) (s : SpC) : SpC := if codY s = 71 then pa2Y i (tyvY (accY s)) 1 (typY (accY s)) else pa2Y i (tyvY s) 0 (typY s)
def palY : Nat → Nat → SpC → SpC
  | 0, _, s => s
  | f + 1, i, s => if codY (pa1Y i s) = 5 then palY f (i + 1) (accY (pa1Y i s)) else pa1Y i s
def plY (m : Int) (f i : Nat) (s : SpC) : SpC := if m = 1 then palY f i s else s
def pa3Y (s : SpC) : SpC := if codY s = 1 then s else palY 7 0 s
def parY (s : SpC) : SpC := xpY 1 (pa3Y (xpY 0 s))
def me1Y (s : SpC) : SpC := if (50 ≤ codY s ∧ codY s ≤ 54) ∨ codY s = 55 then s else raiY 2 s
def me2Y (s : SpC) : SpC := if codY s = 80 then (if 10 ≤ (zMs s).length then raiY 3 s else s) else raiY 2 s
def me3Y (ty : Int) (s : SpC) : SpC := if zFt s = 0 then blkY (rwY 20) (parY (accY (metY ty s))) else s
def mthY (s : SpC) : SpC := me3Y (codY s - 50) (me2Y (accY (me1Y s)))
def prlY : Nat → SpC → SpC
  | 0, s => s
  | f + 1, s => if zFt s = 0 then (if codY s = 84 then s else prlY f (mthY s)) else s
/-- nothing is read yet -/
def Z0Y (s : SpC) : Prop := zAt s = 0 ∧ zFt s = 0 ∧ zMs s = [] ∧ zVs s = []
/-- sizes of some lists of methods and of variables that are not the reader's program's, by zL from 1000 on -/
def OuC (σ : CsC) (r : Nat) (s : SpC) : Prop := ∀ b : Nat, 0 ≤ zL s (1000 + b) → ((b < cnC σ ∧ tgC σ b = 0 ∧ (ghC σ b = 6 ∨ ghC σ b = 11)) ∧ ∀ q, fRC σ r 240 = some q → ¬ fRC σ q 211 = some b ∧ ¬ fRC σ q 212 = some b) ∧ (fIC σ b 2).toInt = zL s (1000 + b)
theorem OuC.x {M : List Nat} {σ τ : CsC} {r : Nat} {s s' : SpC} (e : OuC σ r s) (h : HI0 σ) (t : TyC σ r 8) (x : ExC M σ τ) (m0 : M.elem 240 = false) (m5 : M.elem 2 = false) (e3 : zL s' = zL s) : OuC τ r s' := by
  intro b hb
  rw [e3] at hb ⊢
  obtain ⟨⟨⟨b1, b2, b3⟩, b4⟩, b5⟩ := e b hb
  have z := x.2.2 b b1
  refine ⟨⟨⟨Nat.lt_of_lt_of_le b1 x.1, z.1.1.trans b2, by rw [z.1.2.2]; exact b3⟩, fun q hq => ?_⟩, by rw [(z.2.2.2 2 m5).1]; exact b5⟩
  rw [t.mr x m0] at hq
  obtain ⟨q', -, p, tq⟩ := cg240 h t
  cases p.symm.trans hq
  rw [tq.fr x (by decide) (k := 211) (by decide), tq.fr x (by decide) (k := 212) (by decide)]
  exact b4 _ p
theorem OuC.ad {σ τ : CsC} {r a : Nat} {s s' : SpC} (e : OuC σ r s) (h : HI0 σ) (t : TyC σ r 8) (x : ExC [0, 1, 2, 999] σ τ) (hn : ∀ b, b ≠ a → fIC τ b 2 = fIC σ b 2) (ho : ∀ b, (ghC σ b = 6 ∨ ghC σ b = 11) → (∀ q, fRC σ r 240 = some q → ¬ fRC σ q 211 = some b ∧ ¬ fRC σ q 212 = some b) → b ≠ a) (e3 : zL s' = zL s) : OuC τ r s' := by
  intro b hb
  rw [e3] at hb ⊢
  obtain ⟨⟨⟨b1, b2, b3⟩, b4⟩, b5⟩ := e b hb
  have z := x.2.2 b b1
  refine ⟨⟨⟨Nat.lt_of_lt_of_le b1 x.1, z.1.1.trans b2, by rw [z.1.2.2]; exact b3⟩, fun q hq => ?_⟩, by rw [hn b (ho b b3 b4)]; exact b5⟩
  rw [t.mr x (k := 240) rfl] at hq
  obtain ⟨q', -, p, tq⟩ := cg240 h t
  cases p.symm.trans hq
  rw [tq.fr x (by decide) (k := 211) (by decide), tq.fr x (by decide) (k := 212) (by decide)]
  exact b4 _ p
theorem OuC.xt {a c : Nat} {M : List Nat} {σ τ : CsC} {r : Nat} {s : SpC} (e : OuC σ r s) (h : HI0 σ) (t : TyC σ r 8) (w : RawC σ a c) (x : ExT a M σ τ) (m0 : M.elem 240 = false) (m5 : M.elem 2 = false) : OuC τ r s := by
  intro b hb
  obtain ⟨⟨⟨b1, b2, b3⟩, b4⟩, b5⟩ := e b hb
  have wt := w.2.1
  have z := x.2.2 b b1 (fun q => by rw [q] at b2; omega)
  refine ⟨⟨⟨Nat.lt_of_lt_of_le b1 x.1, z.1.1.trans b2, by rw [z.1.2.2]; exact b3⟩, fun q hq => ?_⟩, by rw [(z.2.2.2 2 m5).1]; exact b5⟩
  rw [t.mrt w (by decide) x m0] at hq
  obtain ⟨q', -, p, tq⟩ := cg240 h t
  cases p.symm.trans hq
  rw [tq.frt w (by decide) x (by decide) (k := 211) (by decide), tq.frt w (by decide) x (by decide) (k := 212) (by decide)]
  exact b4 _ p
/-- a variable's object -/
def VoC (σ : CsC) (o : Nat) (v : Int × Int × Int × Int) : Prop := (fIC σ o 330).toInt = v.1 ∧ (fIC σ o 331).toInt = v.2.1 ∧ (fIC σ o 332).toInt = v.2.2.1 ∧ (fIC σ o 333).toInt = v.2.2.2
/-- the variables of a list, the last one first -/
def VlC (σ : CsC) (a : Nat) : List (Int × Int × Int × Int) → Prop
  | [] => True
  | v :: l => (∃ o, elC σ a l.length = some o ∧ (o < cnC σ ∧ tgC σ o = 11) ∧ VoC σ o v) ∧ VlC σ a l
/-- variables' objects stay -/
def KvC (σ τ : CsC) : Prop := ∀ o, o < cnC σ → tgC σ o = 11 → (o < cnC τ ∧ tgC τ o = 11) ∧ ∀ v, VoC σ o v → VoC τ o v
theorem KvC.x {M : List Nat} {σ τ : CsC} (e : ExC M σ τ) : KvC σ τ := by
  intro o h1 h2
  have f := (e.2.2 o h1).2.1 (by rw [h2]; decide)
  refine ⟨⟨Nat.lt_of_lt_of_le h1 e.1, (e.2.2 o h1).1.1.trans h2⟩, fun v h => ?_⟩
  unfold VoC at *
  rw [(f 330 rfl).1, (f 331 rfl).1, (f 332 rfl).1, (f 333 rfl).1]
  exact h
theorem KvC.xt {a c : Nat} {M : List Nat} {σ τ : CsC} (w : RawC σ a c) (e : ExT a M σ τ) : KvC σ τ := by
  intro o h1 h2
  have wt := w.2.1
  have hn : o ≠ a := fun q => by rw [q] at h2; omega
  have f := (e.2.2 o h1 hn).2.1 (by rw [h2]; decide)
  refine ⟨⟨Nat.lt_of_lt_of_le h1 e.1, (e.2.2 o h1 hn).1.1.trans h2⟩, fun v h => ?_⟩
  unfold VoC at *
  rw [(f 330 rfl).1, (f 331 rfl).1, (f 332 rfl).1, (f 333 rfl).1]
  exact h
theorem VlC.fr {σ τ : CsC} {a : Nat} (k : KvC σ τ) : ∀ (l : List (Int × Int × Int × Int)), (∀ j : Nat, j < l.length → elC τ a j = elC σ a j) → VlC σ a l → VlC τ a l := by
  intro l
  induction l with
  | nil => exact fun _ _ => trivial
  | cons v l ih =>
    rintro he ⟨⟨o, h1, h2, h3⟩, h4⟩
    have q := k o h2.1 h2.2
    exact ⟨⟨o, (he l.length (by rw [List.length_cons]; omega)).trans h1, q.1, q.2 v h3⟩, ih (fun j hj => he j (by rw [List.length_cons]; omega)) h4⟩
theorem el_x {M : List Nat} {σ τ : CsC} {a j : Nat} (h : HI0 σ) (t : TyC σ a 0) (e : ExC M σ τ) (m1 : M.elem 1 = false) (m2 : M.elem 2 = false) (hj : (j : Int) < (fIC σ a 2).toInt) : elC τ a j = elC σ a j := by
  rcases (h a t.1).2.1 t.2.1 with ⟨-, p2⟩ | ⟨r, p1, ⟨p2, p3, -⟩, -⟩
  · omega
  · rw [el_of p1, el_of ((t.mr e m1).trans p1), (e.2.2 r p2).2.2.1.2 p3 m2]
theorem el_xt {b c : Nat} {M : List Nat} {σ τ : CsC} {a j : Nat} (h : HI0 σ) (t : TyC σ a 0) (w : RawC σ b c) (e : ExT b M σ τ) (m1 : M.elem 1 = false) (m2 : M.elem 2 = false) (hj : (j : Int) < (fIC σ a 2).toInt) : elC τ a j = elC σ a j := by
  have wt := w.2.1
  have wc := w.2.2
  rcases (h a t.1).2.1 t.2.1 with ⟨-, p2⟩ | ⟨r, p1, ⟨p2, p3, -⟩, -⟩
  · omega
  · rw [el_of p1, el_of ((t.mrt w (by decide) e m1).trans p1), (e.2.2 r p2 (fun q => by rw [q] at p3; omega)).2.2.1.2 p3 m2]
/-- variables of lists that are not the reader's program's -/
def OvC (σ : CsC) (r : Nat) (s : SpC) : Prop := ∀ (b : Nat) (l : List (Int × Int × Int × Int)), zO s b = some l → ((b < cnC σ ∧ tgC σ b = 0 ∧ ghC σ b = 11) ∧ ∀ q, fRC σ r 240 = some q → ¬ fRC σ q 212 = some b) ∧ (fIC σ b 2).toInt = l.length ∧ VlC σ b l
/-- variables of the reader's program -/
def VcC (σ : CsC) (r : Nat) (s : SpC) : Prop := ∀ q, fRC σ r 240 = some q → ∀ a, fRC σ q 212 = some a → VlC σ a (zVs s)
theorem OvC.x {M : List Nat} {σ τ : CsC} {r : Nat} {s s' : SpC} (e : OvC σ r s) (h : HI0 σ) (t : TyC σ r 8) (x : ExC M σ τ) (m0 : M.elem 240 = false) (m1 : M.elem 1 = false) (m5 : M.elem 2 = false) (e3 : zO s' = zO s) : OvC τ r s' := by
  intro b l hb
  rw [e3] at hb
  obtain ⟨⟨⟨b1, b2, b3⟩, b4⟩, b5, b6⟩ := e b l hb
  have z := x.2.2 b b1
  refine ⟨⟨⟨Nat.lt_of_lt_of_le b1 x.1, z.1.1.trans b2, z.1.2.2.trans b3⟩, fun q hq => ?_⟩, by rw [(z.2.2.2 2 m5).1]; exact b5, VlC.fr (KvC.x x) l (fun j hj => el_x h ⟨b1, b2, fun q => by cases q⟩ x m1 m5 (by omega)) b6⟩
  rw [t.mr x m0] at hq
  obtain ⟨q', -, p, tq⟩ := cg240 h t
  cases p.symm.trans hq
  rw [tq.fr x (by decide) (k := 212) (by decide)]
  exact b4 _ p
theorem OvC.ad {σ τ : CsC} {r a o : Nat} {s s' : SpC} (e : OvC σ r s) (h : HI0 σ) (t : TyC σ r 8) (x : ExC [0, 1, 2, 999] σ τ) (hn : ∀ b, b ≠ a → fIC τ b 2 = fIC σ b 2) (ae : AeC a o σ τ) (ho : ∀ b, ghC σ b = 11 → (∀ q, fRC σ r 240 = some q → ¬ fRC σ q 212 = some b) → b ≠ a) (e3 : zO s' = zO s) : OvC τ r s' := by
  intro b l hb
  rw [e3] at hb
  obtain ⟨⟨⟨b1, b2, b3⟩, b4⟩, b5, b6⟩ := e b l hb
  have z := x.2.2 b b1
  have nb := ho b b3 b4
  refine ⟨⟨⟨Nat.lt_of_lt_of_le b1 x.1, z.1.1.trans b2, z.1.2.2.trans b3⟩, fun q hq => ?_⟩, by rw [hn b nb]; exact b5, VlC.fr (KvC.x x) l (fun j hj => ae.1 b b1 b2 nb j (by omega)) b6⟩
  rw [t.mr x (k := 240) rfl] at hq
  obtain ⟨q', -, p, tq⟩ := cg240 h t
  cases p.symm.trans hq
  rw [tq.fr x (by decide) (k := 212) (by decide)]
  exact b4 _ p
theorem OvC.xt {a c : Nat} {M : List Nat} {σ τ : CsC} {r : Nat} {s : SpC} (e : OvC σ r s) (h : HI0 σ) (t : TyC σ r 8) (w : RawC σ a c) (x : ExT a M σ τ) (m0 : M.elem 240 = false) (m1 : M.elem 1 = false) (m5 : M.elem 2 = false) : OvC τ r s := by
  intro b l hb
  obtain ⟨⟨⟨b1, b2, b3⟩, b4⟩, b5, b6⟩ := e b l hb
  have wt := w.2.1
  have z := x.2.2 b b1 (fun q => by rw [q] at b2; omega)
  refine ⟨⟨⟨Nat.lt_of_lt_of_le b1 x.1, z.1.1.trans b2, z.1.2.2.trans b3⟩, fun q hq => ?_⟩, by rw [(z.2.2.2 2 m5).1]; exact b5, VlC.fr (KvC.xt w x) l (fun j hj => el_xt h ⟨b1, b2, fun q => by cases q⟩ w x m1 m5 (by omega)) b6⟩
  rw [t.mrt w (by decide) x m0] at hq
  obtain ⟨q', -, p, tq⟩ := cg240 h t
  cases p.symm.trans hq
  rw [tq.frt w (by decide) x (by decide) (k := 212) (by decide)]
  exact b4 _ p
/-- how a heap with a reader shows it -/
def RbC (σ : CsC) (r : Nat) (s : SpC) : Prop := ((fIC σ r 242).toInt = zAt s ∧ (fIC σ r 243).toInt = zFt s ∧ (¬ zFt s = 0 → (fIC σ r 244).toInt = zPl s)) ∧
  (∀ q, fRC σ r 240 = some q → (∀ a, fRC σ q 211 = some a → (fIC σ a 2).toInt = (zMs s).length) ∧ (∀ a, fRC σ q 212 = some a → (fIC σ a 2).toInt = (zVs s).length)) ∧
  (∀ t, fRC σ r 241 = some t → (∀ c, fRC σ t 302 = some c → ∀ j, (eIC σ c j).toInt = zK s j) ∧ (∀ c, fRC σ t 300 = some c → ∀ j, j < 900 → (eIC σ c j).toInt = zL s j)) ∧
  OuC σ r s ∧ VcC σ r s ∧ OvC σ r s
theorem RbC.ini3 {σ : CsC} {r q t : Nat} (F : Nat → Int) (V : Nat → Option (List (Int × Int × Int × Int))) (h : HI0 σ) (t8 : TyC σ r 8) (e2 : (fIC σ r 242).toInt = 0) (e3 : (fIC σ r 243).toInt = 0) (hq : fRC σ r 240 = some q) (ht : fRC σ r 241 = some t) (hz : ∀ k, [211, 212, 213, 214].elem k = true → ∀ a, fRC σ q k = some a → (fIC σ a 2).toInt = 0)
    (hF : ∀ b, 0 ≤ F b → ((b < cnC σ ∧ tgC σ b = 0 ∧ (ghC σ b = 6 ∨ ghC σ b = 11)) ∧ (¬ fRC σ q 211 = some b ∧ ¬ fRC σ q 212 = some b)) ∧ (fIC σ b 2).toInt = F b) 
    (Pm : Nat → Option (List (Int × Int × List Int))) (N : Nat) (Fm : List (Nat × Nat)) (hV : ∀ b l, V b = some l → ((b < cnC σ ∧ tgC σ b = 0 ∧ ghC σ b = 11) ∧ ¬ fRC σ q 212 = some b) ∧ (fIC σ b 2).toInt = l.length ∧ VlC σ b l) : ∃ s, Z0Y s ∧ RbC σ r s ∧ (∀ b, zL s (1000 + b) = F b) ∧ zO s = V ∧ zP s = Pm ∧ zN s = N ∧ zF s = Fm := by
  obtain ⟨t', -, p, tt⟩ := cg241 h t8
  cases p.symm.trans ht
  obtain ⟨c, -, pc, -⟩ := cg302 h tt
  obtain ⟨l, -, pl, -⟩ := cg300 h tt
  have hL : ∀ b : Nat, (if 1000 + b < 900 then (eIC σ l (1000 + b)).toInt else F (1000 + b - 1000)) = F b := fun b => by
    rw [if_neg (by omega), Nat.add_sub_cancel_left]
  refine ⟨((0, 0, 0), ([], []), (fun j => (eIC σ c j).toInt), ((fun j => if j < 900 then (eIC σ l j).toInt else F (j - 1000)), V, Pm, N, Fm)), ⟨rfl, rfl, rfl, rfl⟩, ⟨⟨e2, e3, fun z => absurd rfl z⟩, fun q' hq' => ?_, fun b hb => ?_, fun b hb => ?_, fun _ _ _ _ => trivial, fun b l hb => ?_⟩, hL, rfl, rfl, rfl, rfl⟩
  · cases hq.symm.trans hq'
    exact ⟨fun a ha => hz 211 rfl a ha, fun a ha => hz 212 rfl a ha⟩
  · cases ht.symm.trans hb
    refine ⟨fun c' hc => ?_, fun c' hc => ?_⟩
    · cases pc.symm.trans hc
      exact fun j => rfl
    · cases pl.symm.trans hc
      exact fun j hj => (if_pos hj).symm
  · have hb : 0 ≤ F b := by rw [← hL b]; exact hb
    obtain ⟨⟨f1, f2⟩, f3⟩ := hF b hb
    exact ⟨⟨f1, fun q' hq' => by cases hq.symm.trans hq'; exact f2⟩, f3.trans (hL b).symm⟩
  · obtain ⟨⟨f1, f2⟩, f3⟩ := hV b l hb
    exact ⟨⟨f1, fun q' hq' => by cases hq.symm.trans hq'; exact f2⟩, f3⟩
theorem RbC.eq {σ : CsC} {r : Nat} {s s' : SpC} (h : RbC σ r s) (e : s' = s) : RbC σ r s' := by rw [e]; exact h
theorem RbC.ft {σ : CsC} {r : Nat} {s : SpC} {y : Int32} (h : RbC σ r s) (e : fIC σ r 243 = y) : y.toInt = zFt s := by rw [← e]; exact h.1.2.1
theorem RbC.at_ {σ : CsC} {r : Nat} {s : SpC} {y : Int32} (h : RbC σ r s) (e : fIC σ r 242 = y) : y.toInt = zAt s := by rw [← e]; exact h.1.1
theorem k_isub_w {ct : CcC} {K : CkC} {Z : Option AvC → CsC → Prop} {is : List RI} {pc d b : Nat} {q : Int} {cs : List (Int × Nat)} {ls : ClC} {st : List AvC} {σ : CsC} {x y : Int32} (h : ∀ z : Int32, (-2147483648 ≤ x.toInt - y.toInt → x.toInt - y.toInt ≤ 2147483647 → z.toInt = x.toInt - y.toInt) → cwpC ct K Z is (pc + 1) ls (.inl z :: st) σ) : cwpC ct K Z ((.isub, d, q, b, cs) :: is) pc ls (.inl y :: .inl x :: st) σ := h _ (fun h1 h2 => subC rfl h1 h2)
theorem nT_toNat (x : Int32) : x.toNatClampNeg = x.toInt.toNat := rfl
theorem CkC2.rb {σ : CsC} {r : Nat} {s : SpC} (h : HI0 σ) (t : TyC σ r 8) (e : RbC σ r s) : CkC2 σ r = codY s := by
  unfold CkC2 codY
  obtain ⟨b, -, q, tb⟩ := cg241 h t
  obtain ⟨c, -, q2, -⟩ := cg302 h tb
  rw [q]
  dsimp only
  rw [q2]
  dsimp only
  rw [e.1.2.1, nT_toNat, e.1.1, (e.2.2.1 b q).1 c q2]
/-- what reading leaves alone -/
theorem RbC.x {M : List Nat} {σ τ : CsC} {r : Nat} {s : SpC} (e : RbC σ r s) (h : HI0 σ) (t : TyC σ r 8) (x : ExC M σ τ) (hm : M.elem 240 = false ∧ M.elem 241 = false ∧ M.elem 242 = false ∧ M.elem 243 = false ∧ M.elem 244 = false ∧ M.elem 2 = false ∧ M.elem 998 = false ∧ M.elem 1 = false) : RbC τ r s := by
  obtain ⟨m0, m1, m2, m3, m4, m5, m6, m7⟩ := hm
  refine ⟨by rw [t.mi x m2, t.mi x m3, t.mi x m4]; exact e.1, fun q hq => ?_, fun b hb => ?_, e.2.2.2.1.x h t x m0 m5 rfl, fun q hq a ha => ?_, e.2.2.2.2.2.x h t x m0 m7 m5 rfl⟩
  · rw [t.mr x m0] at hq
    obtain ⟨q', -, p, tq⟩ := cg240 h t
    rw [p] at hq
    cases hq
    refine ⟨fun a ha => ?_, fun a ha => ?_⟩
    · rw [tq.fr x (by decide) (k := 211) (by decide)] at ha
      obtain ⟨a', -, pa, ta, -⟩ := cg211 h tq
      rw [pa] at ha
      cases ha
      rw [ta.mi x m5]
      exact (e.2.1 _ p).1 _ pa
    · rw [tq.fr x (by decide) (k := 212) (by decide)] at ha
      obtain ⟨a', -, pa, ta, -⟩ := cg212 h tq
      rw [pa] at ha
      cases ha
      rw [ta.mi x m5]
      exact (e.2.1 _ p).2 _ pa
  · rw [t.mr x m1] at hb
    obtain ⟨b', -, p, tb⟩ := cg241 h t
    rw [p] at hb
    cases hb
    refine ⟨fun c hc => ?_, fun c hc => ?_⟩
    · rw [tb.fr x (by decide) (k := 302) (by decide)] at hc
      obtain ⟨c', -, pc, tc, l1, l2⟩ := cg302 h tb
      rw [pc] at hc
      cases hc
      rw [(x.2.1.2.2 c tc.1 (by rw [tc.2.1, l2]; exact prC.c (by decide) m6)).1]
      exact (e.2.2.1 _ p).1 _ pc
    · rw [tb.fr x (by decide) (k := 300) (by decide)] at hc
      obtain ⟨c', -, pc, tc, l1, l2⟩ := cg300 h tb
      rw [pc] at hc
      cases hc
      intro j hj
      rw [(x.2.1.2.2 c tc.1 (by rw [tc.2.1, l2]; exact prC.c (by decide) m6)).1]
      exact (e.2.2.1 _ p).2 _ pc j hj
  · rw [t.mr x m0] at hq
    obtain ⟨q', -, p, tq⟩ := cg240 h t
    rw [p] at hq
    cases hq
    rw [tq.fr x (by decide) (k := 212) (by decide)] at ha
    obtain ⟨a', -, pa, ta, -⟩ := cg212 h tq
    rw [pa] at ha
    cases ha
    have sz := (e.2.1 _ p).2 _ pa
    exact VlC.fr (KvC.x x) _ (fun j hj => el_x h ta x m7 m5 (by omega)) (e.2.2.2.2.1 _ p _ pa)
/-- a list grows -/
theorem RbC.ad {σ τ : CsC} {r a : Nat} {s s' : SpC} (e : RbC σ r s) (h : HI0 σ) (t : TyC σ r 8) (x : ExC [0, 1, 2, 999] σ τ) (hn : ∀ b, b ≠ a → fIC τ b 2 = fIC σ b 2) (e1 : s'.1 = s.1) (e3 : s'.2.2 = s.2.2) (ho : ∀ b, (ghC σ b = 6 ∨ ghC σ b = 11) → (∀ q, fRC σ r 240 = some q → ¬ fRC σ q 211 = some b ∧ ¬ fRC σ q 212 = some b) → b ≠ a) (ho2 : ∀ b, ghC σ b = 11 → (∀ q, fRC σ r 240 = some q → ¬ fRC σ q 212 = some b) → b ≠ a) {o : Nat} (ae : AeC a o σ τ) (hv : ∀ q, fRC σ r 240 = some q → ∀ b, fRC σ q 212 = some b → VlC τ b (zVs s'))
    (hm : ∀ q, fRC σ r 240 = some q → (∀ b, fRC σ q 211 = some b → (b ≠ a → (zMs s').length = (zMs s).length) ∧ (b = a → (fIC τ a 2).toInt = (zMs s').length)) ∧ (∀ b, fRC σ q 212 = some b → (b ≠ a → (zVs s').length = (zVs s).length) ∧ (b = a → (fIC τ a 2).toInt = (zVs s').length))) : RbC τ r s' := by
  refine ⟨by unfold zAt zFt zPl; rw [e1, t.mi x (k := 242) rfl, t.mi x (k := 243) rfl, t.mi x (k := 244) rfl]; exact e.1, fun q hq => ?_, fun b hb => ?_, e.2.2.2.1.ad h t x hn ho (by unfold zL; rw [e3]), fun q hq b hb => ?_, e.2.2.2.2.2.ad h t x hn ae ho2 (by unfold zO; rw [e3])⟩
  · rw [t.mr x (k := 240) rfl] at hq
    obtain ⟨q', -, p, tq⟩ := cg240 h t
    rw [p] at hq
    cases hq
    refine ⟨fun b hb => ?_, fun b hb => ?_⟩
    · rw [tq.fr x (by decide) (k := 211) (by decide)] at hb
      by_cases z : b = a
      · subst z
        exact ((hm _ p).1 _ hb).2 rfl
      · rw [hn b z, ((hm _ p).1 _ hb).1 z]
        exact (e.2.1 _ p).1 _ hb
    · rw [tq.fr x (by decide) (k := 212) (by decide)] at hb
      by_cases z : b = a
      · subst z
        exact ((hm _ p).2 _ hb).2 rfl
      · rw [hn b z, ((hm _ p).2 _ hb).1 z]
        exact (e.2.1 _ p).2 _ hb
  · rw [t.mr x (k := 241) rfl] at hb
    obtain ⟨b', -, p, tb⟩ := cg241 h t
    rw [p] at hb
    cases hb
    unfold zK zL
    rw [e3]
    refine ⟨fun c hc => ?_, fun c hc => ?_⟩
    · rw [tb.fr x (by decide) (k := 302) (by decide)] at hc
      obtain ⟨c', -, pc, tc, l1, l2⟩ := cg302 h tb
      rw [pc] at hc
      cases hc
      rw [(x.2.1.2.2 c tc.1 (by rw [tc.2.1, l2]; rfl)).1]
      exact (e.2.2.1 _ p).1 _ pc
    · rw [tb.fr x (by decide) (k := 300) (by decide)] at hc
      obtain ⟨c', -, pc, tc, l1, l2⟩ := cg300 h tb
      rw [pc] at hc
      cases hc
      intro j hj
      rw [(x.2.1.2.2 c tc.1 (by rw [tc.2.1, l2]; rfl)).1]
      exact (e.2.2.1 _ p).2 _ pc j hj
  · rw [t.mr x (k := 240) rfl] at hq
    obtain ⟨q', -, p, tq⟩ := cg240 h t
    rw [p] at hq
    cases hq
    rw [tq.fr x (by decide) (k := 212) (by decide)] at hb
    exact hv _ p _ hb
theorem lsg211 {σ : CsC} {q b : Nat} (h : HI0 σ) (t : TyC σ q 7) (e : fRC σ q 211 = some b) : ghC σ b = 6 := by
  obtain ⟨b', -, p, -, g⟩ := cg211 h t
  rw [p] at e
  cases e
  exact g
theorem lsg212 {σ : CsC} {q b : Nat} (h : HI0 σ) (t : TyC σ q 7) (e : fRC σ q 212 = some b) : ghC σ b = 11 := by
  obtain ⟨b', -, p, -, g⟩ := cg212 h t
  rw [p] at e
  cases e
  exact g
theorem prg8 {σ : CsC} {r q : Nat} (h : HI0 σ) (t : TyC σ r 8) (e : fRC σ r 240 = some q) : TyC σ q 7 := by
  obtain ⟨b', -, p, g⟩ := cg240 h t
  rw [p] at e
  cases e
  exact g
theorem RbC.vl {σ τ : CsC} {r a o : Nat} {s : SpC} (e : RbC σ r s) (h : HI0 σ) (t : TyC σ r 8) (x : ExC [0, 1, 2, 999] σ τ) (ae : AeC a o σ τ) (hn : ∀ q, fRC σ r 240 = some q → ¬ fRC σ q 212 = some a) : ∀ q, fRC σ r 240 = some q → ∀ b, fRC σ q 212 = some b → VlC τ b (zVs s) := by
  intro q hq b hb
  obtain ⟨q', -, p, tq⟩ := cg240 h t
  cases p.symm.trans hq
  obtain ⟨b', -, pb, tb, -⟩ := cg212 h tq
  cases pb.symm.trans hb
  have sz := (e.2.1 _ p).2 _ pb
  exact VlC.fr (KvC.x x) _ (fun j hj => ae.1 _ tb.1 tb.2.1 (fun z => hn _ p (z ▸ pb)) j (by omega)) (e.2.2.2.2.1 _ p _ pb)
/-- exps, S's -/
theorem RbC.ad0 {σ τ : CsC} {r a : Nat} {s : SpC} (e : RbC σ r s) (h : HI0 σ) (t : TyC σ r 8) (x : ExC [0, 1, 2, 999] σ τ) (hn : ∀ b, b ≠ a → fIC τ b 2 = fIC σ b 2) (hg : ghC σ a ≠ 6 ∧ ghC σ a ≠ 11) {o : Nat} (ae : AeC a o σ τ) : RbC τ r s :=
  e.ad h t x hn rfl rfl (fun b hb _ z => by rw [z] at hb; exact hb.elim hg.1 hg.2) (fun b hb _ z => by rw [z] at hb; exact hg.2 hb) ae (e.vl h t x ae (fun q hq hb => hg.2 (lsg212 h (prg8 h t hq) hb))) (fun q hq => ⟨fun b hb => ⟨fun _ => rfl, fun z => absurd (lsg211 h (prg8 h t hq) (z ▸ hb)) hg.1⟩, fun b hb => ⟨fun _ => rfl, fun z => absurd (lsg212 h (prg8 h t hq) (z ▸ hb)) hg.2⟩⟩)
theorem RbC.adm {σ τ : CsC} {r a q : Nat} {s : SpC} {ty : Int} (e : RbC σ r s) (h : HI0 σ) (t : TyC σ r 8) (x : ExC [0, 1, 2, 999] σ τ) (hn : ∀ b, b ≠ a → fIC τ b 2 = fIC σ b 2) (hp : (fIC τ a 2).toInt = (fIC σ a 2).toInt + 1) (hq : fRC σ r 240 = some q) (ha : fRC σ q 211 = some a) {o : Nat} (ae : AeC a o σ τ) : RbC τ r (metY ty s) :=
  e.ad h t x hn rfl rfl (fun b _ hb z => (hb q hq).1 (by rw [z]; exact ha)) (fun b hb _ z => by have g1 := lsg211 h (prg8 h t hq) ha; rw [z] at hb; omega) ae (e.vl h t x ae (fun q' hq' hb => by have g1 := lsg211 h (prg8 h t hq) ha; have g2 := lsg212 h (prg8 h t hq') hb; omega)) (fun q' hq' => by
    cases hq.symm.trans hq'
    refine ⟨fun b hb => ⟨fun z => absurd (Option.some.inj (hb.symm.trans ha)) z, fun _ => ?_⟩, fun b hb => ⟨fun _ => rfl, fun z => ?_⟩⟩
    · rw [hp, (e.2.1 _ hq).1 _ ha]
      show _ = (((_ :: zMs s).length : Nat) : Int)
      rw [List.length_cons]
      omega
    · subst z
      have g1 := lsg211 h (prg8 h t hq) ha
      have g2 := lsg212 h (prg8 h t hq) hb
      omega)
theorem RbC.adv {σ τ : CsC} {r a q : Nat} {s : SpC} {ty f : Int} (e : RbC σ r s) (h : HI0 σ) (t : TyC σ r 8) (x : ExC [0, 1, 2, 999] σ τ) (hn : ∀ b, b ≠ a → fIC τ b 2 = fIC σ b 2) (hp : (fIC τ a 2).toInt = (fIC σ a 2).toInt + 1) (hq : fRC σ r 240 = some q) (ha : fRC σ q 212 = some a) {o : Nat} (ae : AeC a o σ τ) (to : TyC σ o 11) (hv : VoC σ o (zAt s, ty, f, ((zMs s).length : Int) - 1)) : RbC τ r (vadY ty f s) :=
  e.ad h t x hn rfl rfl (fun b _ hb z => (hb q hq).2 (by rw [z]; exact ha)) (fun b _ hb z => hb q hq (by rw [z]; exact ha)) ae (fun q' hq' b hb => by
    cases hq.symm.trans hq'
    cases ha.symm.trans hb
    have sz := (e.2.1 _ hq).2 _ ha
    have kv := KvC.x x o to.1 to.2.1
    show (∃ o', elC τ a (zVs s).length = some o' ∧ (o' < cnC τ ∧ tgC τ o' = 11) ∧ VoC τ o' (zAt s, ty, f, ((zMs s).length : Int) - 1)) ∧ VlC τ a (zVs s)
    refine ⟨⟨o, ?_, kv.1, kv.2 _ hv⟩, VlC.fr (KvC.x x) _ (fun j hj => ae.2.1 j (by omega)) (e.2.2.2.2.1 _ hq _ ha)⟩
    have z := ae.2.2
    rw [show (fIC σ a 2).toNatClampNeg = (zVs s).length from by show (fIC σ a 2).toInt.toNat = _; omega] at z
    exact z) (fun q' hq' => by
    cases hq.symm.trans hq'
    refine ⟨fun b hb => ⟨fun _ => rfl, fun z => ?_⟩, fun b hb => ⟨fun z => absurd (Option.some.inj (hb.symm.trans ha)) z, fun _ => ?_⟩⟩
    · subst z
      have g1 := lsg211 h (prg8 h t hq) hb
      have g2 := lsg212 h (prg8 h t hq) ha
      omega
    · rw [hp, (e.2.1 _ hq).2 _ ha]
      show _ = (((_ :: zVs s).length : Nat) : Int)
      rw [List.length_cons]
      omega)
theorem RbC.pad {σ : CsC} {r : Nat} {s : SpC} {ty : Int} (e : RbC σ r s) : RbC σ r (padY ty s) := by
  refine ⟨e.1, fun q hq => ⟨fun a ha => ?_, (e.2.1 q hq).2⟩, e.2.2⟩
  rw [(e.2.1 q hq).1 a ha]
  show _ = (((zMs (padY ty s)).length : Nat) : Int)
  have : (zMs (padY ty s)).length = (zMs s).length := by
    show (match zMs s with
      | [] => []
      | (a, b, l) :: r => (a, b, ty :: l) :: r).length = _
    cases zMs s with
    | nil => rfl
    | cons x r => rfl
  rw [this]
theorem RbC.nm {σ : CsC} {r q a : Nat} {s : SpC} {y : Int32} (e : RbC σ r s) (hq : fRC σ r 240 = some q) (ha : fRC σ q 211 = some a) (hy : fIC σ a 2 = y) : y.toInt = (zMs s).length := by rw [← hy]; exact (e.2.1 _ hq).1 _ ha
theorem RbC.nv {σ : CsC} {r q a : Nat} {s : SpC} {y : Int32} (e : RbC σ r s) (hq : fRC σ r 240 = some q) (ha : fRC σ q 212 = some a) (hy : fIC σ a 2 = y) : y.toInt = (zVs s).length := by rw [← hy]; exact (e.2.1 _ hq).2 _ ha
/-- as RbC.x, but for at, fault, place -/
theorem RbC.x3 {M : List Nat} {σ τ : CsC} {r : Nat} {s s' : SpC} (e : RbC σ r s) (h : HI0 σ) (t : TyC σ r 8) (x : ExC M σ τ) (hm : M.elem 240 = false ∧ M.elem 241 = false ∧ M.elem 2 = false ∧ M.elem 998 = false ∧ M.elem 1 = false) (e2 : s'.2 = s.2) (e1 : (fIC τ r 242).toInt = zAt s' ∧ (fIC τ r 243).toInt = zFt s' ∧ (¬ zFt s' = 0 → (fIC τ r 244).toInt = zPl s')) : RbC τ r s' := by
  obtain ⟨m0, m1, m5, m6, m7⟩ := hm
  refine ⟨e1, fun q hq => ?_, fun b hb => ?_, e.2.2.2.1.x h t x m0 m5 (by unfold zL; rw [e2]), fun q hq a ha => ?_, e.2.2.2.2.2.x h t x m0 m7 m5 (by unfold zO; rw [e2])⟩
  · rw [t.mr x m0] at hq
    obtain ⟨q', -, p, tq⟩ := cg240 h t
    rw [p] at hq
    cases hq
    unfold zMs zVs
    rw [e2]
    refine ⟨fun a ha => ?_, fun a ha => ?_⟩
    · rw [tq.fr x (by decide) (k := 211) (by decide)] at ha
      obtain ⟨a', -, pa, ta, -⟩ := cg211 h tq
      rw [pa] at ha
      cases ha
      rw [ta.mi x m5]
      exact (e.2.1 _ p).1 _ pa
    · rw [tq.fr x (by decide) (k := 212) (by decide)] at ha
      obtain ⟨a', -, pa, ta, -⟩ := cg212 h tq
      rw [pa] at ha
      cases ha
      rw [ta.mi x m5]
      exact (e.2.1 _ p).2 _ pa
  · rw [t.mr x m1] at hb
    obtain ⟨b', -, p, tb⟩ := cg241 h t
    rw [p] at hb
    cases hb
    unfold zK zL
    rw [e2]
    refine ⟨fun c hc => ?_, fun c hc => ?_⟩
    · rw [tb.fr x (by decide) (k := 302) (by decide)] at hc
      obtain ⟨c', -, pc, tc, l1, l2⟩ := cg302 h tb
      rw [pc] at hc
      cases hc
      rw [(x.2.1.2.2 c tc.1 (by rw [tc.2.1, l2]; exact prC.c (by decide) m6)).1]
      exact (e.2.2.1 _ p).1 _ pc
    · rw [tb.fr x (by decide) (k := 300) (by decide)] at hc
      obtain ⟨c', -, pc, tc, l1, l2⟩ := cg300 h tb
      rw [pc] at hc
      cases hc
      intro j hj
      rw [(x.2.1.2.2 c tc.1 (by rw [tc.2.1, l2]; exact prC.c (by decide) m6)).1]
      exact (e.2.2.1 _ p).2 _ pc j hj
  · rw [t.mr x m0] at hq
    obtain ⟨q', -, p, tq⟩ := cg240 h t
    rw [p] at hq
    cases hq
    rw [tq.fr x (by decide) (k := 212) (by decide)] at ha
    obtain ⟨a', -, pa, ta, -⟩ := cg212 h tq
    rw [pa] at ha
    cases ha
    have sz := (e.2.1 _ p).2 _ pa
    unfold zVs
    rw [e2]
    exact VlC.fr (KvC.x x) _ (fun j hj => el_x h ta x m7 m5 (by unfold zVs at sz; omega)) (e.2.2.2.2.1 _ p _ pa)
/-- an object under construction -/
theorem RbC.xt {a c : Nat} {M : List Nat} {σ τ : CsC} {r : Nat} {s : SpC} (e : RbC σ r s) (h : HI0 σ) (t : TyC σ r 8) (w : RawC σ a c) (x : ExT a M σ τ) (hm : M.elem 240 = false ∧ M.elem 241 = false ∧ M.elem 242 = false ∧ M.elem 243 = false ∧ M.elem 244 = false ∧ M.elem 2 = false ∧ M.elem 998 = false ∧ M.elem 1 = false) : RbC τ r s := by
  obtain ⟨m0, m1, m2, m3, m4, m5, m6, m7⟩ := hm
  refine ⟨by rw [t.mit w (by decide) x m2, t.mit w (by decide) x m3, t.mit w (by decide) x m4]; exact e.1, fun q hq => ?_, fun b hb => ?_, e.2.2.2.1.xt h t w x m0 m5, fun q hq a ha => ?_, e.2.2.2.2.2.xt h t w x m0 m7 m5⟩
  · rw [t.mrt w (by decide) x m0] at hq
    obtain ⟨q', -, p, tq⟩ := cg240 h t
    rw [p] at hq
    cases hq
    refine ⟨fun a ha => ?_, fun a ha => ?_⟩
    · rw [tq.frt w (by decide) x (by decide) (k := 211) (by decide)] at ha
      obtain ⟨a', -, pa, ta, -⟩ := cg211 h tq
      rw [pa] at ha
      cases ha
      rw [ta.mit w (by decide) x m5]
      exact (e.2.1 _ p).1 _ pa
    · rw [tq.frt w (by decide) x (by decide) (k := 212) (by decide)] at ha
      obtain ⟨a', -, pa, ta, -⟩ := cg212 h tq
      rw [pa] at ha
      cases ha
      rw [ta.mit w (by decide) x m5]
      exact (e.2.1 _ p).2 _ pa
  · rw [t.mrt w (by decide) x m1] at hb
    obtain ⟨b', -, p, tb⟩ := cg241 h t
    rw [p] at hb
    cases hb
    refine ⟨fun c hc => ?_, fun c hc => ?_⟩
    · rw [tb.frt w (by decide) x (by decide) (k := 302) (by decide)] at hc
      obtain ⟨c', -, pc, tc, l1, l2⟩ := cg302 h tb
      rw [pc] at hc
      cases hc
      rw [(x.2.1.2.2 c tc.1 (w.ne tc (by decide)) (by rw [tc.2.1, l2]; exact prC.c (by decide) m6)).1]
      exact (e.2.2.1 _ p).1 _ pc
    · rw [tb.frt w (by decide) x (by decide) (k := 300) (by decide)] at hc
      obtain ⟨c', -, pc, tc, l1, l2⟩ := cg300 h tb
      rw [pc] at hc
      cases hc
      intro j hj
      rw [(x.2.1.2.2 c tc.1 (w.ne tc (by decide)) (by rw [tc.2.1, l2]; exact prC.c (by decide) m6)).1]
      exact (e.2.2.1 _ p).2 _ pc j hj
  · rw [t.mrt w (by decide) x m0] at hq
    obtain ⟨q', -, p, tq⟩ := cg240 h t
    rw [p] at hq
    cases hq
    rw [tq.frt w (by decide) x (by decide) (k := 212) (by decide)] at ha
    obtain ⟨a', -, pa, ta, -⟩ := cg212 h tq
    rw [pa] at ha
    cases ha
    have sz := (e.2.1 _ p).2 _ pa
    exact VlC.fr (KvC.xt w x) _ (fun j hj => el_xt h ta w x m7 m5 (by omega)) (e.2.2.2.2.1 _ p _ pa)
/-! methods -/
/-- types of params, the last one first -/
def PtC (σ : CsC) (r : Nat) : List Int → Prop
  | [] => True
  | x :: l => (eIC σ r l.length).toInt = x ∧ PtC σ r l
theorem PtC.fr {σ τ : CsC} {r : Nat} : ∀ l : List Int, (∀ j, j < l.length → eIC τ r j = eIC σ r j) → PtC σ r l → PtC τ r l := by
  intro l
  induction l with
  | nil => exact fun _ _ => trivial
  | cons x l ih =>
    rintro he ⟨h1, h2⟩
    exact ⟨by rw [he l.length (by rw [List.length_cons]; omega)]; exact h1, ih (fun j hj => he j (by rw [List.length_cons]; omega)) h2⟩
def MoC (σ : CsC) (o r : Nat) (m : Int × Int × List Int) : Prop := ((fIC σ o 180).toInt = m.1 ∧ (fIC σ o 182).toInt = m.2.1 ∧ (fIC σ o 185).toInt = m.2.2.length) ∧ PtC σ r m.2.2
/-- the methods of a list, the last one first: objects and rows not below lo, below hi -/
def MlC (σ : CsC) (a lo hi : Nat) : List (Int × Int × List Int) → Prop
  | [] => True
  | m :: l => (∃ o r, (elC σ a l.length = some o ∧ fRC σ o 183 = some r) ∧ ((o < cnC σ ∧ tgC σ o = 6) ∧ (r < cnC σ ∧ tgC σ r = 100 ∧ ghC σ r = 7)) ∧ (lo ≤ o ∧ o < r ∧ r < hi) ∧ MoC σ o r m) ∧ MlC σ a lo hi l
def KmC (lo hi : Nat) (σ τ : CsC) : Prop := cnC σ ≤ cnC τ ∧ (∀ o, o < cnC σ → tgC σ o = 6 → lo ≤ o → o < hi → tgC τ o = 6 ∧ fRC τ o 183 = fRC σ o 183 ∧ fIC τ o 180 = fIC σ o 180 ∧ fIC τ o 182 = fIC σ o 182 ∧ fIC τ o 185 = fIC σ o 185) ∧ (∀ r, r < cnC σ → tgC σ r = 100 → ghC σ r = 7 → lo ≤ r → r < hi → tgC τ r = 100 ∧ ghC τ r = 7 ∧ eIC τ r = eIC σ r)
theorem KmC.x {lo hi : Nat} {M : List Nat} {σ τ : CsC} (e : ExC M σ τ) (m : M.elem 185 = false ∧ M.elem 995 = false) : KmC lo hi σ τ := by
  refine ⟨e.1, fun o h1 h2 _ _ => ?_, fun r h1 h2 h3 _ _ => ?_⟩
  · have f := (e.2.2 o h1).2.1 (by rw [h2]; decide)
    exact ⟨(e.2.2 o h1).1.1.trans h2, (f 183 rfl).2, (f 180 rfl).1, (f 182 rfl).1, ((e.2.2 o h1).2.2.2 185 m.1).1⟩
  · exact ⟨(e.2.2 r h1).1.1.trans h2, (e.2.2 r h1).1.2.2.trans h3, (e.2.1.2.2 r h1 (by rw [h2, h3]; exact prC.p m.2)).1⟩
theorem KmC.xt {lo hi a c : Nat} {M : List Nat} {σ τ : CsC} (w : RawC σ a c) (e : ExT a M σ τ) (m : M.elem 185 = false ∧ M.elem 995 = false) : KmC lo hi σ τ := by
  have wt := w.2.1
  have wc := w.2.2
  refine ⟨e.1, fun o h1 h2 _ _ => ?_, fun r h1 h2 h3 _ _ => ?_⟩
  · have hn : o ≠ a := fun q => by rw [q] at h2; omega
    have f := (e.2.2 o h1 hn).2.1 (by rw [h2]; decide)
    exact ⟨(e.2.2 o h1 hn).1.1.trans h2, (f 183 rfl).2, (f 180 rfl).1, (f 182 rfl).1, ((e.2.2 o h1 hn).2.2.2 185 m.1).1⟩
  · have hn : r ≠ a := fun q => by rw [q] at h2; omega
    exact ⟨(e.2.2 r h1 hn).1.1.trans h2, (e.2.2 r h1 hn).1.2.2.trans h3, (e.2.1.2.2 r h1 hn (by rw [h2, h3]; exact prC.p m.2)).1⟩
theorem MlC.fr {σ τ : CsC} {a lo hi : Nat} (k : KmC lo hi σ τ) : ∀ l : List (Int × Int × List Int), (∀ j : Nat, j < l.length → elC τ a j = elC σ a j) → MlC σ a lo hi l → MlC τ a lo hi l := by
  intro l
  induction l with
  | nil => exact fun _ _ => trivial
  | cons m l ih =>
    rintro he ⟨⟨o, r, ⟨h1, h2⟩, ⟨⟨h3, h4⟩, ⟨h5, h6, h7⟩⟩, ⟨h8, h9, h10⟩, ⟨h11, h12, h13⟩, h14⟩, h15⟩
    obtain ⟨k1, k2, k3, k4, k5⟩ := k.2.1 o h3 h4 h8 (by omega)
    obtain ⟨k6, k7, k8⟩ := k.2.2 r h5 h6 h7 (by omega) h10
    have kc := k.1
    exact ⟨⟨o, r, ⟨(he l.length (by rw [List.length_cons]; omega)).trans h1, k2.trans h2⟩, ⟨⟨by omega, k1⟩, ⟨by omega, k6, k7⟩⟩, ⟨h8, h9, h10⟩, ⟨by rw [k3]; exact h11, by rw [k4]; exact h12, by rw [k5]; exact h13⟩, PtC.fr _ (fun j _ => by rw [k8]) h14⟩, ih (fun j hj => he j (by rw [List.length_cons]; omega)) h15⟩
theorem MlC.hi {σ : CsC} {a lo hi hi' : Nat} (h : hi ≤ hi') : ∀ l : List (Int × Int × List Int), MlC σ a lo hi l → MlC σ a lo hi' l := by
  intro l
  induction l with
  | nil => exact fun _ => trivial
  | cons m l ih =>
    rintro ⟨⟨o, r, h1, h2, ⟨h3, h4, h5⟩, h6⟩, h7⟩
    exact ⟨⟨o, r, h1, h2, ⟨h3, h4, by omega⟩, h6⟩, ih h7⟩
/-- where the first n methods stand: below B -/
def AdrC (σ : CsC) (a B n : Nat) : Prop := ∀ j, j < n → ∃ o r, (elC σ a j = some o ∧ fRC σ o 183 = some r) ∧ (o < cnC σ ∧ tgC σ o = 6) ∧ o < B ∧ r < B
theorem MlC.ad {σ : CsC} {a lo hi : Nat} : ∀ l : List (Int × Int × List Int), MlC σ a lo hi l → AdrC σ a hi l.length := by
  intro l
  induction l with
  | nil => exact fun _ j hj => absurd hj (Nat.not_lt_zero _)
  | cons m l ih =>
    rintro ⟨⟨o, r, h1, h2, ⟨h3, h4, h5⟩, h6⟩, h7⟩ j hj
    rw [List.length_cons] at hj
    rcases Decidable.em (j = l.length) with c | c
    · rw [c]
      exact ⟨o, r, h1, h2.1, by omega, h5⟩
    · exact ih h7 j (by omega)
theorem MlC.bd {σ : CsC} {a lo hi B : Nat} : ∀ l : List (Int × Int × List Int), AdrC σ a B l.length → MlC σ a lo hi l → MlC σ a lo B l := by
  intro l
  induction l with
  | nil => exact fun _ _ => trivial
  | cons m l ih =>
    rintro hA ⟨⟨o, r, ⟨h0, h1⟩, h2, ⟨h3, h4, h5⟩, h6⟩, h7⟩
    obtain ⟨o', r', ⟨a1, a2⟩, -, a4, a5⟩ := hA l.length (by rw [List.length_cons]; omega)
    obtain rfl : o = o' := Option.some.inj (h0.symm.trans a1)
    obtain rfl : r = r' := Option.some.inj (h1.symm.trans a2)
    exact ⟨⟨o, r, ⟨h0, h1⟩, h2, ⟨h3, h4, a5⟩, h6⟩, ih (fun j hj => hA j (by rw [List.length_cons]; omega)) h7⟩
theorem AdrC.fr {σ τ : CsC} {a B n : Nat} (h : AdrC σ a B n) (he : ∀ j : Nat, j < n → elC τ a j = elC σ a j) (k : ∀ o, o < cnC σ → tgC σ o = 6 → (o < cnC τ ∧ tgC τ o = 6) ∧ fRC τ o 183 = fRC σ o 183) : AdrC τ a B n := by
  intro j hj
  obtain ⟨o, r, ⟨h1, h2⟩, h3, h4⟩ := h j hj
  have q := k o h3.1 h3.2
  exact ⟨o, r, ⟨(he j hj).trans h1, q.2.trans h2⟩, q.1, h4⟩
theorem k183 {M : List Nat} {σ τ : CsC} (e : ExC M σ τ) : ∀ o, o < cnC σ → tgC σ o = 6 → (o < cnC τ ∧ tgC τ o = 6) ∧ fRC τ o 183 = fRC σ o 183 := fun o h1 h2 => ⟨⟨Nat.lt_of_lt_of_le h1 e.1, (e.2.2 o h1).1.1.trans h2⟩, ((e.2.2 o h1).2.1 (by rw [h2]; decide) 183 rfl).2⟩
theorem k183t {a c : Nat} {M : List Nat} {σ τ : CsC} (w : RawC σ a c) (e : ExT a M σ τ) : ∀ o, o < cnC σ → tgC σ o = 6 → (o < cnC τ ∧ tgC τ o = 6) ∧ fRC τ o 183 = fRC σ o 183 := fun o h1 h2 => by
  have wt := w.2.1
  have hn : o ≠ a := fun q => by rw [q] at h2; omega
  exact ⟨⟨Nat.lt_of_lt_of_le h1 e.1, (e.2.2 o h1 hn).1.1.trans h2⟩, ((e.2.2 o h1 hn).2.1 (by rw [h2]; decide) 183 rfl).2⟩
/-- methods of lists that are not the reader's program's -/
def OmC (σ : CsC) (r : Nat) (s : SpC) : Prop := ∀ (b : Nat) (l : List (Int × Int × List Int)), zP s b = some l → ((b < cnC σ ∧ tgC σ b = 0 ∧ ghC σ b = 6) ∧ ∀ q, fRC σ r 240 = some q → ¬ fRC σ q 211 = some b) ∧ (fIC σ b 2).toInt = l.length ∧ MlC σ b 0 (zN s) l
/-- methods of the reader's program -/
def McC (σ : CsC) (r : Nat) (s : SpC) : Prop := ∀ q, fRC σ r 240 = some q → ∀ a, fRC σ q 211 = some a → MlC σ a (zN s) (cnC σ) (zMs s) ∧ ∀ n o, (n, o) ∈ zF s → n < (zMs s).length ∧ elC σ a n = some o ∧ AdrC σ a o n
def RqC (σ : CsC) (r : Nat) (s : SpC) : Prop := zN s ≤ cnC σ ∧ McC σ r s ∧ OmC σ r s
theorem OmC.of {σ τ : CsC} {r : Nat} {s s' : SpC} (e : OmC σ r s) (h : HI0 σ) (t : TyC σ r 8) (hc : cnC σ ≤ cnC τ) (k : KmC 0 (zN s) σ τ) (hb : ∀ b, b < cnC σ → tgC σ b = 0 → ghC σ b = 6 → (∀ q, fRC σ r 240 = some q → ¬ fRC σ q 211 = some b) → (tgC τ b = 0 ∧ ghC τ b = 6) ∧ fIC τ b 2 = fIC σ b 2 ∧ ∀ j : Nat, (j : Int) < (fIC σ b 2).toInt → elC τ b j = elC σ b j) (hq : ∀ q, fRC τ r 240 = some q → fRC σ r 240 = some q ∧ fRC τ q 211 = fRC σ q 211) (e2 : s'.2.2 = s.2.2) : OmC τ r s' := by
  intro b l hl
  have eP : zP s' = zP s := by unfold zP; rw [e2]
  have eN : zN s' = zN s := by unfold zN; rw [e2]
  rw [eP] at hl
  rw [eN]
  obtain ⟨⟨⟨b1, b2, b3⟩, b4⟩, b5, b6⟩ := e b l hl
  obtain ⟨c1, c2, c3⟩ := hb b b1 b2 b3 b4
  refine ⟨⟨⟨by omega, c1⟩, fun q z => ?_⟩, by rw [c2]; exact b5, MlC.fr k l (fun j hj => c3 j (by omega)) b6⟩
  have y := hq q z
  rw [y.2]
  exact b4 q y.1
theorem McC.of {σ τ : CsC} {r : Nat} {s s' : SpC} (b : RbC σ r s) (e : McC σ r s) (hc : cnC σ ≤ cnC τ) (k : KmC (zN s) (cnC σ) σ τ) (k3 : ∀ o, o < cnC σ → tgC σ o = 6 → (o < cnC τ ∧ tgC τ o = 6) ∧ fRC τ o 183 = fRC σ o 183) (hb : ∀ q a, fRC σ r 240 = some q → fRC σ q 211 = some a → ∀ j : Nat, (j : Int) < (fIC σ a 2).toInt → elC τ a j = elC σ a j) (hq : ∀ q, fRC τ r 240 = some q → fRC σ r 240 = some q ∧ fRC τ q 211 = fRC σ q 211) (e1 : zMs s' = zMs s) (e2 : s'.2.2 = s.2.2) : McC τ r s' := by
  intro q z a ha
  have y := hq q z
  rw [y.2] at ha
  have sz := (b.2.1 q y.1).1 a ha
  have eN : zN s' = zN s := by unfold zN; rw [e2]
  have eF : zF s' = zF s := by unfold zF; rw [e2]
  rw [eN, eF, e1]
  obtain ⟨m1, m2⟩ := e q y.1 a ha
  refine ⟨MlC.hi hc _ (MlC.fr k _ (fun j hj => hb q a y.1 ha j (by omega)) m1), fun n o hno => ?_⟩
  obtain ⟨f1, f2, f3⟩ := m2 n o hno
  exact ⟨f1, (hb q a y.1 ha n (by omega)).trans f2, f3.fr (fun j hj => hb q a y.1 ha j (by omega)) k3⟩
theorem q240 {M : List Nat} {σ τ : CsC} {r : Nat} (h : HI0 σ) (t : TyC σ r 8) (x : ExC M σ τ) (m0 : M.elem 240 = false) : ∀ q, fRC τ r 240 = some q → fRC σ r 240 = some q ∧ fRC τ q 211 = fRC σ q 211 := fun q hq => by
  rw [t.mr x m0] at hq
  exact ⟨hq, (prg8 h t hq).fr x (by decide) (k := 211) (by decide)⟩
theorem q240t {a c : Nat} {M : List Nat} {σ τ : CsC} {r : Nat} (h : HI0 σ) (t : TyC σ r 8) (w : RawC σ a c) (x : ExT a M σ τ) (m0 : M.elem 240 = false) : ∀ q, fRC τ r 240 = some q → fRC σ r 240 = some q ∧ fRC τ q 211 = fRC σ q 211 := fun q hq => by
  rw [t.mrt w (by decide) x m0] at hq
  exact ⟨hq, (prg8 h t hq).frt w (by decide) x (by decide) (k := 211) (by decide)⟩
theorem ls11 {σ : CsC} {r q a : Nat} (h : HI0 σ) (t : TyC σ r 8) (hq : fRC σ r 240 = some q) (ha : fRC σ q 211 = some a) : TyC σ a 0 := by
  obtain ⟨b, -, e, tb, -⟩ := cg211 h (prg8 h t hq)
  cases e.symm.trans ha
  exact tb
theorem RqC.x {M : List Nat} {σ τ : CsC} {r : Nat} {s s' : SpC} (b : RbC σ r s) (e : RqC σ r s) (h : HI0 σ) (t : TyC σ r 8) (x : ExC M σ τ) (hm : M.elem 240 = false ∧ M.elem 1 = false ∧ M.elem 2 = false ∧ M.elem 185 = false ∧ M.elem 995 = false) (e2 : s'.2 = s.2) : RqC τ r s' := by
  obtain ⟨m0, m1, m2, m3, m4⟩ := hm
  have e3 : s'.2.2 = s.2.2 := by rw [e2]
  have eN : zN s' = zN s := by unfold zN; rw [e3]
  refine ⟨by rw [eN]; exact Nat.le_trans e.1 x.1, e.2.1.of b x.1 (KmC.x x ⟨m3, m4⟩) (k183 x) (fun q a hq ha j hj => el_x h (ls11 h t hq ha) x m1 m2 hj) (q240 h t x m0) (by unfold zMs; rw [e2]) e3, e.2.2.of h t x.1 (KmC.x x ⟨m3, m4⟩) (fun b b1 b2 b3 _ => ⟨⟨(x.2.2 b b1).1.1.trans b2, (x.2.2 b b1).1.2.2.trans b3⟩, ((x.2.2 b b1).2.2.2 2 m2).1, fun j hj => el_x h ⟨b1, b2, fun q => by cases q⟩ x m1 m2 hj⟩) (q240 h t x m0) e3⟩
theorem RqC.xt {a c : Nat} {M : List Nat} {σ τ : CsC} {r : Nat} {s : SpC} (b : RbC σ r s) (e : RqC σ r s) (h : HI0 σ) (t : TyC σ r 8) (w : RawC σ a c) (x : ExT a M σ τ) (hm : M.elem 240 = false ∧ M.elem 1 = false ∧ M.elem 2 = false ∧ M.elem 185 = false ∧ M.elem 995 = false) : RqC τ r s := by
  obtain ⟨m0, m1, m2, m3, m4⟩ := hm
  have wt := w.2.1
  refine ⟨Nat.le_trans e.1 x.1, e.2.1.of b x.1 (KmC.xt w x ⟨m3, m4⟩) (k183t w x) (fun q a hq ha j hj => el_xt h (ls11 h t hq ha) w x m1 m2 hj) (q240t h t w x m0) rfl rfl, e.2.2.of h t x.1 (KmC.xt w x ⟨m3, m4⟩) (fun b b1 b2 b3 _ => ?_) (q240t h t w x m0) rfl⟩
  have hn : b ≠ a := fun q => by rw [q] at b2; omega
  exact ⟨⟨(x.2.2 b b1 hn).1.1.trans b2, (x.2.2 b b1 hn).1.2.2.trans b3⟩, ((x.2.2 b b1 hn).2.2.2 2 m2).1, fun j hj => el_xt h ⟨b1, b2, fun q => by cases q⟩ w x m1 m2 hj⟩
/-- another list grows -/
theorem RqC.ad {σ τ : CsC} {r a o : Nat} {s s' : SpC} (b : RbC σ r s) (e : RqC σ r s) (h : HI0 σ) (t : TyC σ r 8) (x : ExC [0, 1, 2, 999] σ τ) (hn : ∀ b, b ≠ a → fIC τ b 2 = fIC σ b 2) (ae : AeC a o σ τ) (hg : ghC σ a ≠ 6) (e1 : zMs s' = zMs s) (e3 : s'.2.2 = s.2.2) : RqC τ r s' := by
  have eN : zN s' = zN s := by unfold zN; rw [e3]
  refine ⟨by rw [eN]; exact Nat.le_trans e.1 x.1, e.2.1.of b x.1 (KmC.x x ⟨rfl, rfl⟩) (k183 x) (fun q c hq hc j hj => ?_) (q240 h t x rfl) e1 e3, e.2.2.of h t x.1 (KmC.x x ⟨rfl, rfl⟩) (fun c c1 c2 c3 _ => ?_) (q240 h t x rfl) e3⟩
  · have tc := ls11 h t hq hc
    exact ae.1 c tc.1 tc.2.1 (fun z => hg (by rw [← z]; exact lsg211 h (prg8 h t hq) hc)) j hj
  · have nc : c ≠ a := fun z => hg (by rw [← z]; exact c3)
    exact ⟨⟨(x.2.2 c c1).1.1.trans c2, (x.2.2 c c1).1.2.2.trans c3⟩, hn c nc, fun j hj => ae.1 c c1 c2 nc j hj⟩
/-- a method comes -/
theorem RqC.adm {σ τ : CsC} {r a q o : Nat} {s : SpC} {ty : Int} (b : RbC σ r s) (e : RqC σ r s) (h : HI0 σ) (t : TyC σ r 8) (x : ExC [0, 1, 2, 999] σ τ) (hn : ∀ b, b ≠ a → fIC τ b 2 = fIC σ b 2) (hq : fRC σ r 240 = some q) (ha : fRC σ q 211 = some a) (ae : AeC a o σ τ) (to : TyC σ o 6) (hN : zN s ≤ o) (hr : ∀ rr, fRC σ o 183 = some rr → o < rr) (hm : (fIC σ o 180).toInt = zAt s ∧ (fIC σ o 182).toInt = ty ∧ (fIC σ o 185).toInt = 0) : RqC τ r (metY ty s) := by
  refine ⟨Nat.le_trans e.1 x.1, fun q' hq' a' ha' => ?_, e.2.2.of h t x.1 (KmC.x x ⟨rfl, rfl⟩) (fun c c1 c2 c3 c4 => ?_) (q240 h t x rfl) rfl⟩
  · have y := q240 h t x rfl q' hq'
    rw [y.2] at ha'
    cases hq.symm.trans y.1
    cases ha.symm.trans ha'
    have sz := (b.2.1 _ hq).1 _ ha
    obtain ⟨m1, m2⟩ := e.2.1 _ hq _ ha
    obtain ⟨rr, -, er, tr, -, gr⟩ := cg183 h to
    have lt := hr rr er
    have f := (x.2.2 o to.1).2.1 (by rw [to.2.1]; decide)
    have xr := (x.2.2 rr tr.1).1
    have el : elC τ a (zMs s).length = some o := by
      have z := ae.2.2
      rw [show (fIC σ a 2).toNatClampNeg = (zMs s).length from by show (fIC σ a 2).toInt.toNat = _; omega] at z
      exact z
    have xc := x.1
    have rc := tr.1
    refine ⟨⟨⟨o, rr, ⟨el, (f 183 rfl).2.trans er⟩, ⟨⟨Nat.lt_of_lt_of_le to.1 x.1, (x.2.2 o to.1).1.1.trans to.2.1⟩, ⟨Nat.lt_of_lt_of_le tr.1 x.1, xr.1.trans tr.2.1, xr.2.2.trans gr⟩⟩, ⟨hN, lt, by omega⟩, ⟨by rw [(f 180 rfl).1]; exact hm.1, by rw [(f 182 rfl).1]; exact hm.2.1, by rw [((x.2.2 o to.1).2.2.2 185 rfl).1]; exact hm.2.2⟩, trivial⟩, MlC.hi x.1 _ (MlC.fr (KmC.x x ⟨rfl, rfl⟩) _ (fun j hj => ae.2.1 j (by omega)) m1)⟩, fun n o' hno => ?_⟩
    obtain ⟨f1, f2, f3⟩ := m2 n o' hno
    refine ⟨?_, (ae.2.1 n (by omega)).trans f2, f3.fr (fun j hj => ae.2.1 j (by omega)) (k183 x)⟩
    show n < ((zAt s, ty, []) :: zMs s).length
    rw [List.length_cons]
    omega
  · have nc : c ≠ a := fun z => c4 q hq (by rw [z]; exact ha)
    exact ⟨⟨(x.2.2 c c1).1.1.trans c2, (x.2.2 c c1).1.2.2.trans c3⟩, hn c nc, fun j hj => ae.1 c c1 c2 nc j hj⟩
/-- the last method is o -/
def TpY (o : Nat) (s : SpC) : Prop := ∃ n, n + 1 = (zMs s).length ∧ (n, o) ∈ zF s
/-- a param comes -/
theorem RqC.pad {σ τ : CsC} {r o : Nat} {s : SpC} {v : Int32} (b : RbC σ r s) (e : RqC σ r s) (h : HI0 σ) (t : TyC σ r 8) (x : ExC [185, 995] σ τ) (hT : TpY o s) (a1 : (fIC τ o 185).toInt = (fIC σ o 185).toInt + 1) (a2 : ∀ b, b ≠ o → fIC τ b 185 = fIC σ b 185) (a3 : ∀ rr, fRC σ o 183 = some rr → eIC τ rr = upd (eIC σ rr) (fIC σ o 185).toNatClampNeg v) (a4 : ∀ rr, fRC σ o 183 = some rr → ∀ b, b ≠ rr → eIC τ b = eIC σ b) : RqC τ r (padY v.toInt s) := by
  obtain ⟨n, hn, hf⟩ := hT
  obtain ⟨q, -, hq, tq⟩ := cg240 h t
  obtain ⟨a, -, ha, ta, -⟩ := cg211 h tq
  have sz := (b.2.1 q hq).1 a ha
  obtain ⟨m1, m2⟩ := e.2.1 q hq a ha
  obtain ⟨-, g2, g3⟩ := m2 n o hf
  cases hz : zMs s with
  | nil => rw [hz] at hn; cases hn
  | cons m l =>
    obtain ⟨n0, t0, l0⟩ := m
    rw [hz] at m1 hn sz
    have hnl : n = l.length := by rw [List.length_cons] at hn; omega
    subst hnl
    obtain ⟨⟨o', rr, ⟨h1, h2⟩, ⟨⟨h3, h4⟩, ⟨h5, h6, h7⟩⟩, ⟨h8, h9, h10⟩, ⟨h11, h12, h13⟩, h14⟩, h15⟩ := m1
    obtain rfl : o = o' := Option.some.inj (g2.symm.trans h1)
    have f := (x.2.2 o h3).2.1 (by rw [h4]; decide)
    have k1 : ∀ lo hi, hi ≤ o → KmC lo hi σ τ := fun lo hi hh => ⟨x.1, fun c c1 c2 _ c4 => by
      have f := (x.2.2 c c1).2.1 (by rw [c2]; decide)
      exact ⟨(x.2.2 c c1).1.1.trans c2, (f 183 rfl).2, (f 180 rfl).1, (f 182 rfl).1, a2 c (by omega)⟩, fun c c1 c2 c3 _ c5 => ⟨(x.2.2 c c1).1.1.trans c2, (x.2.2 c c1).1.2.2.trans c3, a4 rr h2 c (by omega)⟩⟩
    have he : ∀ j : Nat, (j : Int) < (fIC σ a 2).toInt → elC τ a j = elC σ a j := fun j hj => el_x h ta x rfl rfl hj
    have lz : (((n0, t0, l0) :: l).length : Int) = l.length + 1 := by rw [List.length_cons]; omega
    have zp : zMs (padY v.toInt s) = (n0, t0, v.toInt :: l0) :: l := by
      show (match zMs s with
        | [] => []
        | (a, b, l) :: r => (a, b, v.toInt :: l) :: r) = _
      rw [hz]
    refine ⟨Nat.le_trans e.1 x.1, fun q' hq' a' ha' => ?_, e.2.2.of h t x.1 (k1 0 (zN s) h8) (fun c c1 c2 c3 _ => ⟨⟨(x.2.2 c c1).1.1.trans c2, (x.2.2 c c1).1.2.2.trans c3⟩, ((x.2.2 c c1).2.2.2 2 rfl).1, fun j hj => el_x h ⟨c1, c2, fun q => by cases q⟩ x rfl rfl hj⟩) (q240 h t x rfl) rfl⟩
    have y := q240 h t x rfl q' hq'
    rw [y.2] at ha'
    cases hq.symm.trans y.1
    cases ha.symm.trans ha'
    have xc := x.1
    have e0 : (fIC σ o 185).toNatClampNeg = l0.length := by show (fIC σ o 185).toInt.toNat = _; rw [h13]; rfl
    rw [zp]
    refine ⟨⟨⟨o, rr, ⟨(he l.length (by omega)).trans h1, (f 183 rfl).2.trans h2⟩, ⟨⟨by omega, (x.2.2 o h3).1.1.trans h4⟩, ⟨by omega, (x.2.2 rr h5).1.1.trans h6, (x.2.2 rr h5).1.2.2.trans h7⟩⟩, ⟨h8, h9, by omega⟩, ⟨by rw [(f 180 rfl).1]; exact h11, by rw [(f 182 rfl).1]; exact h12, ?_⟩, ?_, ?_⟩, MlC.hi (by omega) _ (MlC.fr (k1 _ o (Nat.le_refl _)) _ (fun j hj => he j (by omega)) (MlC.bd l g3 h15))⟩, fun n o' hno => ?_⟩
    · show (fIC τ o 185).toInt = ((v.toInt :: l0).length : Int)
      rw [a1, h13, List.length_cons]
      show (l0.length : Int) + 1 = _
      omega
    · show (eIC τ rr l0.length).toInt = v.toInt
      rw [a3 rr h2, e0]
      unfold upd
      rw [if_pos rfl]
    · refine PtC.fr l0 (fun j hj => ?_) h14
      rw [a3 rr h2, e0]
      unfold upd
      rw [if_neg (by omega)]
    · obtain ⟨f1, f2, f3⟩ := m2 n o' hno
      rw [hz] at f1
      refine ⟨by rw [List.length_cons] at f1 ⊢; exact f1, (he n (by rw [List.length_cons] at f1; omega)).trans f2, f3.fr (fun j hj => he j (by rw [List.length_cons] at f1; omega)) (k183 x)⟩
/-! both -/
/-- how a heap with a reader shows it -/
def ReC (σ : CsC) (r : Nat) (s : SpC) : Prop := RbC σ r s ∧ RqC σ r s
theorem ReC.ini3 {σ : CsC} {r q t : Nat} (F : Nat → Int) (V : Nat → Option (List (Int × Int × Int × Int))) (Pm : Nat → Option (List (Int × Int × List Int))) (N : Nat) (h : HI0 σ) (t8 : TyC σ r 8) (e2 : (fIC σ r 242).toInt = 0) (e3 : (fIC σ r 243).toInt = 0) (hq : fRC σ r 240 = some q) (ht : fRC σ r 241 = some t) (hz : ∀ k, [211, 212, 213, 214].elem k = true → ∀ a, fRC σ q k = some a → (fIC σ a 2).toInt = 0)
    (hF : ∀ b, 0 ≤ F b → ((b < cnC σ ∧ tgC σ b = 0 ∧ (ghC σ b = 6 ∨ ghC σ b = 11)) ∧ (¬ fRC σ q 211 = some b ∧ ¬ fRC σ q 212 = some b)) ∧ (fIC σ b 2).toInt = F b)
    (hV : ∀ b l, V b = some l → ((b < cnC σ ∧ tgC σ b = 0 ∧ ghC σ b = 11) ∧ ¬ fRC σ q 212 = some b) ∧ (fIC σ b 2).toInt = l.length ∧ VlC σ b l)
    (hN : N ≤ cnC σ) (hP : ∀ b l, Pm b = some l → ((b < cnC σ ∧ tgC σ b = 0 ∧ ghC σ b = 6) ∧ ¬ fRC σ q 211 = some b) ∧ (fIC σ b 2).toInt = l.length ∧ MlC σ b 0 N l) : ∃ s, Z0Y s ∧ ReC σ r s ∧ (∀ b, zL s (1000 + b) = F b) ∧ zO s = V ∧ zP s = Pm := by
  obtain ⟨s, h1, h2, h3, h4, h5, h6, h7⟩ := RbC.ini3 F V h t8 e2 e3 hq ht hz hF Pm N [] hV
  refine ⟨s, h1, ⟨h2, by rw [h6]; exact hN, fun q' hq' a ha => ?_, fun b l hb => ?_⟩, h3, h4, h5⟩
  · rw [h1.2.2.1, h7]
    exact ⟨trivial, fun n o hno => absurd hno List.not_mem_nil⟩
  · rw [h5] at hb
    rw [h6]
    obtain ⟨⟨f1, f2⟩, f3⟩ := hP b l hb
    exact ⟨⟨f1, fun q' hq' => by cases hq.symm.trans hq'; exact f2⟩, f3⟩
theorem ReC.ini {σ : CsC} {r q t : Nat} (h : HI0 σ) (t8 : TyC σ r 8) (e2 : (fIC σ r 242).toInt = 0) (e3 : (fIC σ r 243).toInt = 0) (hq : fRC σ r 240 = some q) (ht : fRC σ r 241 = some t) (hz : ∀ k, [211, 212, 213, 214].elem k = true → ∀ a, fRC σ q k = some a → (fIC σ a 2).toInt = 0) : ∃ s, Z0Y s ∧ ReC σ r s := by
  obtain ⟨s, h1, h2, -⟩ := ReC.ini3 (fun _ => -1) (fun _ => none) (fun _ => none) 0 h t8 e2 e3 hq ht hz (fun b hb => absurd hb (by decide)) (fun b l hb => by cases hb) (Nat.zero_le _) (fun b l hb => by cases hb)
  exact ⟨s, h1, h2⟩
theorem ReC.eq {σ : CsC} {r : Nat} {s s' : SpC} (h : ReC σ r s) (e : s' = s) : ReC σ r s' := by rw [e]; exact h
theorem ReC.ft {σ : CsC} {r : Nat} {s : SpC} {y : Int32} (h : ReC σ r s) (e : fIC σ r 243 = y) : y.toInt = zFt s := h.1.ft e
theorem ReC.at_ {σ : CsC} {r : Nat} {s : SpC} {y : Int32} (h : ReC σ r s) (e : fIC σ r 242 = y) : y.toInt = zAt s := h.1.at_ e
theorem ReC.nm {σ : CsC} {r q a : Nat} {s : SpC} {y : Int32} (e : ReC σ r s) (hq : fRC σ r 240 = some q) (ha : fRC σ q 211 = some a) (hy : fIC σ a 2 = y) : y.toInt = (zMs s).length := e.1.nm hq ha hy
theorem ReC.nv {σ : CsC} {r q a : Nat} {s : SpC} {y : Int32} (e : ReC σ r s) (hq : fRC σ r 240 = some q) (ha : fRC σ q 212 = some a) (hy : fIC σ a 2 = y) : y.toInt = (zVs s).length := e.1.nv hq ha hy
theorem CkC2.re {σ : CsC} {r : Nat} {s : SpC} (h : HI0 σ) (t : TyC σ r 8) (e : ReC σ r s) : CkC2 σ r = codY s := CkC2.rb h t e.1
theorem ReC.x {M : List Nat} {σ τ : CsC} {r : Nat} {s : SpC} (e : ReC σ r s) (h : HI0 σ) (t : TyC σ r 8) (x : ExC M σ τ) (hm : (M.elem 240 = false ∧ M.elem 241 = false ∧ M.elem 242 = false ∧ M.elem 243 = false ∧ M.elem 244 = false ∧ M.elem 2 = false ∧ M.elem 998 = false ∧ M.elem 1 = false) ∧ M.elem 185 = false ∧ M.elem 995 = false) : ReC τ r s := ⟨e.1.x h t x hm.1, e.2.x e.1 h t x ⟨hm.1.1, hm.1.2.2.2.2.2.2.2, hm.1.2.2.2.2.2.1, hm.2⟩ rfl⟩
theorem ReC.xt {a c : Nat} {M : List Nat} {σ τ : CsC} {r : Nat} {s : SpC} (e : ReC σ r s) (h : HI0 σ) (t : TyC σ r 8) (w : RawC σ a c) (x : ExT a M σ τ) (hm : (M.elem 240 = false ∧ M.elem 241 = false ∧ M.elem 242 = false ∧ M.elem 243 = false ∧ M.elem 244 = false ∧ M.elem 2 = false ∧ M.elem 998 = false ∧ M.elem 1 = false) ∧ M.elem 185 = false ∧ M.elem 995 = false) : ReC τ r s := ⟨e.1.xt h t w x hm.1, e.2.xt e.1 h t w x ⟨hm.1.1, hm.1.2.2.2.2.2.2.2, hm.1.2.2.2.2.2.1, hm.2⟩⟩
theorem ReC.x3 {M : List Nat} {σ τ : CsC} {r : Nat} {s s' : SpC} (e : ReC σ r s) (h : HI0 σ) (t : TyC σ r 8) (x : ExC M σ τ) (hm : (M.elem 240 = false ∧ M.elem 241 = false ∧ M.elem 2 = false ∧ M.elem 998 = false ∧ M.elem 1 = false) ∧ M.elem 185 = false ∧ M.elem 995 = false) (e2 : s'.2 = s.2) (e1 : (fIC τ r 242).toInt = zAt s' ∧ (fIC τ r 243).toInt = zFt s' ∧ (¬ zFt s' = 0 → (fIC τ r 244).toInt = zPl s')) : ReC τ r s' := ⟨e.1.x3 h t x hm.1 e2 e1, e.2.x e.1 h t x ⟨hm.1.1, hm.1.2.2.2.2, hm.1.2.2.1, hm.2⟩ e2⟩
theorem ReC.ad0 {σ τ : CsC} {r a : Nat} {s : SpC} (e : ReC σ r s) (h : HI0 σ) (t : TyC σ r 8) (x : ExC [0, 1, 2, 999] σ τ) (hn : ∀ b, b ≠ a → fIC τ b 2 = fIC σ b 2) (hg : ghC σ a ≠ 6 ∧ ghC σ a ≠ 11) {o : Nat} (ae : AeC a o σ τ) : ReC τ r s := ⟨e.1.ad0 h t x hn hg ae, e.2.ad e.1 h t x hn ae hg.1 rfl rfl⟩
theorem ReC.adv {σ τ : CsC} {r a q : Nat} {s : SpC} {ty f : Int} (e : ReC σ r s) (h : HI0 σ) (t : TyC σ r 8) (x : ExC [0, 1, 2, 999] σ τ) (hn : ∀ b, b ≠ a → fIC τ b 2 = fIC σ b 2) (hp : (fIC τ a 2).toInt = (fIC σ a 2).toInt + 1) (hq : fRC σ r 240 = some q) (ha : fRC σ q 212 = some a) {o : Nat} (ae : AeC a o σ τ) (to : TyC σ o 11) (hv : VoC σ o (zAt s, ty, f, ((zMs s).length : Int) - 1)) : ReC τ r (vadY ty f s) := ⟨e.1.adv h t x hn hp hq ha ae to hv, e.2.ad e.1 h t x hn ae (by rw [lsg212 h (prg8 h t hq) ha]; decide) rfl rfl⟩
theorem ReC.adm {σ τ : CsC} {r a q : Nat} {s : SpC} {ty : Int} (e : ReC σ r s) (h : HI0 σ) (t : TyC σ r 8) (x : ExC [0, 1, 2, 999] σ τ) (hn : ∀ b, b ≠ a → fIC τ b 2 = fIC σ b 2) (hp : (fIC τ a 2).toInt = (fIC σ a 2).toInt + 1) (hq : fRC σ r 240 = some q) (ha : fRC σ q 211 = some a) {o : Nat} (ae : AeC a o σ τ) (to : TyC σ o 6) (hN : zN s ≤ o) (hr : ∀ rr, fRC σ o 183 = some rr → o < rr) (hm : (fIC σ o 180).toInt = zAt s ∧ (fIC σ o 182).toInt = ty ∧ (fIC σ o 185).toInt = 0) : ReC τ r (metY ty s) := ⟨e.1.adm h t x hn hp hq ha ae, e.2.adm e.1 h t x hn hq ha ae to hN hr hm⟩
theorem ReC.pad {σ τ : CsC} {r o : Nat} {s : SpC} {v : Int32} (e : ReC σ r s) (h : HI0 σ) (t : TyC σ r 8) (x : ExC [185, 995] σ τ) (hT : TpY o s) (a1 : (fIC τ o 185).toInt = (fIC σ o 185).toInt + 1) (a2 : ∀ b, b ≠ o → fIC τ b 185 = fIC σ b 185) (a3 : ∀ rr, fRC σ o 183 = some rr → eIC τ rr = upd (eIC σ rr) (fIC σ o 185).toNatClampNeg v) (a4 : ∀ rr, fRC σ o 183 = some rr → ∀ b, b ≠ rr → eIC τ b = eIC σ b) : ReC τ r (padY v.toInt s) := ⟨(e.1.x h t x (by decide)).pad, e.2.pad e.1 h t x hT a1 a2 a3 a4⟩
/-! facts of methods' places -/
def wxY (F : List (Nat × Nat)) (s : SpC) : SpC := (s.1, s.2.1, s.2.2.1, (zL s, zO s, zP s, zN s, F))
theorem ReC.dr {F : List (Nat × Nat)} {σ : CsC} {r : Nat} {s : SpC} (e : ReC σ r (wxY F s)) (hF : ∀ x, x ∈ zF s → x ∈ F) : ReC σ r s := ⟨e.1, e.2.1, fun q hq a ha => ⟨(e.2.2.1 q hq a ha).1, fun n o h => (e.2.2.1 q hq a ha).2 n o (hF _ h)⟩, e.2.2.2⟩
theorem ReC.wx {σ : CsC} {r n o : Nat} {s : SpC} (e : ReC σ r s) (hf : ∀ q, fRC σ r 240 = some q → ∀ a, fRC σ q 211 = some a → n < (zMs s).length ∧ elC σ a n = some o ∧ AdrC σ a o n) : ReC σ r (wxY ((n, o) :: zF s) s) := ⟨e.1, e.2.1, fun q hq a ha => ⟨(e.2.2.1 q hq a ha).1, fun n' o' h => by
  rcases List.mem_cons.mp h with z | z
  · cases z
    exact hf q hq a ha
  · exact (e.2.2.1 q hq a ha).2 n' o' z⟩, e.2.2.2⟩
/-- the first n methods stand below B -/
def RaC (σ : CsC) (r B n : Nat) : Prop := ∀ q, fRC σ r 240 = some q → ∀ a, fRC σ q 211 = some a → AdrC σ a B n
def RbE (σ : CsC) (r o n : Nat) : Prop := ∀ q, fRC σ r 240 = some q → ∀ a, fRC σ q 211 = some a → elC σ a n = some o
theorem ReC.ra {σ : CsC} {r : Nat} {s : SpC} (e : ReC σ r s) : RaC σ r (cnC σ) (zMs s).length := fun q hq a ha => MlC.ad _ (e.2.2.1 q hq a ha).1
theorem RaC.of {σ τ : CsC} {r B n : Nat} (w : RaC σ r B n) (hb : ∀ q a, fRC σ r 240 = some q → fRC σ q 211 = some a → ∀ j : Nat, j < n → elC τ a j = elC σ a j) (k3 : ∀ o, o < cnC σ → tgC σ o = 6 → (o < cnC τ ∧ tgC τ o = 6) ∧ fRC τ o 183 = fRC σ o 183) (hq : ∀ q, fRC τ r 240 = some q → fRC σ r 240 = some q ∧ fRC τ q 211 = fRC σ q 211) : RaC τ r B n := fun q z a ha => by
  have y := hq q z
  rw [y.2] at ha
  exact (w q y.1 a ha).fr (hb q a y.1 ha) k3
theorem RaC.x {M : List Nat} {σ τ : CsC} {r B n : Nat} {s : SpC} (w : RaC σ r B n) (e : ReC σ r s) (hn : n ≤ (zMs s).length) (h : HI0 σ) (t : TyC σ r 8) (x : ExC M σ τ) (m : M.elem 240 = false ∧ M.elem 1 = false ∧ M.elem 2 = false) : RaC τ r B n := w.of (fun q a hq ha j hj => by
  have sz := (e.1.2.1 q hq).1 a ha
  exact el_x h (ls11 h t hq ha) x m.2.1 m.2.2 (by omega)) (k183 x) (q240 h t x m.1)
theorem RaC.xt {a c : Nat} {M : List Nat} {σ τ : CsC} {r B n : Nat} {s : SpC} (w : RaC σ r B n) (e : ReC σ r s) (hn : n ≤ (zMs s).length) (h : HI0 σ) (t : TyC σ r 8) (rw_ : RawC σ a c) (x : ExT a M σ τ) (m : M.elem 240 = false ∧ M.elem 1 = false ∧ M.elem 2 = false) : RaC τ r B n := w.of (fun q a hq ha j hj => by
  have sz := (e.1.2.1 q hq).1 a ha
  exact el_xt h (ls11 h t hq ha) rw_ x m.2.1 m.2.2 (by omega)) (k183t rw_ x) (q240t h t rw_ x m.1)
theorem RaC.ad {σ τ : CsC} {r B n a o : Nat} {s : SpC} (w : RaC σ r B n) (e : ReC σ r s) (hn : n = (zMs s).length) (h : HI0 σ) (t : TyC σ r 8) (x : ExC [0, 1, 2, 999] σ τ) (ae : AeC a o σ τ) {q : Nat} (hq : fRC σ r 240 = some q) (ha : fRC σ q 211 = some a) : RaC τ r B n ∧ RbE τ r o n := by
  have sz := (e.1.2.1 q hq).1 a ha
  refine ⟨w.of (fun q' a' hq' ha' j hj => ?_) (k183 x) (q240 h t x rfl), fun q' z a' ha' => ?_⟩
  · cases hq.symm.trans hq'
    cases ha.symm.trans ha'
    exact ae.2.1 j (by omega)
  · have y := q240 h t x rfl q' z
    rw [y.2] at ha'
    cases hq.symm.trans y.1
    cases ha.symm.trans ha'
    have z := ae.2.2
    rw [show (fIC σ a 2).toNatClampNeg = n from by show (fIC σ a 2).toInt.toNat = _; omega] at z
    exact z
theorem RbE.x {M : List Nat} {σ τ : CsC} {r o n : Nat} {s : SpC} (w : RbE σ r o n) (e : ReC σ r s) (hn : n < (zMs s).length) (h : HI0 σ) (t : TyC σ r 8) (x : ExC M σ τ) (m : M.elem 240 = false ∧ M.elem 1 = false ∧ M.elem 2 = false) : RbE τ r o n := fun q z a ha => by
  have y := q240 h t x m.1 q z
  rw [y.2] at ha
  have sz := (e.1.2.1 q y.1).1 a ha
  exact (el_x h (ls11 h t y.1 ha) x m.2.1 m.2.2 (by omega)).trans (w q y.1 a ha)
