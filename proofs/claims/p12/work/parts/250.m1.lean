/-! reading once more, with what it lays: records of exps, codes between them, records of S's -/
/-- of an exp or mark: (kind, sign, first, last), (name, link, work), (start, a, b, c, mark), the arguments of a call -/
abbrev XrZ : Type := (Int × Int × Int × Int) × (Int × Int × Int) × (Int × Int × Int × Int × Int) × List Int
/-- of an S: (kind, first, level, parent), the variables known (number, token), (next, body, other, last, exp, link), its number among the reference's things -/
abbrev SrZ : Type := (Int × Int × Int × Int) × List (Int × Int) × (Int × Int × Int × Int × Int × Int × Int)
/-- an exp's record, or a code of an S: op, S or what else, b, token, the exp that it takes (-1: none) -/
abbrev ItZ : Type := XrZ ⊕ (Int × Int × Int × Int × Int)
/-- what is read, what is laid (the last one first), S's, (variables known, the S around), (where variables end, which of them clash, how many things there are) -/
abbrev ZS : Type := SpC × List ItZ × (Nat × (Nat → SrZ)) × (List (Int × Int) × Int) × ((Nat → Int) × (Nat → Int) × Nat)
def xcZ : List ItZ → Nat
  | [] => 0
  | .inl _ :: l => xcZ l + 1
  | .inr _ :: l => xcZ l
/-- how many exps there are -/
def xnM (z : ZS) : Nat := xcZ z.2.1
def puM (x : XrZ) (z : ZS) : ZS := (z.1, .inl x :: z.2.1, z.2.2)
theorem xn_pu {x : XrZ} {z : ZS} : xnM (puM x z) = xnM z + 1 := rfl
def accM (z : ZS) : ZS := (accY z.1, z.2)
def raiM (n : Int) (z : ZS) : ZS := (raiY n z.1, z.2)
def xpM (c : Int) (z : ZS) : ZS := (xpY c z.1, z.2)
def typM (z : ZS) : ZS := (typY z.1, z.2)
/-- what a NAME means as a variable -/
def lkZ (N : Int → Int) : List (Int × Int) → Int → Int
  | [], _ => -1
  | (v, k) :: l, t => if N k = N t then v else lkZ N l t
def lkM (N : Int → Int) (z : ZS) (t : Int) : Int := lkZ N z.2.2.2.1.1 t
/-- how strong a sign binds as an operator; the operator of an assignment's sign -/
def strZ (c : Int) : Int := if c = 20 then 1 else if c = 21 then 2 else if c = 22 then 3 else if c = 23 then 4 else if c = 24 then 5 else if c = 25 ∨ c = 26 then 6 else if 27 ≤ c ∧ c ≤ 30 then 7 else if 31 ≤ c ∧ c ≤ 33 then 8 else if c = 34 ∨ c = 35 then 9 else if 36 ≤ c ∧ c ≤ 38 then 10 else 0
def opfZ (c : Int) : Int := if c = 9 then 34 else if c = 10 then 35 else if c = 11 then 36 else if c = 12 then 37 else if c = 13 then 38 else if c = 14 then 24 else if c = 15 then 22 else if c = 16 then 23 else if c = 17 then 31 else if c = 18 then 32 else if c = 19 then 33 else c
def recZ (k sg f l nm lk wk st a b c mk : Int) (ar : List Int) : XrZ := ((k, sg, f, l), (nm, lk, wk), (st, a, b, c, mk), ar)
/-- a literal; g = 1: it stands right behind a unary - -/
def litZ (g : Int) (i : Nat) (s : SpC) : XrZ := recZ (if codY s = 81 ∨ codY s = 82 then 0 else 1) (codY s) (zAt s) (zAt s) (zAt s) (if (codY s = 81 ∨ codY s = 82) ∧ g = 1 then 1 else -1) 0 i (-1) (-1) (-1) (-1) []
/-- a NAME; NAME ++; ++ NAME -/
def namZ (v : Int) (i : Nat) (s : SpC) : XrZ := recZ 2 (-1) (zAt s) (zAt s) (zAt s) v 0 i (-1) (-1) (-1) (-1) []
def posZ (v : Int) (i : Nat) (s : SpC) : XrZ := recZ 6 (cobY s) (zAt s) (zAt s + 1) (zAt s) v 0 i (-1) (-1) (-1) (-1) []
def preZ (v : Int) (i : Nat) (s : SpC) : XrZ := recZ 6 (codY s) (zAt s) (zAt s + 1) (zAt s + 1) v 0 i (-1) (-1) (-1) (-1) []
/-- ( ), a sign ahead, a cast, of what stands last in the list; t: its first token, st: where it starts -/
def parZ (t st : Int) (i : Nat) (s : SpC) : XrZ := recZ 3 0 t (zAt s) t (-1) 0 st ((i : Int) - 1) (-1) (-1) (-1) []
def alnZ (sg t st : Int) (i : Nat) (s : SpC) : XrZ := recZ 4 sg t (zAt s - 1) t (-1) 0 st ((i : Int) - 1) (-1) (-1) (-1) []
def casZ (ty t st : Int) (i : Nat) (s : SpC) : XrZ := recZ 5 0 t (zAt s - 1) t (-1) ty st ((i : Int) - 1) (-1) (-1) (-1) []
/-- an operator between a and what stands last -/
def chnZ (sg f st a mk : Int) (i : Nat) (s : SpC) : XrZ := recZ 7 sg f (zAt s - 1) f (-1) 0 st a ((i : Int) - 1) (-1) mk []
/-- a choice, an assignment, a call -/
def chrZ (f st a b mk : Int) (i : Nat) (s : SpC) : XrZ := recZ 8 7 f (zAt s - 1) f (-1) 0 st a b ((i : Int) - 1) mk []
def asrZ (v sg t st mk : Int) (i : Nat) (s : SpC) : XrZ := recZ 9 (opfZ sg) t (zAt s - 1) t v 0 st (-1) ((i : Int) - 1) (-1) mk []
def calZ (t st : Int) (ar : List Int) (s : SpC) : XrZ := recZ 10 0 t (zAt s) t (-1) 0 st (ar.headD (-1)) (-1) (-1) (-1) ar
/-- marks: && or ||, ?, :, the value that += and the like take -/
def frkZ (i : Nat) (s : SpC) : XrZ := recZ 11 (codY s) (zAt s) (zAt s - 1) (zAt s) (-1) 0 i (-1) (-1) (-1) (-1) []
def thnZ (i : Nat) (s : SpC) : XrZ := recZ 12 7 (zAt s) (zAt s - 1) (zAt s) (-1) 0 i (-1) (-1) (-1) (-1) []
def elsZ (th : Int) (i : Nat) (s : SpC) : XrZ := recZ 13 7 (zAt s) (zAt s - 1) (zAt s) (-1) 0 i (-1) (-1) (-1) th []
def takZ (v : Int) (i : Nat) (s : SpC) : XrZ := recZ 14 (cobY s) (zAt s) (zAt s - 1) (zAt s) v 0 i (-1) (-1) (-1) (-1) []
/-- operators that wait: sign, first, start, left one, mark -/
abbrev WtZ : Type := List (Int × Int × Int × Int × Int)
/-- those at least as strong as p are closed; those that still wait; first and start of what stands behind them -/
def clM (p : Int) : WtZ → ZS → ZS
  | [], z => z
  | (sg, f, st, a, mq) :: W, z => if p ≤ strZ sg then clM p W (puM (chnZ sg f st a mq (xnM z) z.1) z) else z
def cswZ (p : Int) : WtZ → WtZ
  | [] => []
  | (sg, f, st, a, mq) :: W => if p ≤ strZ sg then cswZ p W else (sg, f, st, a, mq) :: W
def csrZ (p : Int) : WtZ → Int × Int → Int × Int
  | [], r => r
  | (sg, f, st, _, _) :: W, r => if p ≤ strZ sg then csrZ p W (f, st) else r
def fkM (z : ZS) : ZS := if codY z.1 = 20 ∨ codY z.1 = 21 then puM (frkZ (xnM z) z.1) z else z
def mkZ (i : Nat) (s : SpC) : Int := if codY s = 20 ∨ codY s = 21 then (i : Int) else -1
/-- an operator begins to wait -/
def wnZ (r : Int × Int) (z : ZS) : Int × Int × Int × Int × Int := (codY z.1, r.1, r.2, (xnM z : Int) - 1, mkZ (xnM z) z.1)
/-- a chain from behind an operand (its first and start: r) -/
def chlM (O : ZS → ZS) : Nat → WtZ → Int × Int → ZS → ZS
  | 0, W, _, z => clM 0 W z
  | f + 1, W, r, z =>
    if 20 ≤ codY z.1 ∧ codY z.1 ≤ 38 then
      chlM O f (wnZ (csrZ (strZ (codY z.1)) W r) (clM (strZ (codY z.1)) W z) :: cswZ (strZ (codY z.1)) W) (zAt z.1 + 1, (xnM (fkM (clM (strZ (codY z.1)) W z)) : Int)) (O (accM (fkM (clM (strZ (codY z.1)) W z))))
    else clM 0 W z
/-- behind a chain (first and start: r): a choice, or nothing more -/
def cheM (r : Int × Int) (a b mk : Int) (z : ZS) : ZS := puM (chrZ r.1 r.2 a b mk (xnM z) z.1) z
def ch3M (C : ZS → ZS) (r : Int × Int) (a th : Int) (z : ZS) : ZS := cheM r a ((xnM z : Int) - 1) (xnM z) (C (xpM 6 (puM (elsZ th (xnM z) z.1) z)))
def ch2M (E C : ZS → ZS) (r : Int × Int) (z : ZS) : ZS := if codY z.1 = 7 then ch3M C r ((xnM z : Int) - 1) (xnM z) (E (accM (puM (thnZ (xnM z) z.1) z))) else z
/-- a chain's rest and a choice's -/
def tl2M (O E C : ZS → ZS) (W : WtZ) (r : Int × Int) (z : ZS) : ZS := ch2M E C (csrZ 0 W r) (chlM O 501 W r z)
def rbM (z : ZS) : Int × Int := (zAt z.1, (xnM z : Int))
def chcM (O E C : ZS → ZS) (z : ZS) : ZS := tl2M O E C [] (rbM z) (O z)
/-- an assignment -/
def tkM (N : Int → Int) (z : ZS) : ZS := if cobY z.1 = 8 then z else puM (takZ (lkM N z (zAt z.1)) (xnM z) z.1) z
def tmM (z : ZS) : Int := if cobY z.1 = 8 then -1 else (xnM z : Int)
def aseM (v sg : Int) (r : Int × Int) (mk : Int) (z : ZS) : ZS := puM (asrZ v sg r.1 r.2 mk (xnM z) z.1) z
def asgM (N : Int → Int) (E : ZS → ZS) (z : ZS) : ZS := aseM (lkM N z (zAt z.1)) (cobY z.1) (rbM z) (tmM z) (E (accM (accM (tkM N z))))
def xpsM (N : Int → Int) (O E C : ZS → ZS) (z : ZS) : ZS := if codY z.1 = 80 then (if 8 ≤ cobY z.1 ∧ cobY z.1 ≤ 19 then asgM N E z else chcM O E C z) else chcM O E C z
/-- a call's arguments from behind one on (l: those that are read), its end -/
def cleM (r : Int × Int) (l : List Int) (z : ZS) : ZS := xpM 1 (puM (calZ r.1 r.2 l z.1) z)
def clpM (E : ZS → ZS) (r : Int × Int) : Nat → List Int → ZS → ZS
  | 0, l, z => cleM r l z
  | f + 1, l, z => if codY z.1 = 5 then (fun z1 => clpM E r f (l ++ [(xnM z1 : Int) - 1]) z1) (E (accM z)) else cleM r l z
def ca2M (m : Nat) (E : ZS → ZS) (r : Int × Int) (z : ZS) : ZS := if m = 0 then xpM 1 (raiM 3 z) else if codY z.1 = 1 then cleM r [] z else (fun z1 => clpM E r 501 [(xnM z1 : Int) - 1] z1) (E z)
def nmeM (N : Int → Int) (m : Nat) (E : ZS → ZS) (z : ZS) : ZS := if cobY z.1 = 0 then ca2M m E (rbM z) (accM (accM z)) else if cobY z.1 = 41 ∨ cobY z.1 = 42 then puM (posZ (lkM N z (zAt z.1)) (xnM z) z.1) (accM (accM z)) else puM (namZ (lkM N z (zAt z.1)) (xnM z) z.1) (accM z)
/-- operands -/
def ngZ (c : Int) : Int := if c = 35 then 1 else 0
def aleM (sg : Int) (r : Int × Int) (z : ZS) : ZS := puM (alnZ sg r.1 r.2 (xnM z) z.1) z
def caeM (ty : Int) (r : Int × Int) (z : ZS) : ZS := puM (casZ ty r.1 r.2 (xnM z) z.1) z
def paeM (r : Int × Int) (z : ZS) : ZS := xpM 1 (puM (parZ r.1 r.2 (xnM z) z.1) z)
def op2M (I : Int → ZS → ZS) (E : ZS → ZS) (r : Int × Int) (z : ZS) : ZS := if 50 ≤ codY z.1 ∧ codY z.1 ≤ 54 then caeM (codY z.1 - 50) r (I 0 (xpM 1 (typM z))) else paeM r (E z)
def oprM (N : Int → Int) (m : Nat) (E : ZS → ZS) (I : Int → ZS → ZS) (g : Int) (z : ZS) : ZS :=
  if codY z.1 = 34 ∨ codY z.1 = 35 ∨ codY z.1 = 39 ∨ codY z.1 = 40 then aleM (codY z.1) (rbM z) (I (ngZ (codY z.1)) (accM z))
  else if codY z.1 = 41 ∨ codY z.1 = 42 then xpM 80 (puM (preZ (lkM N z (zAt z.1 + 1)) (xnM z) z.1) (accM z))
  else if codY z.1 = 0 then op2M I E (rbM z) (accM z)
  else if codY z.1 = 80 then nmeM N m E z
  else if codY z.1 = 81 ∨ codY z.1 = 82 ∨ codY z.1 = 83 ∨ codY z.1 = 72 ∨ codY z.1 = 73 then puM (litZ g (xnM z) z.1) (accM z)
  else raiM 2 z
/-- an exp, a choice, an operand at depth 21 - n -/
def lvM (N : Int → Int) : Nat → (ZS → ZS) × (ZS → ZS) × (Int → ZS → ZS)
  | 0 => (raiM 3, raiM 3, fun _ => raiM 3)
  | n + 1 => (xpsM N (oprM N n (lvM N n).1 (lvM N n).2.2 0) (lvM N n).1 (lvM N n).2.1, chcM (oprM N n (lvM N n).1 (lvM N n).2.2 0) (lvM N n).1 (lvM N n).2.1, oprM N n (lvM N n).1 (lvM N n).2.2)
def eM (N : Int → Int) (n : Nat) : ZS → ZS := (lvM N n).1
def cM (N : Int → Int) (n : Nat) : ZS → ZS := (lvM N n).2.1
def oM (N : Int → Int) (n : Nat) : Int → ZS → ZS := (lvM N n).2.2
def opM (N : Int → Int) (n : Nat) (g : Int) (z : ZS) : ZS := oprM N (n - 1) (eM N (n - 1)) (oM N (n - 1)) g z
def chM (N : Int → Int) (n : Nat) (z : ZS) : ZS := chcM (opM N n 0) (eM N (n - 1)) (cM N (n - 1)) z
def exM (N : Int → Int) (n : Nat) (z : ZS) : ZS := xpsM N (opM N n 0) (eM N (n - 1)) (cM N (n - 1)) z
theorem oM_s {N : Int → Int} {n : Nat} (h : 1 ≤ n) : oM N n = opM N n := by
  cases n with
  | zero => omega
  | succ n => rfl
theorem cM_s {N : Int → Int} {n : Nat} (h : 1 ≤ n) : cM N n = chM N n := by
  cases n with
  | zero => omega
  | succ n => rfl
theorem eM_s {N : Int → Int} {n : Nat} (h : 1 ≤ n) : eM N n = exM N n := by
  cases n with
  | zero => omega
  | succ n => rfl
/-! what is read is what was read -/
abbrev LfM (f : ZS → ZS) (g : SpC → SpC) : Prop := ∀ z, (f z).1 = g z.1
theorem lf_cl {p : Int} : ∀ (W : WtZ) (z : ZS), (clM p W z).1 = z.1 := by
  intro W
  induction W with
  | nil => intro z; rfl
  | cons w W ih =>
    intro z
    obtain ⟨sg, f, st, a, mk⟩ := w
    rw [clM]
    split
    · exact ih _
    · rfl
theorem lf_fk {z : ZS} : (fkM z).1 = z.1 := by unfold fkM; split <;> rfl
theorem lf_tk {N : Int → Int} {z : ZS} : (tkM N z).1 = z.1 := by unfold tkM; split <;> rfl
theorem lf_chl {O : ZS → ZS} {o : SpC → SpC} (h : LfM O o) : ∀ (f : Nat) (W : WtZ) (r : Int × Int) (z : ZS), (chlM O f W r z).1 = chlY o f z.1 := by
  intro f
  induction f with
  | zero => intro W r z; exact lf_cl W z
  | succ f ih =>
    intro W r z
    rw [chlM, chlY]
    split
    · rw [ih, h]
      show chlY o f (o (accY (fkM _).1)) = _
      rw [lf_fk, lf_cl]
    · exact lf_cl W z
theorem lf_ch2 {E C : ZS → ZS} {e c : SpC → SpC} (hE : LfM E e) (hC : LfM C c) (r : Int × Int) (z : ZS) : (ch2M E C r z).1 = ch2Y e c z.1 := by
  unfold ch2M ch2Y
  split
  · show (C (xpM 6 _)).1 = _
    rw [hC]
    show c (xpY 6 (E _).1) = _
    rw [hE]
    rfl
  · rfl
theorem lf_chc {O E C : ZS → ZS} {o e c : SpC → SpC} (hO : LfM O o) (hE : LfM E e) (hC : LfM C c) : LfM (chcM O E C) (chcY o e c) := by
  intro z
  show (ch2M E C _ (chlM O 501 [] _ (O z))).1 = ch2Y e c (chlY o 501 (o z.1))
  rw [lf_ch2 hE hC, lf_chl hO, hO]
theorem lf_xps {N : Int → Int} {O E C : ZS → ZS} {o e c : SpC → SpC} (hO : LfM O o) (hE : LfM E e) (hC : LfM C c) : LfM (xpsM N O E C) (xpsY o e c) := by
  intro z
  unfold xpsM xpsY
  split
  · split
    · show (E (accM (accM (tkM N z)))).1 = e (accY (accY z.1))
      rw [hE]
      show e (accY (accY (tkM N z).1)) = _
      rw [lf_tk]
    · exact lf_chc hO hE hC z
  · exact lf_chc hO hE hC z
theorem lf_clp {E : ZS → ZS} {e : SpC → SpC} (hE : LfM E e) (r : Int × Int) : ∀ (f : Nat) (l : List Int) (z : ZS), (clpM E r f l z).1 = xpY 1 (clpY e f z.1) := by
  intro f
  induction f with
  | zero => intro l z; rfl
  | succ f ih =>
    intro l z
    rw [clpM, clpY]
    split
    · show (clpM E r f _ (E (accM z))).1 = _
      rw [ih, hE]
      rfl
    · rfl
theorem lf_ca2 {m : Nat} {E : ZS → ZS} {e : SpC → SpC} (hE : LfM E e) (r : Int × Int) (z : ZS) : (ca2M m E r z).1 = xpY 1 (ca2Y m e z.1) := by
  unfold ca2M ca2Y
  split
  · rfl
  split
  · rfl
  · show (clpM E r 501 _ (E z)).1 = _
    rw [lf_clp hE, hE]
theorem lf_opr {N : Int → Int} {m : Nat} {E : ZS → ZS} {I : Int → ZS → ZS} {e i : SpC → SpC} (hE : LfM E e) (hI : ∀ g, LfM (I g) i) (g : Int) : LfM (oprM N m E I g) (oprY m e i) := by
  intro z
  unfold oprM oprY
  split
  · exact hI _ (accM z)
  split
  · rfl
  split
  · unfold op2M opnY op2Y
    show (if 50 ≤ codY (accY z.1) ∧ codY (accY z.1) ≤ 54 then _ else _ : ZS).1 = _
    split
    · exact hI 0 (xpM 1 (typM (accM z)))
    · show xpY 1 (E (accM z)).1 = _
      rw [hE]
      rfl
  split
  · unfold nmeM nmeY
    split
    · exact lf_ca2 hE _ (accM (accM z))
    split
    · rfl
    · rfl
  split
  · rfl
  · rfl
theorem lf_lv {N : Int → Int} : ∀ n, LfM (eM N n) (eY n) ∧ LfM (cM N n) (cY n) ∧ ∀ g, LfM (oM N n g) (oY n) := by
  intro n
  induction n with
  | zero => exact ⟨fun _ => rfl, fun _ => rfl, fun _ _ => rfl⟩
  | succ n ih => exact ⟨lf_xps (lf_opr ih.1 ih.2.2 0) ih.1 ih.2.1, lf_chc (lf_opr ih.1 ih.2.2 0) ih.1 ih.2.1, fun g => lf_opr ih.1 ih.2.2 g⟩
theorem lf_e {N : Int → Int} {n : Nat} : LfM (eM N n) (eY n) := (lf_lv n).1
theorem lf_c {N : Int → Int} {n : Nat} : LfM (cM N n) (cY n) := (lf_lv n).2.1
theorem lf_o {N : Int → Int} {n : Nat} {g : Int} : LfM (oM N n g) (oY n) := (lf_lv n).2.2 g
theorem lf_op {N : Int → Int} {n : Nat} {g : Int} : LfM (opM N n g) (opY n) := lf_opr lf_e (fun _ => lf_o) g
/-! S's stay, and what is known -/
abbrev KsM (f : ZS → ZS) : Prop := ∀ z, (f z).2.2 = z.2.2
theorem ks_cl {p : Int} : ∀ (W : WtZ) (z : ZS), (clM p W z).2.2 = z.2.2 := by
  intro W
  induction W with
  | nil => intro z; rfl
  | cons w W ih =>
    intro z
    obtain ⟨sg, f, st, a, mk⟩ := w
    rw [clM]
    split
    · exact ih _
    · rfl
theorem ks_fk {z : ZS} : (fkM z).2.2 = z.2.2 := by unfold fkM; split <;> rfl
theorem ks_tk {N : Int → Int} {z : ZS} : (tkM N z).2.2 = z.2.2 := by unfold tkM; split <;> rfl
theorem ks_chl {O : ZS → ZS} (h : KsM O) : ∀ (f : Nat) (W : WtZ) (r : Int × Int) (z : ZS), (chlM O f W r z).2.2 = z.2.2 := by
  intro f
  induction f with
  | zero => intro W r z; exact ks_cl W z
  | succ f ih =>
    intro W r z
    rw [chlM]
    split
    · rw [ih, h]
      show (fkM _).2.2 = _
      rw [ks_fk, ks_cl]
    · exact ks_cl W z
theorem ks_chc {O E C : ZS → ZS} (hO : KsM O) (hE : KsM E) (hC : KsM C) : KsM (chcM O E C) := by
  intro z
  show (ch2M E C _ (chlM O 501 [] _ (O z))).2.2 = _
  unfold ch2M
  split
  · show (C (xpM 6 _)).2.2 = _
    rw [hC]
    show (E _).2.2 = _
    rw [hE]
    show (chlM O 501 [] _ (O z)).2.2 = _
    rw [ks_chl hO, hO]
  · rw [ks_chl hO, hO]
theorem ks_xps {N : Int → Int} {O E C : ZS → ZS} (hO : KsM O) (hE : KsM E) (hC : KsM C) : KsM (xpsM N O E C) := by
  intro z
  unfold xpsM
  split
  · split
    · show (E (accM (accM (tkM N z)))).2.2 = _
      rw [hE]
      show (tkM N z).2.2 = _
      rw [ks_tk]
    · exact ks_chc hO hE hC z
  · exact ks_chc hO hE hC z
theorem ks_clp {E : ZS → ZS} (hE : KsM E) (r : Int × Int) : ∀ (f : Nat) (l : List Int) (z : ZS), (clpM E r f l z).2.2 = z.2.2 := by
  intro f
  induction f with
  | zero => intro l z; rfl
  | succ f ih =>
    intro l z
    rw [clpM]
    split
    · show (clpM E r f _ (E (accM z))).2.2 = _
      rw [ih, hE]
      rfl
    · rfl
theorem ks_opr {N : Int → Int} {m : Nat} {E : ZS → ZS} {I : Int → ZS → ZS} (hE : KsM E) (hI : ∀ g, KsM (I g)) (g : Int) : KsM (oprM N m E I g) := by
  intro z
  unfold oprM
  split
  · exact hI _ (accM z)
  split
  · rfl
  split
  · unfold op2M
    show (if 50 ≤ codY (accY z.1) ∧ codY (accY z.1) ≤ 54 then _ else _ : ZS).2.2 = _
    split
    · exact hI 0 (xpM 1 (typM (accM z)))
    · exact hE (accM z)
  split
  · unfold nmeM
    split
    · unfold ca2M
      split
      · rfl
      split
      · rfl
      · show (clpM E _ 501 _ (E _)).2.2 = _
        rw [ks_clp hE, hE]
        rfl
    split
    · rfl
    · rfl
  split
  · rfl
  · rfl
theorem ks_lv {N : Int → Int} : ∀ n, KsM (eM N n) ∧ KsM (cM N n) ∧ ∀ g, KsM (oM N n g) := by
  intro n
  induction n with
  | zero => exact ⟨fun _ => rfl, fun _ => rfl, fun _ _ => rfl⟩
  | succ n ih => exact ⟨ks_xps (ks_opr ih.1 ih.2.2 0) ih.1 ih.2.1, ks_chc (ks_opr ih.1 ih.2.2 0) ih.1 ih.2.1, fun g => ks_opr ih.1 ih.2.2 g⟩
theorem ks_e {N : Int → Int} {n : Nat} : KsM (eM N n) := (ks_lv n).1
theorem ks_op {N : Int → Int} {n : Nat} {g : Int} : KsM (opM N n g) := ks_opr ks_e (fun _ => (ks_lv (n - 1)).2.2 _) g
