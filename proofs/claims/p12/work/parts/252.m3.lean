/-! S's, with what they lay -/
def cnM (z : ZS) : Nat := z.2.1.length
def snM (z : ZS) : Nat := z.2.2.1.1
def reS (z : ZS) (j : Nat) : SrZ := z.2.2.1.2 j
def fiS (z : ZS) (j : Nat) : Int := (reS z j).1.2.1
def paS (z : ZS) (j : Nat) : Int := (reS z j).1.2.2.2
def knS (z : ZS) (j : Nat) : List (Int × Int) := (reS z j).2.1
def upS (f : Nat → SrZ) (j : Nat) (x : SrZ) : Nat → SrZ := fun k => if k = j then x else f k
/-- a code of an S; one that takes the latest exp -/
def coM (op a b t : Int) (z : ZS) : ZS := (z.1, .inr (op, a, b, t, -1) :: z.2.1, z.2.2)
def cxM (op a b t : Int) (z : ZS) : ZS := (z.1, .inr (op, a, b, t, (xnM z : Int) - 1) :: z.2.1, z.2.2)
def seM (j : Nat) (f : SrZ → SrZ) (z : ZS) : ZS := (z.1, z.2.1, (z.2.2.1.1, upS z.2.2.1.2 j (f (z.2.2.1.2 j))), z.2.2.2)
def sNx (v : Int) (x : SrZ) : SrZ := (x.1, x.2.1, (v, x.2.2.2))
def sBd (v : Int) (x : SrZ) : SrZ := (x.1, x.2.1, (x.2.2.1, v, x.2.2.2.2))
def sOt (v : Int) (x : SrZ) : SrZ := (x.1, x.2.1, (x.2.2.1, x.2.2.2.1, v, x.2.2.2.2.2))
def sLs (v : Int) (x : SrZ) : SrZ := (x.1, x.2.1, (x.2.2.1, x.2.2.2.1, x.2.2.2.2.1, v, x.2.2.2.2.2.2))
def sEx (v : Int) (x : SrZ) : SrZ := (x.1, x.2.1, (x.2.2.1, x.2.2.2.1, x.2.2.2.2.1, x.2.2.2.2.2.1, v, x.2.2.2.2.2.2.2))
def sLk (v : Int) (x : SrZ) : SrZ := (x.1, x.2.1, (x.2.2.1, x.2.2.2.1, x.2.2.2.2.1, x.2.2.2.2.2.1, x.2.2.2.2.2.2.1, v, x.2.2.2.2.2.2.2.2))
/-- an S begins: of a kind, at a level -/
def beM (k lv : Int) (z : ZS) : ZS := (z.1, z.2.1, (z.2.2.1.1 + 1, upS z.2.2.1.2 z.2.2.1.1 ((k, zAt z.1, lv, z.2.2.2.1.2), z.2.2.2.1.1, (-1, -1, -1, -1, -1, -1, (z.2.2.2.2.2.2 : Int)))), z.2.2.2)
def tnM (z : ZS) : Nat := z.2.2.2.2.2.2
def thM (z : ZS) : ZS := (z.1, z.2.1, z.2.2.1, z.2.2.2.1, (z.2.2.2.2.1, z.2.2.2.2.2.1, z.2.2.2.2.2.2 + 1))
def lvN (n : Nat) : Int := 21 - (n : Int)
def bgM (k : Int) (n : Nat) (z : ZS) : ZS := coM 20 0 0 (zAt z.1) (beM k (lvN n) z)
/-- catch: its variable is told, too -/
def caM (k : Nat) (z : ZS) : ZS := (z.1, .inr (51, (k : Int), 0, zAt z.1, -2 - ((zVs z.1).length : Int)) :: z.2.1, z.2.2)
/-- one that is a thing of the reference -/
def bgH (k : Int) (n : Nat) (z : ZS) : ZS := thM (bgM k n z)
/-- it ends; c: its STEP's code -/
def enM (j c : Nat) (z : ZS) : ZS := coM 45 c 0 (fiS z j) z
/-- the S around; what is known: ends of variables -/
def arM (j : Int) (z : ZS) : ZS := (z.1, z.2.1, z.2.2.1, (z.2.2.2.1.1, j), z.2.2.2.2)
def veZ (t : Int) : List (Int × Int) → (Nat → Int) → Nat → Int
  | [], f => f
  | (v, _) :: l, f => fun k => if (k : Int) = v then t else veZ t l f k
def veM (t : Int) (out : List (Int × Int)) (z : ZS) : ZS := (z.1, z.2.1, z.2.2.1, (out, z.2.2.2.1.2), (veZ t (z.2.2.2.1.1.take (z.2.2.2.1.1.length - out.length)) z.2.2.2.2.1, z.2.2.2.2.2))
def unM (j : Nat) (z : ZS) : ZS := arM (paS z j) z
/-- a variable is told at its NAME, and known from there on -/
def dcM (N : Int → Int) (ty f h : Int) (z : ZS) : ZS := (dclY ty f h z.1, z.2.1, z.2.2.1, (((zVs z.1).length, zAt z.1) :: z.2.2.2.1.1, z.2.2.2.1.2), (z.2.2.2.2.1, fun k => if k = (zVs z.1).length then (if 0 ≤ lkM N z (zAt z.1) then 1 else 0) else z.2.2.2.2.2.1 k, z.2.2.2.2.2.2))
/-- the latest exp -/
def rtM (z : ZS) : XrZ := match z.2.1 with
  | .inl x :: _ => x
  | _ => recZ 0 0 0 0 0 0 0 0 0 0 0 0 []
def acZ (x : XrZ) : Int := if x.1.1 = 9 ∨ x.1.1 = 6 ∨ x.1.1 = 10 then 1 else 0
def poM (z : ZS) : ZS := cxM 21 (acZ (rtM z)) 0 (rtM z).1.2.2.1 z
/-- an exp of an S -/
def exS (N : Int → Int) (j n : Nat) (z : ZS) : ZS := (fun z1 => seM j (sEx ((xnM z1 : Int) - 1)) z1) (eM N n z)
def cdM (N : Int → Int) (j n : Nat) (z : ZS) : ZS := xpM 1 (exS N j n (xpM 0 z))
def bdM (j jb : Nat) (z : ZS) : ZS := unM j (seM j (sBd jb) z)
/-- exp ; -/
def xsM (N : Int → Int) (n : Nat) (z : ZS) : ZS := enM (snM z) (cnM z) (xpM 4 (poM (exS N (snM z) n (bgM 90 n z))))
/-- a variable, told in a row or in for -/
def stoZ (v j st : Int) (i : Nat) (s : SpC) : XrZ := recZ 15 8 j (zAt s - 1) j v 0 st ((i : Int) - 1) (-1) (-1) (-1) []
def va2M (N : Int → Int) (j n : Nat) (f : Int) (v t : Int) (z : ZS) : ZS :=
  if f = 1 ∨ codY z.1 = 8 then (fun (z0 : ZS) => (fun (z1 : ZS) => puM (stoZ v (fiS z1 j) (xnM z0) (xnM z1) z1.1) z1) (exS N j n (xpM 8 z0))) (coM 22 v 2 t z)
  else coM 22 v 0 t z
def va1M (N : Int → Int) (j n : Nat) (f ty : Int) (z : ZS) : ZS := va2M N j n f (zVs z.1).length (zAt z.1) (seM j (sLk (zVs z.1).length) (dcM N ty f 1 z))
def vaM (N : Int → Int) (j n : Nat) (z : ZS) : ZS := if codY z.1 = 71 then va1M N j n 1 (tyvY (accY z.1)) (typM (accM z)) else va1M N j n 0 (tyvY z.1) (typM z)
def toM (N : Int → Int) (n : Nat) (z : ZS) : ZS := enM (snM z) (cnM z) (xpM 4 (vaM N (snM z) n (bgM 91 n z)))
/-- exps of for -/
def fx1M (N : Int → Int) (n : Nat) (z : ZS) : ZS := poM (exS N (snM z) n (beM 94 (lvN n) z))
def fxlM (N : Int → Int) (n : Nat) : Nat → Nat → ZS → ZS
  | 0, _, z => z
  | f + 1, j, z => if codY z.1 = 5 then fxlM N n f (snM z) (seM j (sNx (snM z)) (fx1M N n (accM z))) else z
def fxM (N : Int → Int) (n : Nat) (z : ZS) : ZS := fxlM N n 501 (snM z) (fx1M N n z)
/-- a case, a default -/
def csM (N : Int → Int) (js : Int) (n : Nat) (z : ZS) : ZS :=
  if codY z.1 = 62 then (fun (z1 : ZS) => xpM 6 (cxM 38 js ((cnM z1 : Int) - 1) (zAt z.1) z1)) (exS N (snM z) n (accM (beM 62 (lvN n) z)))
  else xpM 6 (coM 39 js 0 (zAt z.1) (accM (beM (codY z.1) (lvN n) z)))
/-- where break, continue lead to: from j outwards -/
def tgZ (N : Int → Int) (f : Nat → SrZ) (on : Bool) (t : Int) : Nat → Int → Int
  | 0, _ => -1
  | k + 1, j => if j < 0 then -1 else
    if t < 0 then (if (f j.toNat).1.1 = 58 ∨ (f j.toNat).1.1 = 59 ∨ (f j.toNat).1.1 = 60 ∨ (on = false ∧ (f j.toNat).1.1 = 61) then j else tgZ N f on t k (f j.toNat).1.2.2.2)
    else if (f j.toNat).1.1 = 6 ∧ N (f j.toNat).2.2.2.2.2.2.2.1 = N t then
      (if on = false then j else if (f (j.toNat + 1)).1.1 = 58 ∨ (f (j.toNat + 1)).1.1 = 59 ∨ (f (j.toNat + 1)).1.1 = 60 then j + 1 else -1)
    else tgZ N f on t k (f j.toNat).1.2.2.2
def tgM (N : Int → Int) (on : Bool) (t : Int) (z : ZS) : Int := tgZ N z.2.2.1.2 on t (snM z) z.2.2.2.1.2
/-- as a thing -/
def tqM (N : Int → Int) (on : Bool) (t : Int) (z : ZS) : Int := if tgM N on t z < 0 then -2 else (z.2.2.1.2 (tgM N on t z).toNat).2.2.2.2.2.2.2.2
/-- break, continue; k: 64, 65 -/
def juM (N : Int → Int) (k : Int) (n : Nat) (z : ZS) : ZS :=
  (fun (z1 : ZS) => enM (snM z) (cnM z) (xpM 4 (if codY z1.1 = 80 then accM (coM (k - 18) (tqM N (decide (k = 65)) (zAt z1.1) z1) 0 (zAt z1.1) (seM (snM z) (sLk (zAt z1.1)) z1)) else coM (k - 18) (tqM N (decide (k = 65)) (-1) z1) 0 (zAt z.1) z1))) (accM (bgM k n z))
/-- return, throw -/
def giM (N : Int → Int) (k : Int) (n : Nat) (z : ZS) : ZS :=
  (fun (z1 : ZS) => enM (snM z) (cnM z) (xpM 4 (if k = 67 ∨ ¬ codY z1.1 = 4 then (fun (z2 : ZS) => cxM (k - 18) 1 ((cnM z2 : Int) - 1) (zAt z.1) (if k = 66 then seM (snM z) (sLk (((zMs z2.1).length : Int) - 1)) z2 else z2)) (exS N (snM z) n z1) else coM (k - 18) 0 (-2) (zAt z.1) (seM (snM z) (sLk (((zMs z1.1).length : Int) - 1)) z1)))) (accM (bgM k n z))
/-- rows: Rw gives the first one, too -/
def blkM (Rw : Int → Nat → ZS → ZS × Int) (j : Nat) (out : List (Int × Int)) (z : ZS) : ZS := (fun (q : ZS × Int) => xpM 3 (veM (zAt q.1.1) out (unM j (seM j (sBd q.2) q.1)))) (Rw 0 0 (xpM 2 (arM j z)))
/-- a block that is no S of its own -/
def boM (Rw : Int → Nat → ZS → ZS × Int) (n : Nat) (out : List (Int × Int)) (z : ZS) : ZS := blkM Rw (snM z) out (beM 92 (lvN n) z)
def blM (Rw : Int → Nat → ZS → ZS × Int) (n : Nat) (z : ZS) : ZS := enM (snM z) (cnM z) (blkM Rw (snM z) z.2.2.2.1.1 (bgH 2 n z))
def emM (n : Nat) (z : ZS) : ZS := enM (snM z) (cnM z) (accM (bgM 4 n z))
/-- NAME: -/
def laB (n : Nat) (z : ZS) : ZS := arM (snM z) (xpM 6 (accM (seM (snM z) (sLk (zAt z.1)) (coM 41 (tnM z) 0 (zAt z.1) (bgH 6 n z)))))
def laE (j k c : Nat) (z : ZS) : ZS := enM j c (coM 42 k 0 (fiS z j) (bdM j (j + 1) z))
def laM (n : Nat) (St : ZS → ZS) (z : ZS) : ZS := laE (snM z) (tnM z) (cnM z) (St (laB n z))
/-- if -/
def ifB (N : Int → Int) (n : Nat) (z : ZS) : ZS := arM (snM z) (cxM 23 (tnM z) 0 (zAt z.1) (cdM N (snM z) n (accM (bgH 56 n z))))
def ifX (j k c : Nat) (z : ZS) : ZS := enM j c (coM 25 k 0 (fiS z j) z)
def if2M (St : ZS → ZS) (j k c : Nat) (z : ZS) : ZS := if codY z.1 = 57 then ifX j k c (unM j (seM j (sOt (snM z)) (St (arM j (accM (coM 24 k 0 (zAt z.1) z)))))) else ifX j k c z
def ifM (N : Int → Int) (n : Nat) (St : ZS → ZS) (z : ZS) : ZS := if2M St (snM z) (tnM z) (cnM z) (bdM (snM z) (snM z + 1) (St (ifB N n z)))
/-- while -/
def whB (N : Int → Int) (n : Nat) (z : ZS) : ZS := arM (snM z) (cxM 27 (tnM z) 0 (zAt z.1) (cdM N (snM z) n (accM (coM 26 (tnM z) 0 (zAt z.1) (bgH 58 n z)))))
def whE (j k c : Nat) (z : ZS) : ZS := enM j c (coM 28 k 0 (fiS z j) (bdM j (j + 1) z))
def whM (N : Int → Int) (n : Nat) (St : ZS → ZS) (z : ZS) : ZS := whE (snM z) (tnM z) (cnM z) (St (whB N n z))
/-- do -/
def doB (n : Nat) (z : ZS) : ZS := arM (snM z) (accM (coM 29 (tnM z) 0 (zAt z.1) (bgH 59 n z)))
def doE (N : Int → Int) (n j k c : Nat) (z : ZS) : ZS := (fun (z1 : ZS) => enM j c (cxM 31 k 0 (fiS z1 j) z1)) (xpM 4 (cdM N j n (coM 30 k 0 (fiS z j) (xpM 58 (bdM j (j + 1) z)))))
def doM (N : Int → Int) (n : Nat) (St : ZS → ZS) (z : ZS) : ZS := doE N n (snM z) (tnM z) (cnM z) (St (doB n z))
/-- for -/
def fo1M (N : Int → Int) (j n : Nat) (z : ZS) : ZS := if codY z.1 = 71 ∨ (50 ≤ codY z.1 ∧ codY z.1 ≤ 54) then seM j (sOt (snM z)) (vaM N (snM z) n (beM 93 (lvN n) z)) else if codY z.1 = 4 then z else seM j (sOt (snM z)) (fxM N n z)
def fo2M (N : Int → Int) (j k n : Nat) (z : ZS) : ZS := if codY z.1 = 4 then coM 33 k 0 (fiS z j) z else (fun (z1 : ZS) => cxM 33 k 1 (fiS z1 j) z1) (exS N j n z)
def fo3M (N : Int → Int) (j n : Nat) (z : ZS) : ZS := if codY z.1 = 1 then z else seM j (sLs (snM z)) (fxM N n z)
def foB (N : Int → Int) (j k n : Nat) (z : ZS) : ZS := (fun (z1 : ZS) => coM 35 k 0 (fiS z1 j) z1) (xpM 1 (fo3M N j n ((fun (z2 : ZS) => coM 34 k 0 (fiS z2 j) z2) (xpM 4 (fo2M N j k n ((fun (z3 : ZS) => coM 32 k 0 (fiS z3 j) z3) (xpM 4 (fo1M N j n (arM j (xpM 0 z))))))))))
def foE (j k c jb : Nat) (z : ZS) : ZS := enM j c (coM 36 k 0 (fiS z j) (veM (zAt z.1 - 1) (knS z j) (bdM j jb z)))
def foM2 (N : Int → Int) (n : Nat) (St : ZS → ZS) (z : ZS) : ZS := (fun (z1 : ZS) => foE (snM z) (tnM z) (cnM z) (snM z1) (St z1)) (foB N (snM z) (tnM z) n (accM (bgH 60 n z)))
/-- switch -/
def swB (N : Int → Int) (n : Nat) (z : ZS) : ZS := xpM 2 (arM (snM z) (cxM 37 (tnM z) 0 (zAt z.1) (cdM N (snM z) n (accM (bgH 61 n z)))))
def swE (j k c : Nat) (q : ZS × Int) : ZS := (fun (z1 : ZS) => enM j c (coM 40 k 0 (fiS z1 j) z1)) (xpM 3 (veM (zAt q.1.1) (knS q.1 j) (unM j (seM j (sBd q.2) q.1))))
def swM (N : Int → Int) (n : Nat) (Rw : Int → Nat → ZS → ZS × Int) (z : ZS) : ZS := swE (snM z) (tnM z) (cnM z) (Rw 1 (tnM z) (swB N n z))
/-- try -/
def trB (n : Nat) (z : ZS) : ZS := arM (snM z) (coM 50 (tnM z) 0 (zAt z.1) (accM (bgH 68 n z)))
def tr1M (z : ZS) : ZS := if codY z.1 = 69 ∨ codY z.1 = 70 then z else raiM 2 z
def tr2M (N : Int → Int) (Rw : Int → Nat → ZS → ZS × Int) (j k n : Nat) (z : ZS) : ZS :=
  if codY z.1 = 69 then (fun (z1 : ZS) => seM j (sOt (snM z1)) (boM Rw n (knS z j) z1)) (xpM 1 ((fun (z2 : ZS) => seM j (sLk (zVs z2.1).length) (dcM N 3 0 1 z2)) (xpM 0 (accM (caM k z)))))
  else z
def tr3M (Rw : Int → Nat → ZS → ZS × Int) (j k n : Nat) (z : ZS) : ZS := if codY z.1 = 70 then (fun (z1 : ZS) => seM j (sLs (snM z1)) (boM Rw n (knS z j) z1)) (accM (coM 52 k 0 (zAt z.1) z)) else z
def trE (j k c : Nat) (z : ZS) : ZS := enM j c (coM 53 k 0 (fiS z j) (unM j z))
def trM (N : Int → Int) (n : Nat) (Rw : Int → Nat → ZS → ZS × Int) (z : ZS) : ZS := trE (snM z) (tnM z) (cnM z) (tr3M Rw (snM z) (tnM z) n (tr2M N Rw (snM z) (tnM z) n (tr1M (seM (snM z) (sBd (snM z + 1)) (boM Rw n z.2.2.2.1.1 (trB n z))))))
def smM (N : Int → Int) (n : Nat) (St : ZS → ZS) (Rw : Int → Nat → ZS → ZS × Int) (z : ZS) : ZS :=
  if codY z.1 = 56 then ifM N n St z
  else if codY z.1 = 58 then whM N n St z
  else if codY z.1 = 59 then doM N n St z
  else if codY z.1 = 60 then foM2 N n St z
  else if codY z.1 = 61 then swM N n Rw z
  else if codY z.1 = 68 then trM N n Rw z
  else if codY z.1 = 2 then blM Rw n z
  else if codY z.1 = 4 then emM n z
  else if codY z.1 = 64 ∨ codY z.1 = 65 then juM N (codY z.1) n z
  else if codY z.1 = 66 ∨ codY z.1 = 67 then giM N (codY z.1) n z
  else if codY z.1 = 80 then (if cobY z.1 = 6 then laM n St z else xsM N n z)
  else xsM N n z
def rp2M (N : Int → Int) (n : Nat) (S : ZS → ZS) (z : ZS) : ZS := if codY z.1 = 71 ∨ (50 ≤ codY z.1 ∧ codY z.1 ≤ 54) then toM N n z else S z
def rpM (N : Int → Int) (n : Nat) (S : ZS → ZS) (sw : Int) (js : Nat) (b : Int) (z : ZS) : ZS := if sw = 1 then (if codY z.1 = 62 ∨ codY z.1 = 63 then csM N js n z else if b = 1 then rp2M N n S (raiM 2 z) else rp2M N n S z) else rp2M N n S z
/-- a row; its first and its latest part (-1: none) -/
def nxM (l : Int) (j : Nat) (z : ZS) : ZS := if l < 0 then z else seM l.toNat (sNx j) z
def rwlM (N : Int → Int) (n : Nat) (S : ZS → ZS) (sw : Int) (js : Nat) : Nat → Int → Int → ZS → ZS × Int
  | 0, f, _, z => (z, f)
  | k + 1, f, l, z => if zFt z.1 = 0 then (if codY z.1 = 3 then (z, f) else rwlM N n S sw js k (if f < 0 then (snM z : Int) else f) (snM z) (nxM l (snM z) (rpM N n S sw js (if f < 0 then 1 else 0) z))) else (z, f)
/-- an S, a row at depth 21 - n -/
def lsM (N : Int → Int) : Nat → (ZS → ZS) × (Int → Nat → ZS → ZS × Int)
  | 0 => (raiM 3, fun _ _ z => (raiM 3 z, -1))
  | n + 1 => (smM N (n + 1) (lsM N n).1 (lsM N n).2, fun sw js z => rwlM N (n + 1) (smM N (n + 1) (lsM N n).1 (lsM N n).2) sw js 501 (-1) (-1) z)
def stM (N : Int → Int) (n : Nat) : ZS → ZS := (lsM N n).1
def rwM (N : Int → Int) (n : Nat) : Int → Nat → ZS → ZS × Int := (lsM N n).2
/-- methods -/
def pa2M (N : Int → Int) (i : Nat) (ty f : Int) (z : ZS) : ZS := if i < 6 then (fun (z1 : ZS) => (padY ty z1.1, z1.2)) (dcM N ty f 1 z) else dcM N ty f 0 z
def pa1M (N : Int → Int) (i : Nat) (z : ZS) : ZS := if codY z.1 = 71 then pa2M N i (tyvY (accY z.1)) 1 (typM (accM z)) else pa2M N i (tyvY z.1) 0 (typM z)
def palM (N : Int → Int) : Nat → Nat → ZS → ZS
  | 0, _, z => z
  | f + 1, i, z => if codY (pa1M N i z).1 = 5 then palM N f (i + 1) (accM (pa1M N i z)) else pa1M N i z
def pa3M (N : Int → Int) (z : ZS) : ZS := if codY z.1 = 1 then z else palM N 7 0 z
def paM (N : Int → Int) (z : ZS) : ZS := xpM 1 (pa3M N (xpM 0 z))
def me1M (z : ZS) : ZS := if (50 ≤ codY z.1 ∧ codY z.1 ≤ 54) ∨ codY z.1 = 55 then z else raiM 2 z
def me2M (z : ZS) : ZS := if codY z.1 = 80 then (if 10 ≤ (zMs z.1).length then raiM 3 z else z) else raiM 2 z
def me0M (ty : Int) (z : ZS) : ZS := thM (metY ty z.1, z.2.1, z.2.2.1, ([], -1), z.2.2.2.2)
def me3M (N : Int → Int) (ty : Int) (z : ZS) : ZS := if zFt z.1 = 0 then coM 54 (zMs z.1).length 0 (zAt z.1) (boM (rwM N 20) 21 [] (paM N (accM (me0M ty z)))) else z
def meM (N : Int → Int) (z : ZS) : ZS := me3M N (codY z.1 - 50) (me2M (accM (me1M z)))
def prM (N : Int → Int) : Nat → ZS → ZS
  | 0, z => z
  | f + 1, z => if zFt z.1 = 0 then (if codY z.1 = 84 then z else prM N f (meM N z)) else z
