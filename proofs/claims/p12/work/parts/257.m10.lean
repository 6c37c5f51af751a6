/-! what is still to be laid, by the frames: 0 method 1 block 2 if 3 else 4 while 5 do 6 for 7 label 8 switch 9 try 10 catch 11 finally -/
/-- sort, S, (its STEP's code, its thing), what else (rows: first, latest, the one ahead of it, the row's own S, a method's number, its NAME), variables known outside -/
abbrev FrZ : Type := Int × Nat × (Nat × Nat) × List Int × List (Int × Int)
/-- which thing a row's cases name -/
def rjM (k : Int) (c : Nat × Nat) : Nat := if k = 8 then c.2 else 0
def rlM (N : Int → Int) (k : Int) (j n : Nat) (f l : Int) (z : ZS) : ZS × Int := rwlM N n (stM N n) (swY k) j 501 f l z
/-- a row's end -/
def reM (jb : Nat) (out : List (Int × Int)) (q : ZS × Int) : ZS := xpM 3 (veM (zAt q.1.1) out (unM jb (seM jb (sBd q.2) q.1)))
def ceM (N : Int → Int) (k : Int) (j : Nat) (c : Nat × Nat) (x : List Int) (out : List (Int × Int)) (n : Nat) (q : ZS × Int) : ZS :=
  if k = 9 then trE j c.2 c.1 (tr3M (rwM N n) j c.2 (n + 1) (tr2M N (rwM N n) j c.2 (n + 1) (tr1M (seM j (sBd (x.getD 3 0)) (reM (x.getD 3 0).toNat out q)))))
  else if k = 10 then trE j c.2 c.1 (tr3M (rwM N n) j c.2 (n + 1) (seM j (sOt (x.getD 3 0)) (reM (x.getD 3 0).toNat out q)))
  else if k = 11 then trE j c.2 c.1 (seM j (sLs (x.getD 3 0)) (reM (x.getD 3 0).toNat out q))
  else if k = 8 then swE j c.2 c.1 q
  else if k = 1 then enM j c.1 (reM j out q)
  else coM 54 (x.getD 4 0) 0 (x.getD 5 0) (reM j out q)
def sfM (N : Int → Int) : List FrZ → Nat → ZS → ZS
  | [], _, z => z
  | (k, j, c, x, out) :: F, n, z =>
    if k = 2 then sfM N F (n + 1) (if2M (stM N n) j c.2 c.1 (bdM j (j + 1) z))
    else if k = 3 then sfM N F (n + 1) (ifX j c.2 c.1 (unM j (seM j (sOt (x.getD 0 0)) z)))
    else if k = 4 then sfM N F (n + 1) (whE j c.2 c.1 z)
    else if k = 5 then sfM N F (n + 1) (doE N (n + 1) j c.2 c.1 z)
    else if k = 6 then sfM N F (n + 1) (foE j c.2 c.1 (x.getD 0 0).toNat z)
    else if k = 7 then sfM N F (n + 1) (laE j c.2 c.1 z)
    else sfM N F (n + 1) (ceM N k j c x out n (rlM N k (rjM k c) n (x.getD 0 0) (x.getD 1 0) (nxM (x.getD 2 0) (x.getD 1 0).toNat z)))
/-- behind a row; ahead of a piece -/
def clF (N : Int → Int) (a : FrZ) (F : List FrZ) (n : Nat) (q : ZS × Int) : ZS := sfM N F (n + 1) (ceM N a.1 a.2.1 a.2.2.1 a.2.2.2.1 a.2.2.2.2 n q)
def pcM (N : Int → Int) (F : List FrZ) (n : Nat) (z : ZS) : ZS := match F with
  | [] => z
  | a :: G => if a.1 = 2 ∨ a.1 = 3 ∨ a.1 = 4 ∨ a.1 = 5 ∨ a.1 = 6 ∨ a.1 = 7 then sfM N (a :: G) n (stM N n z) else clF N a G n (rlM N a.1 (rjM a.1 a.2.2.1) n (a.2.2.2.1.getD 0 0) (a.2.2.2.1.getD 1 0) z)
/-- a row's frame as a part begins -/
def paF (a : FrZ) (j : Nat) : FrZ := (a.1, a.2.1, a.2.2.1, [if a.2.2.2.1.getD 0 0 < 0 then (j : Int) else a.2.2.2.1.getD 0 0, (j : Int), a.2.2.2.1.getD 1 0] ++ a.2.2.2.1.drop 3, a.2.2.2.2)
theorem sf_rowM {N : Int → Int} {a : FrZ} {F : List FrZ} {n : Nat} {z : ZS} (h : rwkY a.1) : sfM N (a :: F) n z = pcM N (a :: F) n (nxM (a.2.2.2.1.getD 2 0) (a.2.2.2.1.getD 1 0).toNat z) := by
  obtain ⟨k, j, c, x, out⟩ := a
  have h : rwkY k := h
  show _ = (if _ then _ else _)
  rw [if_neg (show ¬ (k = 2 ∨ k = 3 ∨ k = 4 ∨ k = 5 ∨ k = 6 ∨ k = 7) by omega), sfM, if_neg (by omega), if_neg (by omega), if_neg (by omega), if_neg (by omega), if_neg (by omega), if_neg (by omega)]
  rfl
theorem pc_rowM {N : Int → Int} {a : FrZ} {F : List FrZ} {n : Nat} {z : ZS} (h : rwkY a.1) : pcM N (a :: F) n z = clF N a F n (rlM N a.1 (rjM a.1 a.2.2.1) n (a.2.2.2.1.getD 0 0) (a.2.2.2.1.getD 1 0) z) := by
  show (if _ then _ else _) = _
  rw [if_neg (by omega)]
theorem pc_stM {N : Int → Int} {a : FrZ} {F : List FrZ} {n : Nat} {z : ZS} (h : a.1 = 2 ∨ a.1 = 3 ∨ a.1 = 4 ∨ a.1 = 5 ∨ a.1 = 6 ∨ a.1 = 7) : pcM N (a :: F) n z = sfM N (a :: F) n (stM N n z) := by
  show (if _ then _ else _) = _
  rw [if_pos h]
/-- fuel of rows -/
theorem rwlM_f {N : Int → Int} {n : Nat} {S : ZS → ZS} {sw : Int} {js k : Nat} {f l : Int} {z : ZS} (q : ¬ zFt z.1 = 0) : rwlM N n S sw js k f l z = (z, f) := by
  cases k with
  | zero => rfl
  | succ k => rw [rwlM, if_neg q]
theorem rwlM_fu {N : Int → Int} {n : Nat} {sw : Int} {js : Nat} : ∀ (k : Nat) (f l : Int) (z : ZS), zAt z.1 ≤ 500 → 501 - zAt z.1 ≤ k → rwlM N n (stM N n) sw js k f l z = rwlM N n (stM N n) sw js (k + 1) f l z := by
  intro k
  induction k with
  | zero => intro f l z h1 h2; omega
  | succ k ih =>
    intro f l z h1 h2
    rw [rwlM, rwlM]
    by_cases h0 : zFt z.1 = 0
    · rw [if_pos h0, if_pos h0]
      by_cases h3 : codY z.1 = 3
      · rw [if_pos h3, if_pos h3]
      · rw [if_neg h3, if_neg h3]
        have e : (nxM l (snM z) (rpM N n (stM N n) sw js (if f < 0 then 1 else 0) z)).1 = rpaY n (stY n) sw (if f < 0 then 1 else 0) z.1 := lf_nx.trans (lf_rp lf_st)
        have p := @pg_rpa n sw (if f < 0 then 1 else 0) z.1
        by_cases q : zFt (rpaY n (stY n) sw (if f < 0 then 1 else 0) z.1) = 0
        · have a := p.2 h1 q
          have c := p.1.2 h1
          exact ih _ _ _ (by rw [e]; exact c.2) (by rw [e]; omega)
        · rw [rwlM_f (by rw [e]; exact q), rwlM_f (by rw [e]; exact q)]
    · rw [if_neg h0, if_neg h0]
theorem rlM_one {N : Int → Int} {k : Int} {j n : Nat} {f l : Int} {z : ZS} (h0 : 0 ≤ zAt z.1) (h5 : zAt z.1 ≤ 500) (hz : zFt z.1 = 0) (hc : ¬ codY z.1 = 3) : rlM N k j n f l z = rlM N k j n (if f < 0 then (snM z : Int) else f) (snM z) (nxM l (snM z) (rpM N n (stM N n) (swY k) j (if f < 0 then 1 else 0) z)) := by
  have e : (nxM l (snM z) (rpM N n (stM N n) (swY k) j (if f < 0 then 1 else 0) z)).1 = rpaY n (stY n) (swY k) (if f < 0 then 1 else 0) z.1 := lf_nx.trans (lf_rp lf_st)
  have p := @pg_rpa n (swY k) (if f < 0 then 1 else 0) z.1
  unfold rlM
  rw [rwlM, if_pos hz, if_neg hc]
  by_cases q : zFt (rpaY n (stY n) (swY k) (if f < 0 then 1 else 0) z.1) = 0
  · have a := p.2 h5 q
    have c := p.1.2 h5
    exact rwlM_fu 500 _ _ _ (by rw [e]; exact c.2) (by rw [e]; omega)
  · rw [rwlM_f (by rw [e]; exact q), rwlM_f (by rw [e]; exact q)]
theorem rlM_no {N : Int → Int} {k : Int} {j n : Nat} {f l : Int} {z : ZS} (hc : codY z.1 = 3) : rlM N k j n f l z = (z, f) := by
  unfold rlM
  rw [rwlM, if_pos hc]
  split <;> rfl
/-- a part of a row -/
theorem pc_one {N : Int → Int} {a : FrZ} {F : List FrZ} {n : Nat} {z : ZS} (h : rwkY a.1) (h0 : 0 ≤ zAt z.1) (h5 : zAt z.1 ≤ 500) (hz : zFt z.1 = 0) (hc : ¬ codY z.1 = 3) : pcM N (a :: F) n z = sfM N (paF a (snM z) :: F) n (rpM N n (stM N n) (swY a.1) (rjM a.1 a.2.2.1) (if a.2.2.2.1.getD 0 0 < 0 then 1 else 0) z) := by
  rw [pc_rowM h, rlM_one h0 h5 hz hc, sf_rowM (a := paF a (snM z)) h, pc_rowM (a := paF a (snM z)) h]
  obtain ⟨k, j, c, x, out⟩ := a
  have e : ∀ q, ceM N k j c x out n q = ceM N k j c ((paF (k, j, c, x, out) (snM z)).2.2.2.1) out n q := by
    intro q
    have e3 : x.getD 3 0 = ((paF (k, j, c, x, out) (snM z)).2.2.2.1).getD 3 0 := by
      show _ = ([_, _, _] ++ x.drop 3).getD 3 0
      simp [List.getD, List.getElem?_drop]
    have e4 : x.getD 4 0 = ((paF (k, j, c, x, out) (snM z)).2.2.2.1).getD 4 0 := by
      show _ = ([_, _, _] ++ x.drop 3).getD 4 0
      simp [List.getD, List.getElem?_drop]
    have e5 : x.getD 5 0 = ((paF (k, j, c, x, out) (snM z)).2.2.2.1).getD 5 0 := by
      show _ = ([_, _, _] ++ x.drop 3).getD 5 0
      simp [List.getD, List.getElem?_drop]
    unfold ceM
    rw [e3, e4, e5]
  show sfM N F (n + 1) (ceM N k j c x out n _) = sfM N F (n + 1) (ceM N k j c ((paF (k, j, c, x, out) (snM z)).2.2.2.1) out n _)
  rw [e]
  rfl
