/-! the steps of S's, with what they lay -/
theorem xp_yM {c : Int} {z : ZS} (h : codY z.1 = c) : xpM c z = accM z := by
  unfold xpM accM
  rw [xp_y h]
/-- the frame of an S that begins at z -/
def frB (k : Int) (z : ZS) (x : List Int) : FrZ := (k, snM z, (cnM z, tnM z), x, z.2.2.2.1.1)
theorem rwM_s {N : Int → Int} {n : Nat} {sw : Int} {j : Nat} {z : ZS} (hn : 1 ≤ n) : rwM N n sw j z = rwlM N n (stM N n) sw j 501 (-1) (-1) z := by
  cases n with
  | zero => omega
  | succ n => rfl
theorem ce_0 {N : Int → Int} {j : Nat} {c : Nat × Nat} {x : List Int} {out : List (Int × Int)} {n : Nat} {q : ZS × Int} : ceM N 0 j c x out n q = coM 54 (x.getD 4 0) 0 (x.getD 5 0) (reM j out q) := rfl
theorem ce_1 {N : Int → Int} {j : Nat} {c : Nat × Nat} {x : List Int} {out : List (Int × Int)} {n : Nat} {q : ZS × Int} : ceM N 1 j c x out n q = enM j c.1 (reM j out q) := rfl
theorem ce_8 {N : Int → Int} {j : Nat} {c : Nat × Nat} {x : List Int} {out : List (Int × Int)} {n : Nat} {q : ZS × Int} : ceM N 8 j c x out n q = swE j c.2 c.1 q := rfl
theorem ce_9 {N : Int → Int} {j : Nat} {c : Nat × Nat} {x : List Int} {out : List (Int × Int)} {n : Nat} {q : ZS × Int} : ceM N 9 j c x out n q = trE j c.2 c.1 (tr3M (rwM N n) j c.2 (n + 1) (tr2M N (rwM N n) j c.2 (n + 1) (tr1M (seM j (sBd (x.getD 3 0)) (reM (x.getD 3 0).toNat out q))))) := rfl
theorem ce_10 {N : Int → Int} {j : Nat} {c : Nat × Nat} {x : List Int} {out : List (Int × Int)} {n : Nat} {q : ZS × Int} : ceM N 10 j c x out n q = trE j c.2 c.1 (tr3M (rwM N n) j c.2 (n + 1) (seM j (sOt (x.getD 3 0)) (reM (x.getD 3 0).toNat out q))) := rfl
theorem ce_11 {N : Int → Int} {j : Nat} {c : Nat × Nat} {x : List Int} {out : List (Int × Int)} {n : Nat} {q : ZS × Int} : ceM N 11 j c x out n q = trE j c.2 c.1 (seM j (sLs (x.getD 3 0)) (reM (x.getD 3 0).toNat out q)) := rfl
/-- a row that begins -/
theorem pc_newM {N : Int → Int} {k : Int} {j : Nat} {c : Nat × Nat} {y : List Int} {out : List (Int × Int)} {F : List FrZ} {n : Nat} {z : ZS} (h : rwkY k) (hn : 1 ≤ n) : pcM N ((k, j, c, [-1, -1, -1] ++ y, out) :: F) n z = sfM N F (n + 1) (ceM N k j c ([-1, -1, -1] ++ y) out n (rwM N n (swY k) (rjM k c) z)) := by
  rw [pc_rowM h, rwM_s hn]
  rfl
theorem re_3 {jb : Nat} {out : List (Int × Int)} {z : ZS} {f : Int} (hc : codY z.1 = 3) : reM jb out (z, f) = accM (veM (zAt z.1) out (unM jb (seM jb (sBd f) z))) := by
  show xpM 3 (veM (zAt z.1) out (unM jb (seM jb (sBd f) z))) = _
  exact xp_yM hc
/-- behind a row's last part -/
theorem pc_closeM {N : Int → Int} {a : FrZ} {F : List FrZ} {n : Nat} {z : ZS} (h : rwkY a.1) (hc : codY z.1 = 3) : pcM N (a :: F) n z = clF N a F n (z, a.2.2.2.1.getD 0 0) := by
  rw [pc_rowM h, rlM_no hc]
theorem cl_0M {N : Int → Int} {j : Nat} {c : Nat × Nat} {x : List Int} {out : List (Int × Int)} {F : List FrZ} {n : Nat} {z : ZS} (hc : codY z.1 = 3) : clF N (0, j, c, x, out) F n (z, x.getD 0 0) = sfM N F (n + 1) (coM 54 (x.getD 4 0) 0 (x.getD 5 0) (accM (veM (zAt z.1) out (unM j (seM j (sBd (x.getD 0 0)) z))))) := by
  show sfM N F (n + 1) (ceM N 0 j c x out n (z, x.getD 0 0)) = _
  rw [ce_0, re_3 hc]
theorem cl_1M {N : Int → Int} {j : Nat} {c : Nat × Nat} {x : List Int} {out : List (Int × Int)} {F : List FrZ} {n : Nat} {z : ZS} (hc : codY z.1 = 3) : clF N (1, j, c, x, out) F n (z, x.getD 0 0) = sfM N F (n + 1) (enM j c.1 (accM (veM (zAt z.1) out (unM j (seM j (sBd (x.getD 0 0)) z))))) := by
  show sfM N F (n + 1) (ceM N 1 j c x out n (z, x.getD 0 0)) = _
  rw [ce_1, re_3 hc]
theorem cl_8M {N : Int → Int} {j : Nat} {c : Nat × Nat} {x : List Int} {out : List (Int × Int)} {F : List FrZ} {n : Nat} {z : ZS} (hc : codY z.1 = 3) (ho : knS z j = out) : clF N (8, j, c, x, out) F n (z, x.getD 0 0) = sfM N F (n + 1) ((fun z1 => enM j c.1 (coM 40 c.2 0 (fiS z1 j) z1)) (accM (veM (zAt z.1) out (unM j (seM j (sBd (x.getD 0 0)) z))))) := by
  show sfM N F (n + 1) (ceM N 8 j c x out n (z, x.getD 0 0)) = _
  rw [ce_8]
  unfold swE
  dsimp only
  rw [ho, xp_yM (z := veM (zAt z.1) out (unM j (seM j (sBd (x.getD 0 0)) z))) hc]
/-- what stands ahead of catch, finally -/
def t9M (j : Nat) (x : List Int) (out : List (Int × Int)) (z : ZS) : ZS := accM (veM (zAt z.1) out (unM (x.getD 3 0).toNat (seM (x.getD 3 0).toNat (sBd (x.getD 0 0)) z)))
theorem cl_9M {N : Int → Int} {j : Nat} {c : Nat × Nat} {x : List Int} {out : List (Int × Int)} {F : List FrZ} {n : Nat} {z : ZS} (hc : codY z.1 = 3) : clF N (9, j, c, x, out) F n (z, x.getD 0 0) = sfM N F (n + 1) (trE j c.2 c.1 (tr3M (rwM N n) j c.2 (n + 1) (tr2M N (rwM N n) j c.2 (n + 1) (tr1M (seM j (sBd (x.getD 3 0)) (t9M j x out z)))))) := by
  show sfM N F (n + 1) (ceM N 9 j c x out n (z, x.getD 0 0)) = _
  rw [ce_9, re_3 hc]
  rfl
theorem cl_10M {N : Int → Int} {j : Nat} {c : Nat × Nat} {x : List Int} {out : List (Int × Int)} {F : List FrZ} {n : Nat} {z : ZS} (hc : codY z.1 = 3) : clF N (10, j, c, x, out) F n (z, x.getD 0 0) = sfM N F (n + 1) (trE j c.2 c.1 (tr3M (rwM N n) j c.2 (n + 1) (seM j (sOt (x.getD 3 0)) (t9M j x out z)))) := by
  show sfM N F (n + 1) (ceM N 10 j c x out n (z, x.getD 0 0)) = _
  rw [ce_10, re_3 hc]
  rfl
theorem cl_11M {N : Int → Int} {j : Nat} {c : Nat × Nat} {x : List Int} {out : List (Int × Int)} {F : List FrZ} {n : Nat} {z : ZS} (hc : codY z.1 = 3) : clF N (11, j, c, x, out) F n (z, x.getD 0 0) = sfM N F (n + 1) (trE j c.2 c.1 (seM j (sLs (x.getD 3 0)) (t9M j x out z))) := by
  show sfM N F (n + 1) (ceM N 11 j c x out n (z, x.getD 0 0)) = _
  rw [ce_11, re_3 hc]
  rfl
theorem tr1_yM {z : ZS} (h : codY z.1 = 69 ∨ codY z.1 = 70) : tr1M z = z := by unfold tr1M; rw [if_pos h]
theorem tr1_nM {z : ZS} (h : ¬ (codY z.1 = 69 ∨ codY z.1 = 70)) : tr1M z = raiM 2 z := by unfold tr1M; rw [if_neg h]
theorem tr2_nM {N : Int → Int} {Rw : Int → Nat → ZS → ZS × Int} {j k n : Nat} {z : ZS} (h : ¬ codY z.1 = 69) : tr2M N Rw j k n z = z := by unfold tr2M; rw [if_neg h]
theorem tr3_nM {Rw : Int → Nat → ZS → ZS × Int} {j k n : Nat} {z : ZS} (h : ¬ codY z.1 = 70) : tr3M Rw j k n z = z := by unfold tr3M; rw [if_neg h]
/-- catch ( NAME ) {, finally { -/
def ctM (N : Int → Int) (j k : Nat) (z : ZS) : ZS := xpM 1 ((fun (z2 : ZS) => seM j (sLk (zVs z2.1).length) (dcM N 3 0 1 z2)) (xpM 0 (accM (caM k z))))
def bbM (n : Nat) (z : ZS) : ZS := xpM 2 (arM (snM z) (beM 92 (lvN n) z))
def fiM (k : Nat) (z : ZS) : ZS := accM (coM 52 k 0 (zAt z.1) z)
theorem tr_cat {N : Int → Int} {j : Nat} {c : Nat × Nat} {F : List FrZ} {n : Nat} {z : ZS} (hn : 1 ≤ n) (hc : codY z.1 = 69) : sfM N F (n + 1) (trE j c.2 c.1 (tr3M (rwM N n) j c.2 (n + 1) (tr2M N (rwM N n) j c.2 (n + 1) z))) = pcM N ((10, j, c, [-1, -1, -1] ++ [(snM (ctM N j c.2 z) : Int)], knS z j) :: F) n (bbM (n + 1) (ctM N j c.2 z)) := by
  rw [pc_newM (by decide) hn, ce_10]
  unfold tr2M
  rw [if_pos hc]
  rfl
theorem tr_fin {N : Int → Int} {j : Nat} {c : Nat × Nat} {F : List FrZ} {n : Nat} {z : ZS} (hn : 1 ≤ n) (hc : codY z.1 = 70) : sfM N F (n + 1) (trE j c.2 c.1 (tr3M (rwM N n) j c.2 (n + 1) z)) = pcM N ((11, j, c, [-1, -1, -1] ++ [(snM (fiM c.2 z) : Int)], knS z j) :: F) n (bbM (n + 1) (fiM c.2 z)) := by
  rw [pc_newM (by decide) hn, ce_11]
  unfold tr3M
  rw [if_pos hc]
  rfl
/-- an S begins -/
theorem stM_s {N : Int → Int} {n : Nat} {z : ZS} : stM N (n + 1) z = smM N (n + 1) (stM N n) (rwM N n) z := rfl
theorem sm_if {N : Int → Int} {F : List FrZ} {n : Nat} {z : ZS} (hc : codY z.1 = 56) : sfM N F (n + 1) (stM N (n + 1) z) = sfM N (frB 2 z [] :: F) n (stM N n (ifB N (n + 1) z)) := by
  rw [stM_s]
  unfold smM
  rw [if_pos hc]
  rfl
theorem sm_wh {N : Int → Int} {F : List FrZ} {n : Nat} {z : ZS} (hc : codY z.1 = 58) : sfM N F (n + 1) (stM N (n + 1) z) = sfM N (frB 4 z [] :: F) n (stM N n (whB N (n + 1) z)) := by
  rw [stM_s]
  unfold smM
  rw [if_neg (by omega), if_pos hc]
  rfl
theorem sm_do {N : Int → Int} {F : List FrZ} {n : Nat} {z : ZS} (hc : codY z.1 = 59) : sfM N F (n + 1) (stM N (n + 1) z) = sfM N (frB 5 z [] :: F) n (stM N n (doB (n + 1) z)) := by
  rw [stM_s]
  unfold smM
  rw [if_neg (by omega), if_neg (by omega), if_pos hc]
  rfl
theorem sm_fo {N : Int → Int} {F : List FrZ} {n : Nat} {z : ZS} (hc : codY z.1 = 60) : sfM N F (n + 1) (stM N (n + 1) z) = (fun z1 => sfM N (frB 6 z [(snM z1 : Int)] :: F) n (stM N n z1)) (foB N (snM z) (tnM z) (n + 1) (accM (bgH 60 (n + 1) z))) := by
  rw [stM_s]
  unfold smM
  rw [if_neg (by omega), if_neg (by omega), if_neg (by omega), if_pos hc]
  rfl
theorem sm_sw {N : Int → Int} {F : List FrZ} {n : Nat} {z : ZS} (hn : 1 ≤ n) (hc : codY z.1 = 61) : sfM N F (n + 1) (stM N (n + 1) z) = pcM N (frB 8 z ([-1, -1, -1] ++ []) :: F) n (swB N (n + 1) z) := by
  unfold frB
  rw [pc_newM (by decide) hn, ce_8, stM_s]
  unfold smM
  rw [if_neg (by omega), if_neg (by omega), if_neg (by omega), if_neg (by omega), if_pos hc]
  rfl
theorem sm_tr {N : Int → Int} {F : List FrZ} {n : Nat} {z : ZS} (hn : 1 ≤ n) (hc : codY z.1 = 68) : sfM N F (n + 1) (stM N (n + 1) z) = pcM N (frB 9 z ([-1, -1, -1] ++ [(snM z : Int) + 1]) :: F) n (bbM (n + 1) (trB (n + 1) z)) := by
  unfold frB
  rw [pc_newM (by decide) hn, ce_9, stM_s]
  unfold smM
  rw [if_neg (by omega), if_neg (by omega), if_neg (by omega), if_neg (by omega), if_neg (by omega), if_pos hc]
  rfl
theorem sm_bl {N : Int → Int} {F : List FrZ} {n : Nat} {z : ZS} (hn : 1 ≤ n) (hc : codY z.1 = 2) : sfM N F (n + 1) (stM N (n + 1) z) = pcM N (frB 1 z ([-1, -1, -1] ++ []) :: F) n (accM (arM (snM z) (bgH 2 (n + 1) z))) := by
  have e : xpM 2 (arM (snM z) (bgH 2 (n + 1) z)) = accM (arM (snM z) (bgH 2 (n + 1) z)) := xp_yM hc
  unfold frB
  rw [pc_newM (by decide) hn, ce_1, stM_s, ← e]
  unfold smM
  rw [if_neg (by omega), if_neg (by omega), if_neg (by omega), if_neg (by omega), if_neg (by omega), if_neg (by omega), if_pos hc]
  rfl
theorem sm_la {N : Int → Int} {F : List FrZ} {n : Nat} {z : ZS} (hc : codY z.1 = 80) (hb : cobY z.1 = 6) : sfM N F (n + 1) (stM N (n + 1) z) = sfM N (frB 7 z [] :: F) n (stM N n (laB (n + 1) z)) := by
  rw [stM_s]
  unfold smM
  rw [if_neg (by omega), if_neg (by omega), if_neg (by omega), if_neg (by omega), if_neg (by omega), if_neg (by omega), if_neg (by omega), if_neg (by omega), if_neg (by omega), if_neg (by omega), if_pos hc, if_pos hb]
  rfl
theorem sm_em {N : Int → Int} {n : Nat} {z : ZS} (hc : codY z.1 = 4) : stM N (n + 1) z = emM (n + 1) z := by
  rw [stM_s]
  unfold smM
  rw [if_neg (by omega), if_neg (by omega), if_neg (by omega), if_neg (by omega), if_neg (by omega), if_neg (by omega), if_neg (by omega), if_pos hc]
theorem sm_ju {N : Int → Int} {n : Nat} {z : ZS} (hc : codY z.1 = 64 ∨ codY z.1 = 65) : stM N (n + 1) z = juM N (codY z.1) (n + 1) z := by
  rw [stM_s]
  unfold smM
  rw [if_neg (by omega), if_neg (by omega), if_neg (by omega), if_neg (by omega), if_neg (by omega), if_neg (by omega), if_neg (by omega), if_neg (by omega), if_pos hc]
theorem sm_gi {N : Int → Int} {n : Nat} {z : ZS} (hc : codY z.1 = 66 ∨ codY z.1 = 67) : stM N (n + 1) z = giM N (codY z.1) (n + 1) z := by
  rw [stM_s]
  unfold smM
  rw [if_neg (by omega), if_neg (by omega), if_neg (by omega), if_neg (by omega), if_neg (by omega), if_neg (by omega), if_neg (by omega), if_neg (by omega), if_neg (by omega), if_pos hc]
theorem sm_xs {N : Int → Int} {n : Nat} {z : ZS} (h : ¬ codY z.1 = 56 ∧ ¬ codY z.1 = 58 ∧ ¬ codY z.1 = 59 ∧ ¬ codY z.1 = 60 ∧ ¬ codY z.1 = 61 ∧ ¬ codY z.1 = 68 ∧ ¬ codY z.1 = 2 ∧ ¬ codY z.1 = 4 ∧ ¬ codY z.1 = 64 ∧ ¬ codY z.1 = 65 ∧ ¬ codY z.1 = 66 ∧ ¬ codY z.1 = 67) (hb : ¬ (codY z.1 = 80 ∧ cobY z.1 = 6)) : stM N (n + 1) z = xsM N (n + 1) z := by
  rw [stM_s]
  unfold smM
  rw [if_neg (by omega), if_neg (by omega), if_neg (by omega), if_neg (by omega), if_neg (by omega), if_neg (by omega), if_neg (by omega), if_neg (by omega), if_neg (by omega), if_neg (by omega)]
  split
  · rw [if_neg (by omega)]
  · rfl
/-- an S ends -/
theorem sf_elseM {N : Int → Int} {j : Nat} {c : Nat × Nat} {x : List Int} {out : List (Int × Int)} {F : List FrZ} {n : Nat} {z : ZS} (hc : codY z.1 = 57) : sfM N ((2, j, c, x, out) :: F) n z = sfM N ((3, j, c, [(snM z : Int)], out) :: F) n (stM N n (arM j (accM (coM 24 c.2 0 (zAt z.1) (bdM j (j + 1) z))))) := by
  show sfM N F (n + 1) (if2M (stM N n) j c.2 c.1 (bdM j (j + 1) z)) = _
  unfold if2M
  rw [if_pos (show codY (bdM j (j + 1) z).1 = 57 from hc)]
  rfl
theorem sf_if0M {N : Int → Int} {j : Nat} {c : Nat × Nat} {x : List Int} {out : List (Int × Int)} {F : List FrZ} {n : Nat} {z : ZS} (hc : ¬ codY z.1 = 57) : sfM N ((2, j, c, x, out) :: F) n z = sfM N F (n + 1) (ifX j c.2 c.1 (bdM j (j + 1) z)) := by
  show sfM N F (n + 1) (if2M (stM N n) j c.2 c.1 (bdM j (j + 1) z)) = _
  unfold if2M
  rw [if_neg (show ¬ codY (bdM j (j + 1) z).1 = 57 from hc)]
theorem sf_3M {N : Int → Int} {j : Nat} {c : Nat × Nat} {x : List Int} {out : List (Int × Int)} {F : List FrZ} {n : Nat} {z : ZS} : sfM N ((3, j, c, x, out) :: F) n z = sfM N F (n + 1) (ifX j c.2 c.1 (unM j (seM j (sOt (x.getD 0 0)) z))) := rfl
theorem sf_4M {N : Int → Int} {j : Nat} {c : Nat × Nat} {x : List Int} {out : List (Int × Int)} {F : List FrZ} {n : Nat} {z : ZS} : sfM N ((4, j, c, x, out) :: F) n z = sfM N F (n + 1) (whE j c.2 c.1 z) := rfl
theorem sf_5M {N : Int → Int} {j : Nat} {c : Nat × Nat} {x : List Int} {out : List (Int × Int)} {F : List FrZ} {n : Nat} {z : ZS} : sfM N ((5, j, c, x, out) :: F) n z = sfM N F (n + 1) (doE N (n + 1) j c.2 c.1 z) := rfl
theorem sf_6M {N : Int → Int} {j : Nat} {c : Nat × Nat} {x : List Int} {out : List (Int × Int)} {F : List FrZ} {n : Nat} {z : ZS} : sfM N ((6, j, c, x, out) :: F) n z = sfM N F (n + 1) (foE j c.2 c.1 (x.getD 0 0).toNat z) := rfl
theorem sf_7M {N : Int → Int} {j : Nat} {c : Nat × Nat} {x : List Int} {out : List (Int × Int)} {F : List FrZ} {n : Nat} {z : ZS} : sfM N ((7, j, c, x, out) :: F) n z = sfM N F (n + 1) (laE j c.2 c.1 z) := rfl
/-- parts of rows -/
theorem rp_toM {N : Int → Int} {n : Nat} {S : ZS → ZS} {z : ZS} (h : codY z.1 = 71 ∨ (50 ≤ codY z.1 ∧ codY z.1 ≤ 54)) : rp2M N n S z = toM N n z := by unfold rp2M; rw [if_pos h]
theorem rp_stM {N : Int → Int} {n : Nat} {S : ZS → ZS} {z : ZS} (h : ¬ (codY z.1 = 71 ∨ (50 ≤ codY z.1 ∧ codY z.1 ≤ 54))) : rp2M N n S z = S z := by unfold rp2M; rw [if_neg h]
theorem rp_2M {N : Int → Int} {n : Nat} {S : ZS → ZS} {k b : Int} {js : Nat} {z : ZS} (hk : k = 8 → b = 0 ∧ ¬ codY z.1 = 62 ∧ ¬ codY z.1 = 63) : rpM N n S (swY k) js b z = rp2M N n S z := by
  unfold rpM swY
  by_cases h8 : k = 8
  · have q := hk h8
    rw [if_pos h8, if_pos rfl, if_neg (by omega), if_neg (by omega)]
  · rw [if_neg h8, if_neg (by decide)]
theorem pc_toM {N : Int → Int} {a : FrZ} {F : List FrZ} {n : Nat} {z : ZS} (h : rwkY a.1) (h0 : 0 ≤ zAt z.1) (h5 : zAt z.1 ≤ 500) (hz : zFt z.1 = 0) (hk : a.1 = 8 → 0 ≤ a.2.2.2.1.getD 0 0) (hc : codY z.1 = 71 ∨ (50 ≤ codY z.1 ∧ codY z.1 ≤ 54)) : pcM N (a :: F) n z = sfM N (paF a (snM z) :: F) n (toM N n z) := by
  rw [pc_one h h0 h5 hz (by omega), rp_2M (fun q => ⟨by rw [if_neg (by have := hk q; omega)], by omega, by omega⟩), rp_toM hc]
theorem pc_staM {N : Int → Int} {a : FrZ} {F : List FrZ} {n : Nat} {z : ZS} (h : rwkY a.1) (h0 : 0 ≤ zAt z.1) (h5 : zAt z.1 ≤ 500) (hz : zFt z.1 = 0) (hk : a.1 = 8 → 0 ≤ a.2.2.2.1.getD 0 0 ∧ ¬ codY z.1 = 62 ∧ ¬ codY z.1 = 63) (h3 : ¬ codY z.1 = 3) (hc : ¬ (codY z.1 = 71 ∨ (50 ≤ codY z.1 ∧ codY z.1 ≤ 54))) : pcM N (a :: F) n z = sfM N (paF a (snM z) :: F) n (stM N n z) := by
  rw [pc_one h h0 h5 hz h3, rp_2M (fun q => ⟨by rw [if_neg (by have := (hk q).1; omega)], (hk q).2⟩), rp_stM hc]
theorem pc_casM {N : Int → Int} {j : Nat} {c : Nat × Nat} {x : List Int} {out : List (Int × Int)} {F : List FrZ} {n : Nat} {z : ZS} (h0 : 0 ≤ zAt z.1) (h5 : zAt z.1 ≤ 500) (hz : zFt z.1 = 0) (hc : codY z.1 = 62 ∨ codY z.1 = 63) : pcM N ((8, j, c, x, out) :: F) n z = sfM N (paF (8, j, c, x, out) (snM z) :: F) n (csM N c.2 n z) := by
  rw [pc_one (show rwkY 8 by decide) h0 h5 hz (by omega)]
  have e : ∀ b, rpM N n (stM N n) (swY 8) (rjM 8 c) b z = csM N c.2 n z := by
    intro b
    unfold rpM
    rw [show swY 8 = 1 from rfl, if_pos rfl, if_pos hc]
    rfl
  rw [← e (if x.getD 0 0 < 0 then 1 else 0)]
/-- what is read of it is what was read -/
abbrev WfF (F : List FrZ) : Prop := ∀ a ∈ F, (0 ≤ a.1 ∧ a.1 ≤ 11) ∧ (a.1 = 8 → 0 ≤ a.2.2.2.1.getD 0 0)
theorem lf_rl {N : Int → Int} {k : Int} {j n : Nat} {f l : Int} {z : ZS} : (rlM N k j n f l z).1.1 = rlY k (if f < 0 then 1 else 0) n z.1 := lf_rwl lf_st 501 f l z
theorem lf_rlb {N : Int → Int} {k : Int} {j n : Nat} {f l : Int} {z : ZS} (h : k = 8 → 0 ≤ f) : (rlM N k j n f l z).1.1 = rlY k 0 n z.1 := by
  rw [lf_rl]
  by_cases q : k = 8
  · rw [if_neg (by have := h q; omega)]
  · unfold rlY swY
    rw [if_neg q]
    exact rwl_b
theorem lf_if2b {N : Int → Int} {j k c n : Nat} {z : ZS} : (if2M (stM N n) j k c (bdM j (j + 1) z)).1 = if2Y (stY n) z.1 := lf_if2 lf_st
theorem lf_doE {N : Int → Int} {n j k c : Nat} {z : ZS} : (doE N n j k c z).1 = xpY 4 (cndY n (xpY 58 z.1)) := by
  show xpY 4 (cdM N j n _).1 = _
  rw [lf_cd]
  rfl
theorem lf_ce {N : Int → Int} {k : Int} {j : Nat} {c : Nat × Nat} {x : List Int} {out : List (Int × Int)} {n : Nat} {q : ZS × Int} (h : rwkY k) : (ceM N k j c x out n q).1 = (if k = 9 then tr3Y (rwY n) (tr2Y (rwY n) (tr1Y (xpY 3 q.1.1))) else if k = 10 then tr3Y (rwY n) (xpY 3 q.1.1) else xpY 3 q.1.1) := by
  rcases h with rfl | rfl | rfl | rfl | rfl | rfl
  · rfl
  · rfl
  · rfl
  · rw [ce_9, if_pos rfl]
    show (tr3M _ _ _ _ _).1 = _
    rw [lf_tr3 lf_rw, lf_tr2 lf_rw, lf_tr1]
    rfl
  · rw [ce_10, if_neg (by decide), if_pos rfl]
    show (tr3M _ _ _ _ _).1 = _
    rw [lf_tr3 lf_rw]
    rfl
  · rfl
theorem lf_clF {N : Int → Int} {a : FrZ} {F : List FrZ} {n : Nat} {q : ZS × Int} (h : rwkY a.1) (ih : ∀ n z, (sfM N F n z).1 = sfY (F.map (·.1)) n z.1) : (clF N a F n q).1 = clY a.1 (F.map (·.1)) n q.1.1 := by
  unfold clF
  rw [ih, lf_ce h]
  unfold clY
  split
  · rfl
  split <;> rfl
theorem lf_sf {N : Int → Int} : ∀ (F : List FrZ), WfF F → ∀ (n : Nat) (z : ZS), (sfM N F n z).1 = sfY (F.map (·.1)) n z.1 := by
  intro F
  induction F with
  | nil => intro _ n z; rfl
  | cons a F ih =>
    intro hw n z
    have ih := ih (fun b hb => hw b (List.mem_cons_of_mem _ hb))
    obtain ⟨h1, h8⟩ := hw a List.mem_cons_self
    obtain ⟨k, j, c, x, out⟩ := a
    have h1 : 0 ≤ k ∧ k ≤ 11 := h1
    have h8 : k = 8 → 0 ≤ x.getD 0 0 := h8
    have hk : rwkY k ∨ k = 2 ∨ k = 3 ∨ k = 4 ∨ k = 5 ∨ k = 6 ∨ k = 7 := by omega
    rcases hk with hr | rfl | rfl | rfl | rfl | rfl | rfl
    · rw [sf_rowM hr, pc_rowM hr, lf_clF hr ih, lf_rlb h8, lf_nx]
      show _ = sfY (k :: F.map (·.1)) n z.1
      rw [sf_row hr]
    · show (sfM N F (n + 1) (if2M (stM N n) j c.2 c.1 (bdM j (j + 1) z))).1 = _
      rw [ih, lf_if2b]
      rfl
    · show (sfM N F (n + 1) _).1 = _
      rw [ih]
      rfl
    · show (sfM N F (n + 1) _).1 = _
      rw [ih]
      rfl
    · show (sfM N F (n + 1) (doE N (n + 1) j c.2 c.1 z)).1 = _
      rw [ih, lf_doE]
      rfl
    · show (sfM N F (n + 1) _).1 = _
      rw [ih]
      rfl
    · show (sfM N F (n + 1) _).1 = _
      rw [ih]
      rfl
theorem lf_pcM {N : Int → Int} {a : FrZ} {F : List FrZ} {n : Nat} {z : ZS} (h : 0 ≤ a.1 ∧ a.1 ≤ 11) (hw : WfF F) : (pcM N (a :: F) n z).1 = pcY (if a.2.2.2.1.getD 0 0 < 0 then 1 else 0) ((a :: F).map (·.1)) n z.1 := by
  by_cases hr : rwkY a.1
  · rw [pc_rowM hr, lf_clF hr (lf_sf F hw), lf_rl]
    show _ = pcY _ (a.1 :: F.map (·.1)) n z.1
    rw [pc_row hr]
  · rw [pc_stM (by omega), lf_sf (a :: F) (fun b hb => by
      rcases List.mem_cons.mp hb with rfl | hb
      · exact ⟨h, fun q => by omega⟩
      · exact hw b hb), lf_st]
    show _ = pcY _ (a.1 :: F.map (·.1)) n z.1
    rw [pc_st (by omega)]
    rfl
