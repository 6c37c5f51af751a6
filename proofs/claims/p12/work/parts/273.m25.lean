/-! rows: what they lay -/
theorem cs_y {N : Int → Int} {js : Int} {n : Nat} {z : ZS} (h : codY z.1 = 62) : csM N js n z = xpM 6 (cxM 38 js ((cnM (exS N (snM z) n (accM (beM 62 (lvN n) z))) : Int) - 1) (zAt z.1) (exS N (snM z) n (accM (beM 62 (lvN n) z)))) := if_pos h
theorem cs_n {N : Int → Int} {js : Int} {n : Nat} {z : ZS} (h : ¬ codY z.1 = 62) : csM N js n z = xpM 6 (coM 39 js 0 (zAt z.1) (accM (beM (codY z.1) (lvN n) z))) := if_neg h
/-- behind a row of try's -/
def ctF (N : Int → Int) (a : FrZ) (F : List FrZ) (n : Nat) (z : ZS) : ZS :=
  if a.1 = 9 then sfM N F (n + 1) (trE a.2.1 a.2.2.1.2 a.2.2.1.1 (tr3M (rwM N n) a.2.1 a.2.2.1.2 (n + 1) (tr2M N (rwM N n) a.2.1 a.2.2.1.2 (n + 1) (tr1M (seM a.2.1 (sBd (a.2.2.2.1.getD 3 0)) z)))))
  else if a.1 = 10 then sfM N F (n + 1) (trE a.2.1 a.2.2.1.2 a.2.2.1.1 (tr3M (rwM N n) a.2.1 a.2.2.1.2 (n + 1) (seM a.2.1 (sOt (a.2.2.2.1.getD 3 0)) z)))
  else sfM N F (n + 1) (trE a.2.1 a.2.2.1.2 a.2.2.1.1 (seM a.2.1 (sLs (a.2.2.2.1.getD 3 0)) z))
theorem cl_ctF {N : Int → Int} {a : FrZ} {F : List FrZ} {n : Nat} {z : ZS} (h : a.1 = 9 ∨ a.1 = 10 ∨ a.1 = 11) (hc : codY z.1 = 3) : clF N a F n (z, a.2.2.2.1.getD 0 0) = ctF N a F n (t9M a.2.1 a.2.2.2.1 a.2.2.2.2 z) := by
  obtain ⟨k, j, c, x, out⟩ := a
  rcases h with h | h | h
  · have h : k = 9 := h
    subst h
    exact cl_9M hc
  · have h : k = 10 := h
    subst h
    exact cl_10M hc
  · have h : k = 11 := h
    subst h
    exact cl_11M hc
theorem lf_ctF {N : Int → Int} {σ : RS} {a : FrZ} {F : List FrZ} {n : Nat} {z : ZS} (h : a.1 = 9 ∨ a.1 = 10 ∨ a.1 = 11) (hw : WfF F) : (ctF N a F n z).1 = ctY a.1 (F.map (·.1)) n z.1 := by
  unfold ctF ctY
  rcases h with h | h | h
  · rw [if_pos h, if_pos h, lf_sf F hw]
    show sfY _ _ (tr3M _ _ _ _ _).1 = _
    rw [lf_tr3 lf_rw, lf_tr2 lf_rw, lf_tr1]
    rfl
  · have n9 : ¬ a.1 = 9 := by omega
    rw [if_neg n9, if_neg n9, if_pos h, if_pos h, lf_sf F hw]
    show sfY _ _ (tr3M _ _ _ _ _).1 = _
    rw [lf_tr3 lf_rw]
    rfl
  · have n9 : ¬ a.1 = 9 := by omega
    have n10 : ¬ a.1 = 10 := by omega
    rw [if_neg n9, if_neg n9, if_neg n10, if_neg n10, lf_sf F hw]
    rfl
theorem ct_9M {N : Int → Int} {j : Nat} {c : Nat × Nat} {x : List Int} {out : List (Int × Int)} {F : List FrZ} {n : Nat} {z : ZS} : ctF N (9, j, c, x, out) F n z = sfM N F (n + 1) (trE j c.2 c.1 (tr3M (rwM N n) j c.2 (n + 1) (tr2M N (rwM N n) j c.2 (n + 1) (tr1M (seM j (sBd (x.getD 3 0)) z))))) := rfl
theorem ct_10M {N : Int → Int} {j : Nat} {c : Nat × Nat} {x : List Int} {out : List (Int × Int)} {F : List FrZ} {n : Nat} {z : ZS} : ctF N (10, j, c, x, out) F n z = sfM N F (n + 1) (trE j c.2 c.1 (tr3M (rwM N n) j c.2 (n + 1) (seM j (sOt (x.getD 3 0)) z))) := rfl
theorem ct_11M {N : Int → Int} {j : Nat} {c : Nat × Nat} {x : List Int} {out : List (Int × Int)} {F : List FrZ} {n : Nat} {z : ZS} : ctF N (11, j, c, x, out) F n z = sfM N F (n + 1) (trE j c.2 c.1 (seM j (sLs (x.getD 3 0)) z)) := rfl
theorem lf_clb {N : Int → Int} {a : FrZ} {F : List FrZ} {n : Nat} {q : ZS × Int} (h : rwkY a.1) (hw : WfF F) : (clF N a F n q).1 = clY a.1 (F.map (·.1)) n q.1.1 := lf_clF h (lf_sf F hw)
theorem pa_0 {a : FrZ} {j : Nat} : 0 ≤ (paF a j).2.2.2.1.getD 0 0 := by
  show 0 ≤ (if a.2.2.2.1.getD 0 0 < 0 then (j : Int) else a.2.2.2.1.getD 0 0)
  split <;> omega
theorem Wf_pa {a : FrZ} {j : Nat} {F : List FrZ} (h : 0 ≤ a.1 ∧ a.1 ≤ 11) (hw : WfF F) : WfF (paF a j :: F) := by
  intro b hb
  rcases List.mem_cons.mp hb with rfl | hb
  · exact ⟨h, fun _ => pa_0⟩
  · exact hw b hb
theorem bF_0 {a : FrZ} {F : List FrZ} (h : 0 ≤ a.2.2.2.1.getD 0 0) : bF (a :: F) = 0 := if_neg (by omega)
theorem fr_01 {σ : RS} {s : SpC} {n e : Nat} {a : FrZ} {G : List Int} (h : SRx e σ s n) (p : frR σ = a.1 :: G) : 0 ≤ a.1 ∧ a.1 ≤ 11 := by
  have w := h.2.2.1.1
  rw [p] at w
  exact w.1
theorem ow_9 {a : FrZ} (h : 9 ≤ a.1 ∧ a.1 ≤ 11) : owF a = (a.2.2.2.1.getD 3 0).toNat := if_pos h
theorem ow_1 {a : FrZ} (h : ¬ (9 ≤ a.1 ∧ a.1 ≤ 11)) : owF a = a.2.1 := if_neg h
theorem fi_sk {z : ZS} {j i : Nat} {v : Int} : fiS (seM i (sOt v) z) j = fiS z j := by
  unfold fiS
  show (if j = i then _ else _ : SrZ).1.2.1 = _
  split
  · next h => rw [h]; rfl
  · rfl
theorem fi_sl {z : ZS} {j i : Nat} {v : Int} : fiS (seM i (sLs v) z) j = fiS z j := by
  unfold fiS
  show (if j = i then _ else _ : SrZ).1.2.1 = _
  split
  · next h => rw [h]; rfl
  · rfl
