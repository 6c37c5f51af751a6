/-! the steps of S's -/
/-- pieces of rows -/
theorem pc_close {k b : Int} {F : List Int} {n : Nat} {s : SpC} (h : rwkY k) (hc : codY s = 3) : pcY b (k :: F) n s = clY k F n s := by
  rw [pc_row h]
  unfold rlY
  rw [rwl_no hc]
theorem cl_xp {k : Int} {F : List Int} {n : Nat} {s : SpC} (h : ¬ k = 9 ∧ ¬ k = 10) (hc : codY s = 3) : clY k F n s = sfY F (n + 1) (accY s) := by
  unfold clY
  rw [if_neg h.1, if_neg h.2, xp_y hc]
theorem cl_9 {F : List Int} {n : Nat} {s : SpC} (hc : codY s = 3) : clY 9 F n s = sfY F (n + 1) (tr3Y (rwY n) (tr2Y (rwY n) (tr1Y (accY s)))) := by
  unfold clY
  rw [if_pos rfl, xp_y hc]
theorem cl_10 {F : List Int} {n : Nat} {s : SpC} (hc : codY s = 3) : clY 10 F n s = sfY F (n + 1) (tr3Y (rwY n) (accY s)) := by
  unfold clY
  rw [if_neg (by decide), if_pos rfl, xp_y hc]
theorem rp_tol {n : Nat} {s : SpC} (h : codY s = 71 ∨ (50 ≤ codY s ∧ codY s ≤ 54)) : rp2Y n (stY n) s = xpY 4 (varY n s) := by
  unfold rp2Y
  rw [if_pos h]
theorem rp_st {n : Nat} {s : SpC} (h : ¬ (codY s = 71 ∨ (50 ≤ codY s ∧ codY s ≤ 54))) : rp2Y n (stY n) s = stY n s := by
  unfold rp2Y
  rw [if_neg h]
theorem rl_part {k b : Int} {n : Nat} {s : SpC} (h0 : 0 ≤ zAt s) (h5 : zAt s ≤ 500) (z : zFt s = 0) (hc : ¬ codY s = 3) (hk : k = 8 → b = 0 ∧ ¬ codY s = 62 ∧ ¬ codY s = 63) : rlY k b n s = rlY k 0 n (rp2Y n (stY n) s) := by
  unfold rlY
  rw [rwl_one h0 h5 z hc]
  unfold rpaY swY
  by_cases h8 : k = 8
  · have q := hk h8
    rw [if_pos h8, if_pos rfl, if_neg (by omega), if_neg (by omega)]
  · rw [if_neg h8, if_neg (by decide)]
theorem pc_tol {k b : Int} {F : List Int} {n : Nat} {s : SpC} (h : rwkY k) (h0 : 0 ≤ zAt s) (h5 : zAt s ≤ 500) (z : zFt s = 0) (hk : k = 8 → b = 0) (hc : codY s = 71 ∨ (50 ≤ codY s ∧ codY s ≤ 54)) : pcY b (k :: F) n s = pcY 0 (k :: F) n (xpY 4 (varY n s)) := by
  rw [pc_row h, pc_row h, rl_part h0 h5 z (by omega) (fun q => ⟨hk q, by omega, by omega⟩), rp_tol hc]
theorem pc_sta {k b : Int} {F : List Int} {n : Nat} {s : SpC} (h : rwkY k) (h0 : 0 ≤ zAt s) (h5 : zAt s ≤ 500) (z : zFt s = 0) (hk : k = 8 → b = 0 ∧ ¬ codY s = 62 ∧ ¬ codY s = 63) (h3 : ¬ codY s = 3) (hc : ¬ (codY s = 71 ∨ (50 ≤ codY s ∧ codY s ≤ 54))) : pcY b (k :: F) n s = sfY (k :: F) n (stY n s) := by
  rw [pc_row h, sf_row h, rl_part h0 h5 z h3 hk, rp_st hc]
theorem pc_cas {b : Int} {F : List Int} {n : Nat} {s : SpC} (h0 : 0 ≤ zAt s) (h5 : zAt s ≤ 500) (z : zFt s = 0) (hc : codY s = 62 ∨ codY s = 63) : pcY b (8 :: F) n s = pcY 0 (8 :: F) n (casY n s) := by
  rw [pc_row (by decide), pc_row (by decide)]
  unfold rlY
  rw [rwl_one h0 h5 z (by omega)]
  unfold rpaY
  rw [show swY 8 = 1 from rfl, if_pos rfl, if_pos hc]
theorem pc_sw0 {F : List Int} {n : Nat} {s : SpC} (h0 : 0 ≤ zAt s) (h5 : zAt s ≤ 500) (z : zFt s = 0) (h3 : ¬ codY s = 3) (hc : ¬ codY s = 62 ∧ ¬ codY s = 63) : GpY (raiY 2 s) (pcY 1 (8 :: F) n s) := by
  rw [pc_row (by decide)]
  unfold rlY
  rw [rwl_one h0 h5 z h3]
  unfold rpaY
  rw [show swY 8 = 1 from rfl, if_pos rfl, if_neg (show ¬ (codY s = 62 ∨ codY s = 63) by omega), if_pos rfl]
  exact ((gd_rp2 gd_st _).tr (gd_rwl gd_st _ _ _)).tr (gd_cl _)
/-- an S begins -/
theorem st_blk {F : List Int} {n : Nat} {s : SpC} (hc : codY s = 2) : sfY F (n + 1) (stY (n + 1) s) = sfY F (n + 1) (xpY 3 (rwY n 0 (accY s))) := by
  show sfY F (n + 1) (smY (n + 1) (stY n) (rwY n) s) = _
  unfold smY simY blkY
  rw [if_neg (by omega), if_neg (by omega), if_neg (by omega), if_neg (by omega), if_neg (by omega), if_neg (by omega), if_pos (by omega), if_pos hc, xp_y hc]
theorem cl_rw {k : Int} {F : List Int} {n : Nat} {s : SpC} (hn : 1 ≤ n) (hk : k = 0 ∨ k = 1 ∨ k = 8 ∨ k = 11) : sfY F (n + 1) (xpY 3 (rwY n (swY k) s)) = pcY 1 (k :: F) n s := by
  rw [pc_row (by omega), rwY_s hn]
  unfold clY rlY
  rw [if_neg (by omega), if_neg (by omega)]
theorem cl_rw9 {F : List Int} {n : Nat} {s : SpC} (hn : 1 ≤ n) : sfY F (n + 1) (tr3Y (rwY n) (tr2Y (rwY n) (tr1Y (xpY 3 (rwY n 0 s))))) = pcY 1 (9 :: F) n s := by
  rw [pc_row (by decide), rwY_s hn]
  rfl
theorem cl_rw10 {F : List Int} {n : Nat} {s : SpC} (hn : 1 ≤ n) : sfY F (n + 1) (tr3Y (rwY n) (xpY 3 (rwY n 0 s))) = pcY 1 (10 :: F) n s := by
  rw [pc_row (by decide), rwY_s hn]
  rfl
theorem st_lab {F : List Int} {n : Nat} {s : SpC} (hc : codY s = 80) (hb : cobY s = 6) : sfY F (n + 1) (stY (n + 1) s) = sfY (7 :: F) n (stY n (xpY 6 (accY s))) := by
  rw [sf_pop (by decide)]
  show sfY F (n + 1) (smY (n + 1) (stY n) (rwY n) s) = _
  unfold smY labY
  rw [if_neg (by omega), if_neg (by omega), if_neg (by omega), if_neg (by omega), if_neg (by omega), if_neg (by omega), if_neg (by omega), if_pos hc, if_pos hb]
theorem st_if {F : List Int} {n : Nat} {s : SpC} (hc : codY s = 56) : sfY F (n + 1) (stY (n + 1) s) = sfY (2 :: F) n (stY n (cndY (n + 1) (accY s))) := by
  rw [sf_if]
  show sfY F (n + 1) (smY (n + 1) (stY n) (rwY n) s) = _
  unfold smY ifY
  rw [if_pos hc]
theorem st_whi {F : List Int} {n : Nat} {s : SpC} (hc : codY s = 58) : sfY F (n + 1) (stY (n + 1) s) = sfY (4 :: F) n (stY n (cndY (n + 1) (accY s))) := by
  rw [sf_pop (by decide)]
  show sfY F (n + 1) (smY (n + 1) (stY n) (rwY n) s) = _
  unfold smY whiY
  rw [if_neg (by omega), if_pos hc]
theorem st_do {F : List Int} {n : Nat} {s : SpC} (hc : codY s = 59) : sfY F (n + 1) (stY (n + 1) s) = sfY (5 :: F) n (stY n (accY s)) := by
  rw [sf_do]
  show sfY F (n + 1) (smY (n + 1) (stY n) (rwY n) s) = _
  unfold smY doY
  rw [if_neg (by omega), if_neg (by omega), if_pos hc]
theorem st_for {F : List Int} {n : Nat} {s : SpC} (hc : codY s = 60) : sfY F (n + 1) (stY (n + 1) s) = sfY (6 :: F) n (stY n (xpY 1 (fo3Y (n + 1) (xpY 4 (fo2Y (n + 1) (xpY 4 (fo1Y (n + 1) (xpY 0 (accY s))))))))) := by
  rw [sf_pop (by decide)]
  show sfY F (n + 1) (smY (n + 1) (stY n) (rwY n) s) = _
  unfold smY forY
  rw [if_neg (by omega), if_neg (by omega), if_neg (by omega), if_pos hc]
theorem st_swi {F : List Int} {n : Nat} {s : SpC} (hc : codY s = 61) : sfY F (n + 1) (stY (n + 1) s) = sfY F (n + 1) (xpY 3 (rwY n 1 (xpY 2 (cndY (n + 1) (accY s))))) := by
  show sfY F (n + 1) (smY (n + 1) (stY n) (rwY n) s) = _
  unfold smY swiY
  rw [if_neg (by omega), if_neg (by omega), if_neg (by omega), if_neg (by omega), if_pos hc]
theorem st_try {F : List Int} {n : Nat} {s : SpC} (hc : codY s = 68) : sfY F (n + 1) (stY (n + 1) s) = sfY F (n + 1) (tr3Y (rwY n) (tr2Y (rwY n) (tr1Y (xpY 3 (rwY n 0 (xpY 2 (accY s))))))) := by
  show sfY F (n + 1) (smY (n + 1) (stY n) (rwY n) s) = _
  unfold smY tryY blkY
  rw [if_neg (by omega), if_neg (by omega), if_neg (by omega), if_neg (by omega), if_neg (by omega), if_pos hc]
theorem st_sim {n : Nat} {s : SpC} (hc : codY s = 64 ∨ codY s = 65 ∨ codY s = 66 ∨ codY s = 67) : stY (n + 1) s = xpY 4 (si3Y (codY s) (si2Y (n + 1) (codY s) (accY s))) := by
  show smY (n + 1) (stY n) (rwY n) s = _
  unfold smY simY
  rw [if_neg (by omega), if_neg (by omega), if_neg (by omega), if_neg (by omega), if_neg (by omega), if_neg (by omega), if_pos (by omega), if_neg (by omega), if_neg (by omega)]
theorem si_jmp {n : Nat} {k : Int} {s : SpC} (h : k = 64 ∨ k = 65) : si3Y k (si2Y n k s) = if codY s = 80 then accY s else s := by
  have e : si2Y n k s = s := by unfold si2Y; rw [if_neg (by omega), if_neg (by omega)]
  rw [e]
  unfold si3Y
  rw [if_neg (by omega), if_neg (by omega)]
theorem si_ret {n : Nat} {s : SpC} : si3Y 66 (si2Y n 66 s) = if codY s = 4 then s else eY n s := by
  have e : si2Y n 66 s = if codY s = 4 then s else eY n s := by unfold si2Y; rw [if_neg (by decide), if_pos rfl]
  rw [e]
  unfold si3Y
  rw [if_pos rfl]
theorem si_thr {n : Nat} {s : SpC} : si3Y 67 (si2Y n 67 s) = eY n s := by
  have e : si2Y n 67 s = eY n s := by unfold si2Y; rw [if_pos rfl]
  rw [e]
  unfold si3Y
  rw [if_neg (by decide), if_pos rfl]
theorem st_emp {n : Nat} {s : SpC} (hc : codY s = 4) : stY (n + 1) s = accY s := by
  show smY (n + 1) (stY n) (rwY n) s = _
  unfold smY simY
  rw [if_neg (by omega), if_neg (by omega), if_neg (by omega), if_neg (by omega), if_neg (by omega), if_neg (by omega), if_pos (by omega), if_neg (by omega), if_pos hc]
theorem st_exp {n : Nat} {s : SpC} (h : ¬ codY s = 56 ∧ ¬ codY s = 58 ∧ ¬ codY s = 59 ∧ ¬ codY s = 60 ∧ ¬ codY s = 61 ∧ ¬ codY s = 68 ∧ ¬ codY s = 2 ∧ ¬ codY s = 4 ∧ ¬ codY s = 64 ∧ ¬ codY s = 65 ∧ ¬ codY s = 66 ∧ ¬ codY s = 67) (hb : ¬ (codY s = 80 ∧ cobY s = 6)) : stY (n + 1) s = xpY 4 (eY (n + 1) s) := by
  show smY (n + 1) (stY n) (rwY n) s = _
  unfold smY xstY
  rw [if_neg (by omega), if_neg (by omega), if_neg (by omega), if_neg (by omega), if_neg (by omega), if_neg (by omega), if_neg (by omega)]
  split
  · rw [if_neg (by omega)]
  · rfl
/-- an S ends -/
theorem sf_else {F : List Int} {n : Nat} {s : SpC} (hc : codY s = 57) : sfY (2 :: F) n s = sfY (3 :: F) n (stY n (accY s)) := by
  rw [sf_if, sf_pop (by decide)]
  unfold if2Y
  rw [if_pos hc]
theorem sf_if0 {F : List Int} {n : Nat} {s : SpC} (hc : ¬ codY s = 57) : sfY (2 :: F) n s = sfY F (n + 1) s := by
  rw [sf_if]
  unfold if2Y
  rw [if_neg hc]
theorem tr1_y {s : SpC} (h : codY s = 69 ∨ codY s = 70) : tr1Y s = s := by unfold tr1Y; rw [if_pos h]
theorem tr1_n {s : SpC} (h : ¬ (codY s = 69 ∨ codY s = 70)) : tr1Y s = raiY 2 s := by unfold tr1Y; rw [if_neg h]
theorem tr2_n {Rw : Int → SpC → SpC} {s : SpC} (h : ¬ codY s = 69) : tr2Y Rw s = s := by unfold tr2Y; rw [if_neg h]
theorem tr3_n {Rw : Int → SpC → SpC} {s : SpC} (h : ¬ codY s = 70) : tr3Y Rw s = s := by unfold tr3Y; rw [if_neg h]
theorem tr2_y {Rw : Int → SpC → SpC} {s : SpC} (h : codY s = 69) : tr2Y Rw s = xpY 3 (Rw 0 (xpY 2 (xpY 1 (dclY 3 0 1 (xpY 0 (accY s)))))) := by unfold tr2Y blkY; rw [if_pos h]
theorem tr3_y {Rw : Int → SpC → SpC} {s : SpC} (h : codY s = 70) : tr3Y Rw s = xpY 3 (Rw 0 (xpY 2 (accY s))) := by unfold tr3Y blkY; rw [if_pos h]
/-- a variable is told -/
theorem dcl_y {ty f : Int} {s : SpC} (z : zFt s = 0) (hc : codY s = 80) (hv : ¬ 60 ≤ (zVs s).length) : dclY ty f 1 s = accY (vadY ty f s) := by
  have e : dc1Y 1 s = s := by unfold dc1Y; rw [if_pos hc, if_neg (fun q => q.elim (by decide) hv)]
  unfold dclY
  rw [e]
  unfold dc2Y
  rw [if_pos z]
theorem dc2_f {ty f n : Int} {s : SpC} (hn : ¬ n = 0) : dc2Y ty f (raiY n s) = raiY n s := by
  unfold dc2Y
  rw [if_neg (raiY_z hn)]
theorem dcl_3 {ty f : Int} {s : SpC} (hc : codY s = 80) (hv : 60 ≤ (zVs s).length) : dclY ty f 1 s = raiY 3 s := by
  have e : dc1Y 1 s = raiY 3 s := by unfold dc1Y; rw [if_pos hc, if_pos (Or.inr hv)]
  unfold dclY
  rw [e, dc2_f (by decide)]
theorem dcl_p {ty f : Int} {s : SpC} (hc : codY s = 80) : dclY ty f 0 s = raiY 3 s := by
  have e : dc1Y 0 s = raiY 3 s := by unfold dc1Y; rw [if_pos hc, if_pos (Or.inl rfl)]
  unfold dclY
  rw [e, dc2_f (by decide)]
theorem dcl_n {ty f h : Int} {s : SpC} (hc : ¬ codY s = 80) : dclY ty f h s = raiY 2 s := by
  have e : dc1Y h s = raiY 2 s := by unfold dc1Y; rw [if_neg hc]
  unfold dclY
  rw [e, dc2_f (by decide)]
