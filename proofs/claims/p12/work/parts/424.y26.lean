/-! SURELY assigned, as the class goes, is what the function of y20 says: pieces -/
theorem b64_e {a b : Int64} (h : ∀ i, i < 64 → a.toBitVec.getLsbD i = b.toBitVec.getLsbD i) : a = b := Int64.toBitVec_inj.mp (BitVec.eq_of_getLsbD_eq h)
theorem allB_g {i : Nat} (h : i < 64) : allB.toBitVec.getLsbD i = true := by
  have e : allB.toBitVec = BitVec.allOnes 64 := by decide
  rw [e, BitVec.getLsbD_allOnes]
  exact decide_eq_true h
theorem b64_and {a b : Int64} {i : Nat} : (a &&& b).toBitVec.getLsbD i = (a.toBitVec.getLsbD i && b.toBitVec.getLsbD i) := by
  rw [Int64.toBitVec_and, BitVec.getLsbD_and]
theorem b64_or {a b : Int64} {i : Nat} : (a ||| b).toBitVec.getLsbD i = (a.toBitVec.getLsbD i || b.toBitVec.getLsbD i) := by
  rw [Int64.toBitVec_or, BitVec.getLsbD_or]
theorem an_as {a b c : Int64} : (a &&& b) &&& c = a &&& (b &&& c) := b64_e (fun i _ => by rw [b64_and, b64_and, b64_and, b64_and, Bool.and_assoc])
theorem an_co {a b : Int64} : a &&& b = b &&& a := b64_e (fun i _ => by rw [b64_and, b64_and, Bool.and_comm])
theorem an_al {a : Int64} : a &&& allB = a := b64_e (fun i h => by rw [b64_and, allB_g h, Bool.and_true])
theorem al_an {a : Int64} : allB &&& a = a := by rw [an_co, an_al]
theorem or_al {a : Int64} : a ||| allB = allB := b64_e (fun i h => by rw [b64_or, allB_g h, Bool.or_true])
theorem al_or {a : Int64} : allB ||| a = allB := b64_e (fun i h => by rw [b64_or, allB_g h, Bool.true_or])
theorem or_ze {a : Int64} : a ||| zerB = a := b64_e (fun i h => by
  have e : zerB.toBitVec = 0#64 := by decide
  rw [b64_or, e, BitVec.getLsbD_zero, Bool.or_false])
theorem or_co {a b : Int64} : a ||| b = b ||| a := b64_e (fun i _ => by rw [b64_or, b64_or, Bool.or_comm])
theorem an_id {a : Int64} : a &&& a = a := b64_e (fun i _ => by rw [b64_and, Bool.and_self])
/-! what an exp makes does not look at whether an ERROR is told -/
def weq (w v : WzS) (b : Bool) : Prop := w.1 = v.1 ∧ w.2.1 = v.2.1 ∧ w.2.2.1 = v.2.2.1 ∧ w.2.2.2 = (b || v.2.2.2)
section
variable {w v : WzS} {b : Bool} {t : TvT} {m n : Int64}
theorem weq.er (h : weq w v b) : weq (erW w) (erW v) b := ⟨h.1, h.2.1, h.2.2.1, by show true = (b || true); cases b <;> rfl⟩
theorem weq.jn (h : weq w v b) : weq (jnT t m w) (jnT t m v) b := by
  obtain ⟨h1, h2, h3, h4⟩ := h
  unfold jnT weq
  rw [h1, h2]
  exact ⟨rfl, rfl, h3, h4⟩
theorem weq.tk {lk : Int} (h : weq w v b) : weq (tkW t lk w) (tkW t lk v) b := by
  unfold tkW
  refine weq.jn ?_
  rw [h.1, h.2.1]
  split
  · exact h.er
  · exact h
theorem weq.to (h : weq w v b) : weq (toA m w) (toA m v) b := by
  unfold toA
  rw [h.2.2.1]
  split
  · exact ⟨h.1, h.2.1, rfl, h.2.2.2⟩
  · exact h
theorem weq.fr (h : weq w v b) : (frA w).1 = (frA v).1 ∧ weq (frA w).2 (frA v).2 b := by
  cases e : v.2.2.1 with
  | nil =>
    rw [frA_n e, frA_n (h.2.2.1.trans e)]
    exact ⟨rfl, h⟩
  | cons m l =>
    rw [frA_c e, frA_c (h.2.2.1.trans e)]
    exact ⟨rfl, h.1, h.2.1, rfl, h.2.2.2⟩
theorem weq.be (h : weq w v b) : weq (beW m w) (beW m v) b := ⟨rfl, rfl, h.2.2⟩
theorem weq.fk (h : weq w v b) (e1 : m = n) : weq (fkW m w.1 w) (fkW n v.1 v) b := by
  rw [e1, h.1]
  exact (h.to).be
theorem weq.fk2 (h : weq w v b) (e1 : m = n) : weq (fkW m w.2.1 w) (fkW n v.2.1 v) b := by
  rw [e1, h.2.1]
  exact (h.to).be
theorem weq.el (h : weq w v b) : weq (elW w) (elW v) b := by
  unfold elW
  obtain ⟨f1, f2⟩ := h.fr
  dsimp only
  rw [f1, f2.1, f2.2.1]
  exact (f2.to.to).be
theorem weq.af (h : weq w v b) : weq (andF w) (andF v) b := by
  unfold andF
  obtain ⟨f1, f2⟩ := h.fr
  dsimp only
  exact ⟨f2.1, by show (frA w).2.2.1 &&& _ = (frA v).2.2.1 &&& _; rw [f1, f2.2.1], f2.2.2⟩
theorem weq.at (h : weq w v b) : weq (andT w) (andT v) b := by
  unfold andT
  obtain ⟨f1, f2⟩ := h.fr
  dsimp only
  exact ⟨by show (frA w).2.1 &&& _ = (frA v).2.1 &&& _; rw [f1, f2.1], f2.2⟩
theorem weq.pa {x : XrZ} (h : weq w v b) : weq (paW x t w) (paW x t v) b := by
  unfold paW
  split
  · exact h
  split
  · split
    · exact h.fk h.2.1
    · exact h.fk2 h.1
  split
  · exact h.fk h.2.1
  split
  · exact h.el
  split
  · exact h.af.at
  split
  · unfold chW
    split
    · exact h.af
    split
    · exact h.at
    · exact h.jn
  split
  · split
    · exact ⟨h.2.1, h.1, h.2.2⟩
    · exact h
  split
  · exact h.tk
  split
  · exact h.jn
  · exact h.jn
end
theorem bxl_w {z : ZS} {T : TbT} {b : Bool} : ∀ (n k : Nat) (w v : WzS), weq w v b → weq (bxL z T n k w) (bxL z T n k v) b := by
  intro n
  induction n with
  | zero => exact fun _ _ _ h => h
  | succ n ih => exact fun k w v h => ih _ _ _ h.pa
/-- an exp by its number: with whatever was told before -/
theorem bx_e {z : ZS} {T : TbT} {x : Int} {m : Int64} {w : WzS} : weq (bxW z T x m w) (bxW z T x m (m, m, [], false)) w.2.2.2 := by
  have h0 : weq (m, m, [], w.2.2.2) (m, m, [], false) w.2.2.2 := ⟨rfl, rfl, rfl, (Bool.or_false _).symm⟩
  unfold bxW
  split
  · exact h0
  · exact bxl_w _ _ _ _ h0
theorem ex_some {z : ZS} {T : TbT} {x : Int} {m : Int64} {w : WzS} {e : Int64 × Int64} (h : exD z T x m = some e) : (bxW z T x m w).1 = e.1 ∧ (bxW z T x m w).2.1 = e.2 ∧ (bxW z T x m w).2.2.2 = w.2.2.2 := by
  unfold exD at h
  split at h
  · cases h
  · rename_i c
    cases h
    obtain ⟨b1, b2, b3, b4⟩ := bx_e (z := z) (T := T) (x := x) (m := m) (w := w)
    refine ⟨b1, b2, ?_⟩
    have : (bxW z T x m (m, m, [], false)).2.2.2 = false := by cases e : (bxW z T x m (m, m, [], false)).2.2.2; rfl; exact absurd e c
    rw [b4, this, Bool.or_false]
theorem ex_none {z : ZS} {T : TbT} {x : Int} {m : Int64} {w : WzS} (h : exD z T x m = none) : (bxW z T x m w).2.2.2 = true := by
  unfold exD at h
  split at h
  · rename_i c
    rw [(bx_e (z := z) (T := T) (x := x) (m := m) (w := w)).2.2.2, c, Bool.or_true]
  · cases h
theorem ex_stk {z : ZS} {T : TbT} {x : Int} {m : Int64} {w : WzS} (h : w.2.2.2 = true) : (bxW z T x m w).2.2.2 = true := by
  rw [(bx_e (z := z) (T := T) (x := x) (m := m) (w := w)).2.2.2, h, Bool.true_or]
/-! what a jump takes along -/
section
variable {z : ZS} {hi : Nat} {bh bh' : Nat → Int64} {tg : Int}
theorem lt_ag (he : ∀ i, hi ≤ i → bh' i = bh i) : ∀ {k : Nat} {x : Int} {m : Int64}, FaC z hi k x → ltM z bh' tg k x m = ltM z bh tg k x m := by
  intro k
  induction k with
  | zero => exact fun _ => rfl
  | succ k ih =>
    intro x m h
    rw [ltM, ltM]
    by_cases c : x < 0
    · rw [if_pos c, if_pos c]
    · rw [if_neg c, if_neg c]
      rcases h with h | h
      · exact absurd h c
      · by_cases f : hfA z x.toNat = true
        · have g := h.1 f
          rw [if_pos f, if_pos f, ih h.2, he _ (by omega)]
        · rw [if_neg f, if_neg f, ih h.2]
theorem lt_fu (hp : ∀ i, i < snM z → paS z i < (i : Int)) : ∀ (k k' : Nat) (x : Int) (m : Int64), x < (k : Int) → x < (k' : Int) → x < (snM z : Int) → ltM z bh tg k x m = ltM z bh tg k' x m := by
  intro k
  induction k with
  | zero =>
    intro k' x m h1 h2 h3
    have h0 : x < 0 := h1
    rw [ltx_neg h0, ltx_neg h0]
  | succ k ih =>
    intro k' x m h1 h2 h3
    by_cases c : x < 0
    · rw [ltx_neg c, ltx_neg c]
    · obtain ⟨k', rfl⟩ : ∃ y, k' = y + 1 := ⟨k' - 1, by omega⟩
      have q := hp x.toNat (by omega)
      rw [ltM, ltM, ih k' (paS z x.toNat) _ (by omega) (by omega) (by omega)]
def ltP (z : ZS) (bh : Nat → Int64) (tg x : Int) (m : Int64) : Int64 := ltM z bh tg (snM z) x m
theorem ltp_s (hp : ∀ i, i < snM z → paS z i < (i : Int)) {j : Nat} {m : Int64} (hj : j < snM z) (h : ¬ (j : Int) = tg) : ltP z bh tg (j : Int) m = ltP z bh tg (paS z j) (if hfA z j = true then m ||| bh (gjS z (paS z j).toNat).toNat else m) := by
  unfold ltP
  obtain ⟨k, hk⟩ : ∃ k, snM z = k + 1 := ⟨snM z - 1, by omega⟩
  have q := hp j hj
  have r := ltx_s (z := z) (bh := bh) (tg := tg) (k := k) (m := m) h
  rw [← hk] at r
  rw [r, lt_fu hp (snM z) k (paS z j) _ (by omega) (by omega) (by omega)]
theorem ltp_e {m : Int64} : ltP z bh tg tg m = m := ltx_eq rfl
theorem ltp_in (hp : ∀ i, i < snM z → paS z i < (i : Int)) {j : Nat} {m : Int64} (hj : j < snM z) (h : ¬ (j : Int) = tg) (hk : ¬ kjS z j = 92) : ltP z bh tg (j : Int) m = ltP z bh tg (paS z j) m := by
  have e : hfA z j = false := by
    unfold hfA
    rw [decide_eq_false hk]
    rfl
  rw [ltp_s hp hj h, e, if_neg (by decide)]
def cmP (z : ZS) (bh : Nat → Int64) (tg : Int) (on : Bool) (a : Int) : List JmZ → Int64
  | [] => allB
  | x :: J => if x.1 = tg ∧ x.2.1 = on then ltP z bh tg a x.2.2.2 &&& cmP z bh tg on a J else cmP z bh tg on a J
theorem cmP_ap {on : Bool} {a : Int} {J K : List JmZ} : cmP z bh tg on a (J ++ K) = cmP z bh tg on a J &&& cmP z bh tg on a K := by
  induction J with
  | nil => exact al_an.symm
  | cons x J ih =>
    show (if x.1 = tg ∧ x.2.1 = on then ltP z bh tg a x.2.2.2 &&& cmP z bh tg on a (J ++ K) else cmP z bh tg on a (J ++ K)) = (if x.1 = tg ∧ x.2.1 = on then ltP z bh tg a x.2.2.2 &&& cmP z bh tg on a J else cmP z bh tg on a J) &&& cmP z bh tg on a K
    rw [ih]
    split
    · rw [an_as]
    · rfl
theorem cmP_e {on : Bool} {J : List JmZ} : cmP z bh tg on tg J = cmB tg on J := by
  induction J with
  | nil => rfl
  | cons x J ih => rw [cmP, cmB, ih, ltp_e]
theorem cmP_f {on : Bool} {a b : Int} {J : List JmZ} {g : Int64 → Int64} (h : ∀ m, ltP z bh' tg b m = ltP z bh tg a (g m)) : cmP z bh' tg on b J = cmP z bh tg on a (J.map (fun x => (x.1, x.2.1, x.2.2.1, g x.2.2.2))) := by
  induction J with
  | nil => rfl
  | cons x J ih =>
    show (if x.1 = tg ∧ x.2.1 = on then ltP z bh' tg b x.2.2.2 &&& cmP z bh' tg on b J else cmP z bh' tg on b J) = (if x.1 = tg ∧ x.2.1 = on then ltP z bh tg a (g x.2.2.2) &&& cmP z bh tg on a _ else cmP z bh tg on a _)
    rw [ih, h]
theorem cmP_g {on : Bool} {a b : Int} {J : List JmZ} (h : ∀ m, ltP z bh' tg b m = ltP z bh tg a m) : cmP z bh' tg on b J = cmP z bh tg on a J := by
  induction J with
  | nil => rfl
  | cons x J ih => rw [cmP, cmP, ih, h]
theorem cmP_ne {k a : Int} {on o : Bool} {J : List JmZ} (h : ¬ (tg = k ∧ o = on)) : cmP z bh tg o a (cmR k on J) = cmP z bh tg o a J := by
  induction J with
  | nil => rfl
  | cons x J ih =>
    rw [cmR]
    by_cases c : x.1 = k ∧ x.2.1 = on
    · rw [if_pos c, ih, cmP, if_neg (fun q => h ⟨q.1.symm.trans c.1, q.2.symm.trans c.2⟩)]
    · rw [if_neg c, cmP, cmP, ih]
theorem cmP_0 {a : Int} {o : Bool} : ∀ {J : List JmZ}, (∀ x ∈ J, ¬ x.1 = tg) → cmP z bh tg o a J = allB := by
  intro J
  induction J with
  | nil => exact fun _ => rfl
  | cons x J ih =>
    intro h
    rw [cmP, if_neg (fun q => h x List.mem_cons_self q.1)]
    exact ih (fun y hy => h y (List.mem_cons_of_mem _ hy))
end
