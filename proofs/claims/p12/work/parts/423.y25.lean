/-! REACHED, as the class goes, is what the function of y20 says: try; all S's -/
section
variable {N : Int → Int} {z : ZS} {T : TbT} {a lv t : Int} {j k : Nat} {l : List ItZ} {q : Ps} {St : SsT} {Rw : RsT}
theorem hfa_t {b : Nat} (hk : kjS z b = 92) (hpa : paS z b = (j : Int)) : hfA z b = (decide (0 ≤ gjS z j) && !decide (gjS z j = (b : Int))) := by
  unfold hfA
  rw [hpa, Int.toNat_natCast, decide_eq_true hk, decide_eq_true (show (0 : Int) ≤ (j : Int) by omega)]
  rfl
theorem cmA_0 {i : Int} {o : Bool} : ∀ {J : List JmZ}, (∀ x ∈ J, ¬ x.1 = i) → cmA i o J = false := by
  intro J
  induction J with
  | nil => exact fun _ => rfl
  | cons x J ih =>
    intro h
    rw [cmA, if_neg (fun q => h x List.mem_cons_self q.1)]
    exact ih (fun y hy => h y (List.mem_cons_of_mem _ hy))
/-- no jump from around j leads behind j, where j + 1 is no loop -/
theorem jt_gt (hp : ∀ i, i < snM z → paS z i < (i : Int)) (hj : j < snM z) {J : List JmZ} (h : JtO z (j : Int) J) (hk : ¬ LpK (kjS z (j + 1))) (i : Nat) (hi : j < i) : ∀ x ∈ J, ¬ x.1 = (i : Int) := fun x hx e => by
  rcases h x hx with c | ⟨k, c⟩
  · omega
  · have r := ch_le hp c (by omega)
    rw [Int.toNat_natCast] at r
    exact hk (r.2 (by omega))
/-- a block of try -/
theorem rc_bk (hp : ∀ i, i < snM z → paS z i < (i : Int)) (hR : RcRo N z T Rw) (hT : JtRo N z T Rw) {p q : Ps} (hB : BkD Rw z lv (j : Int) p q) {hi : Nat} (hpj : j < p.1) (hq : q.1 ≤ hi) (K : KrD z a j hi) (hk : ¬ kjS z j = 92) (hk1 : ¬ LpK (kjS z (j + 1))) (hpa : paS z j = a) (hg : 0 ≤ gjS z j → ¬ gjS z j = (p.1 : Int) → (q.1 : Int) ≤ gjS z j) {f : Nat} {r : RR} {m : Int64} {R : ReG} (hf : 2 * (q.1 - p.1) ≤ f + 2) (hF : FrR p.1 q.1 r) (h : (dF N z T f).1 (bjS z p.1) true m = some R) {en : Bool} (hen : (hfA z p.1 && !(r.1 (gjS z j).toNat)) = !en) :
    p.1 < q.1 ∧ (rwR (rcF N z T f) z p.1 r).1 = R.1 ∧ UrD z (j : Int) (j + 1) q.1 r (rwR (rcF N z T f) z p.1 r).2 (R.2.2.1.map (fnJ en 0)) ∧ LgR z p.1 q.1 (rwR (rcF N z T f) z p.1 r).2 R.2.2.2 ∧ (rwR (rcF N z T f) z p.1 r).2.1 p.1 = R.1 ∧ ∀ i, ¬ (p.1 ≤ i ∧ i < q.1) → (rwR (rcF N z T f) z p.1 r).2.1 i = r.1 i ∧ (j < i → (rwR (rcF N z T f) z p.1 r).2.2.1 i = r.2.1 i ∧ (rwR (rcF N z T f) z p.1 r).2.2.2.1 i = r.2.2.1 i) := by
  have kz := K.1
  have jt := (jt_bk hT hB hf (by omega) h).1
  obtain ⟨L, t, hr, D⟩ := hB
  obtain ⟨s1, s2⟩ := hR _ _ _ _ hr
  have s1 : p.1 + 1 ≤ q.1 := s1
  have fj := fac_in hk hpa K.2.2.2.1
  have fb : ∀ k, FaC z q.1 k ((p.1 : Nat) : Int) := fac_bk (z := z) (hi := q.1) (j := p.1) (a := (j : Int)) D.pa (by rw [Int.toNat_natCast]; exact hg) (fun k => (fj k).mo hq)
  rw [D.bj] at h
  obtain ⟨g1, g2, g3⟩ := s2 f r true m R (by show 2 * (q.1 - (p.1 + 1)) ≤ f; omega) ⟨by omega, by show ((p.1 : Nat) : Int) < ((p.1 + 1 : Nat) : Int); omega, fb, K.2.2.2.2⟩ (hF.wd (Nat.le_succ _) (Nat.le_refl _)) h
  have g2 : UrD z ((p.1 : Nat) : Int) (p.1 + 1) q.1 r ((rcF N z T f).1 (hdI L) true r).2 R.2.2.1 := g2
  have g3 : LgR z (p.1 + 1) q.1 ((rcF N z T f).1 (hdI L) true r).2 R.2.2.2 := g3
  unfold rwR
  rw [D.bj]
  generalize (rcF N z T f).1 (hdI L) true r = o at g1 g2 g3 ⊢
  refine ⟨by omega, g1, ?_, ?_, ?_, fun i hi => ⟨?_, fun ji => ?_⟩⟩
  · show UrD z (j : Int) (j + 1) q.1 r (rrE p.1 o.1 o.2) (R.2.2.1.map (fnJ en 0))
    exact g2.bk K.2.2.2.2 (Nat.lt_succ_self _) s1 (by omega) D.pa hpj hen (fun i o => cmA_fn)
  · show LgR z p.1 q.1 (rrE p.1 o.1 o.2) R.2.2.2
    exact (g3.fr (fun i a b => if_neg (by omega))).wd (Nat.le_succ _) (Nat.le_refl _)
  · show (if p.1 = p.1 then o.1 else o.2.1 p.1) = R.1
    rw [if_pos rfl, g1]
  · show (if i = p.1 then o.1 else o.2.1 i) = _
    rw [if_neg (by omega)]
    exact g2.1 i (fun c => hi (by omega))
  · show o.2.2.1 i = r.2.1 i ∧ o.2.2.2.1 i = r.2.2.1 i
    by_cases c : q.1 ≤ i
    · exact g2.2.1 i c
    · have w := g2.2.2.1 i (by omega)
      have n := jt_gt hp (by omega) jt hk1 i ji
      rw [w.1, w.2, cmA_0 n, cmA_0 n, Bool.false_and, Bool.or_false, Bool.or_false]
      exact ⟨rfl, rfl⟩
theorem rc_ty (hp : ∀ i, i < snM z → paS z i < (i : Int)) (hR : RcRo N z T Rw) (hT : JtRo N z T Rw) {p : Nat × List ItZ} {q1 q2 q3 : Ps} {o g : Int} (B1 : BkD Rw z lv (j : Int) (j + 1, p) q1) (B2 : (o = -1 ∧ q2.1 = q1.1) ∨ (o = (q1.1 : Int) ∧ ∃ p2, BkD Rw z lv (j : Int) (q1.1, p2) q2)) (B3 : (g = -1 ∧ q3.1 = q2.1) ∨ (g = (q2.1 : Int) ∧ ∃ p3, BkD Rw z lv (j : Int) (q2.1, p3) q3)) (hk : kjS z j = 68) (hpa : paS z j = a) (hb : bjS z j = ((j + 1 : Nat) : Int)) (ho : ojS z j = o) (hg : gjS z j = g) : RcI N z T a j q3.1 := by
  intro f r m R hf K hF h
  have hk92 : ¬ kjS z j = 92 := by omega
  rw [i_68 hk] at h
  rw [in_t hk]
  unfold tyD' at h
  rw [bkD_e hb, ho, hg] at h
  obtain ⟨A, hA, h⟩ := obind h
  obtain ⟨C, hC, h⟩ := obind h
  have kz := K.1
  have fj := fac_in hk92 hpa K.2.2.2.1
  -- S's of the blocks
  obtain ⟨L1, t1, hr1, D1⟩ := id B1
  have hk1 : ¬ LpK (kjS z (j + 1)) := by
    have e : kjS z (j + 1) = 92 := D1.kj
    unfold LpK
    omega
  have l1 : j + 1 + 1 ≤ q1.1 := (hR _ _ _ _ hr1).1
  have l2 : q1.1 ≤ q2.1 := by
    rcases B2 with ⟨_, e⟩ | ⟨_, p2, L2, t2, hr2, D2⟩
    · omega
    · have : q1.1 + 1 ≤ q2.1 := (hR _ _ _ _ hr2).1
      omega
  have l3 : q2.1 ≤ q3.1 := by
    rcases B3 with ⟨_, e⟩ | ⟨_, p2, L2, t2, hr2, D2⟩
    · omega
    · have : q2.1 + 1 ≤ q3.1 := (hR _ _ _ _ hr2).1
      omega
  have gge : 0 ≤ gjS z j → (q2.1 : Int) ≤ gjS z j := fun z0 => by
    rw [hg] at z0 ⊢
    rcases B3 with ⟨e, _⟩ | ⟨e, _⟩ <;> omega
  -- the finally, first
  obtain ⟨e3, r3, J3, G3, hfin, hen, ⟨hR1, hRJ, hRG, hn3⟩, u3, lg3, fr3⟩ : ∃ (e3 : Bool) (r3 : RR) (J3 : List JmZ) (G3 : List (Nat × Int64 × Bool)), (if gjS z j < 0 then (true, r) else rwR (rcF N z T f) z (gjS z j).toNat r) = (e3, r3) ∧ (0 ≤ gjS z j → r3.1 (gjS z j).toNat = e3) ∧ (R.1 = (C.1 && e3) ∧ (∀ (i : Nat) (x : Bool), cmA i x R.2.2.1 = ((cmA i x C.2.2.1 && e3) || cmA i x J3)) ∧ R.2.2.2 = C.2.2.2 ++ G3 ∧ (gjS z j < 0 → e3 = true)) ∧ UrD z (j : Int) (j + 1) q3.1 r r3 J3 ∧ LgR z q2.1 q3.1 r3 G3 ∧ ∀ i, ¬ (q2.1 ≤ i ∧ i < q3.1) → r3.1 i = r.1 i ∧ (j < i → r3.2.1 i = r.2.1 i ∧ r3.2.2.1 i = r.2.2.1 i) := by
    rcases B3 with ⟨e, e2⟩ | ⟨e, p3, B3⟩
    · rw [e, if_pos (by decide)] at h
      cases h
      exact ⟨true, r, [], [], by rw [hg, e, if_pos (by decide)], fun c => absurd c (by rw [hg, e]; decide), ⟨(Bool.and_true _).symm, fun i x => by rw [show cmA (i : Int) x [] = false from rfl, Bool.and_true, Bool.or_false], (List.append_nil _).symm, fun _ => rfl⟩, UrD.rf, LgR.nil, fun i _ => ⟨rfl, fun _ => ⟨rfl, rfl⟩⟩⟩
    · rw [e, if_neg (by omega), bkD_e rfl] at h
      obtain ⟨D, hD, rfl⟩ := omap h
      obtain ⟨L3, t3, hr3, E3⟩ := id B3
      have hfa : hfA z q2.1 = false := by
        rw [hfa_t E3.kj E3.pa, hg, e]
        simp
      obtain ⟨b0, b1, b2, b3, b4, b5⟩ := rc_bk (en := true) hp hR hT B3 (by show j < q2.1; omega) (Nat.le_refl _) K hk92 hk1 hpa (fun _ c => absurd (hg.trans e) c) (by show 2 * (q3.1 - q2.1) ≤ f + 2; omega) (hF.wd (by show j ≤ q2.1; omega) (Nat.le_refl _)) hD (by rw [show hfA z (q2.1, p3).1 = hfA z q2.1 from rfl, hfa]; rfl)
      refine ⟨D.1, (rwR (rcF N z T f) z q2.1 r).2, D.2.2.1.map (fnJ true 0), D.2.2.2, ?_, fun _ => by rw [hg, e, Int.toNat_natCast]; exact b4, ⟨rfl, fun i x => ?_, rfl, fun c => by rw [hg, e] at c; omega⟩, b2, b3, b5⟩
      · have b1 : (rwR (rcF N z T f) z q2.1 r).1 = D.1 := b1
        rw [hg, e, if_neg (by omega), Int.toNat_natCast, ← b1]
      · show cmA (i : Int) x (C.2.2.1.map (fnJ D.1 D.2.1) ++ D.2.2.1) = _
        rw [cmA_ap, cmA_fn, cmA_fn, Bool.and_true]
  have hfb : ∀ b : Nat, kjS z b = 92 → paS z b = (j : Int) → (b : Int) < q2.1 → (r3.1 (gjS z j).toNat = e3 ∨ gjS z j < 0) → hfA z b = !(decide (gjS z j < 0)) := fun b c1 c2 c3 _ => by
    rw [hfa_t c1 c2]
    by_cases g0 : gjS z j < 0
    · rw [decide_eq_true g0, decide_eq_false (by omega)]
      rfl
    · have := gge (by omega)
      rw [decide_eq_false g0, decide_eq_true (by omega), decide_eq_false (by omega)]
      rfl
  have hnn : ∀ (b : Nat) (rr : RR), kjS z b = 92 → paS z b = (j : Int) → (b : Int) < q2.1 → (0 ≤ gjS z j → rr.1 (gjS z j).toNat = e3) → (hfA z b && !(rr.1 (gjS z j).toNat)) = !e3 := fun b rr c1 c2 c3 c4 => by
    rw [hfa_t c1 c2]
    by_cases g0 : gjS z j < 0
    · rw [decide_eq_false (by omega), hn3 g0]
      rfl
    · have := gge (by omega)
      rw [c4 (by omega), decide_eq_true (by omega), decide_eq_false (by omega)]
      rfl
  -- the body
  obtain ⟨b0, b1, b2, b3, b4, b5⟩ := rc_bk (r := r3) (en := e3) hp hR hT B1 (Nat.lt_succ_self _) (by omega) K hk92 hk1 hpa (fun c _ => by have := gge c; omega) (by show 2 * (q1.1 - (j + 1)) ≤ f + 2; omega) (fun i c1 c2 => by
    have c1 : j + 1 ≤ i := c1
    rw [((fr3 i (by omega)).2 (by omega)).1, ((fr3 i (by omega)).2 (by omega)).2]
    exact hF i (by omega) (by omega)) hA (hnn (j + 1) r3 D1.kj D1.pa (by omega) hen)
  have b1 : (rwR (rcF N z T f) z (j + 1) r3).1 = A.1 := b1
  have b2 : UrD z (j : Int) (j + 1) q1.1 r3 (rwR (rcF N z T f) z (j + 1) r3).2 (A.2.2.1.map (fnJ e3 0)) := b2
  have b3 : LgR z (j + 1) q1.1 (rwR (rcF N z T f) z (j + 1) r3).2 A.2.2.2 := b3
  have b5 : ∀ i, ¬ (j + 1 ≤ i ∧ i < q1.1) → (rwR (rcF N z T f) z (j + 1) r3).2.1 i = r3.1 i ∧ (j < i → (rwR (rcF N z T f) z (j + 1) r3).2.2.1 i = r3.2.1 i ∧ (rwR (rcF N z T f) z (j + 1) r3).2.2.2.1 i = r3.2.2.1 i) := b5
  unfold tyR
  dsimp only
  rw [hfin, hb, if_neg (show ¬ ((j + 1 : Nat) : Int) < 0 by omega), Int.toNat_natCast]
  dsimp only
  generalize rwR (rcF N z T f) z (j + 1) r3 = o1 at b1 b2 b3 b5 ⊢
  -- the catch
  obtain ⟨o2, ho2, hC1, u2, lg2⟩ : ∃ o2 : Bool × RR, (if ojS z j < 0 then o1 else (o1.1 || (rwR (rcF N z T f) z (ojS z j).toNat o1.2).1, (rwR (rcF N z T f) z (ojS z j).toNat o1.2).2)) = o2 ∧ o2.1 = C.1 ∧ (∃ K2, UrD z (j : Int) (j + 1) q2.1 r3 o2.2 K2 ∧ ∀ (i : Nat) (x : Bool), cmA i x K2 = (cmA i x C.2.2.1 && e3)) ∧ LgR z (j + 1) q2.1 o2.2 C.2.2.2 := by
    rcases B2 with ⟨e, e2⟩ | ⟨e, p2, B2⟩
    · rw [e, if_pos (by decide)] at hC
      cases hC
      exact ⟨o1, by rw [ho, e, if_pos (by decide)], b1, ⟨_, b2.wd (Nat.le_refl _) l2, fun i x => cmA_fn⟩, b3.wd (Nat.le_refl _) l2⟩
    · rw [e, if_neg (by omega), bkD_e rfl] at hC
      obtain ⟨B, hB, rfl⟩ := omap hC
      obtain ⟨L2, t2, hr2, D2⟩ := id B2
      obtain ⟨c0, c1, c2, c3, c4, c5⟩ := rc_bk (r := o1.2) (en := e3) hp hR hT B2 (by show j < q1.1; omega) (by omega) K hk92 hk1 hpa (fun c _ => gge c) (by show 2 * (q2.1 - q1.1) ≤ f + 2; omega) (fun i d1 d2 => by
        have d1 : q1.1 ≤ i := d1
        rw [((b5 i (by omega)).2 (by omega)).1, ((b5 i (by omega)).2 (by omega)).2, ((fr3 i (by omega)).2 (by omega)).1, ((fr3 i (by omega)).2 (by omega)).2]
        exact hF i (by omega) (by omega)) hB (hnn q1.1 o1.2 D2.kj D2.pa (by have : q1.1 + 1 ≤ q2.1 := (hR _ _ _ _ hr2).1; omega) (fun c => by rw [(b5 (gjS z j).toNat (by have := gge c; omega)).1]; exact hen c))
      have c1 : (rwR (rcF N z T f) z q1.1 o1.2).1 = B.1 := c1
      have c2 : UrD z (j : Int) (j + 1) q2.1 o1.2 (rwR (rcF N z T f) z q1.1 o1.2).2 (B.2.2.1.map (fnJ e3 0)) := c2
      have c3 : LgR z q1.1 q2.1 (rwR (rcF N z T f) z q1.1 o1.2).2 B.2.2.2 := c3
      have c5 : ∀ i, ¬ (q1.1 ≤ i ∧ i < q2.1) → (rwR (rcF N z T f) z q1.1 o1.2).2.1 i = o1.2.1 i := fun i hi => (c5 i hi).1
      refine ⟨(o1.1 || (rwR (rcF N z T f) z q1.1 o1.2).1, (rwR (rcF N z T f) z q1.1 o1.2).2), by rw [ho, e, if_neg (by omega), Int.toNat_natCast], by show (o1.1 || _) = (A.1 || B.1); rw [b1, c1], ⟨_, (b2.wd (Nat.le_refl _) l2).tr c2 (fun k => (fj k).mo (by omega)), fun i x => ?_⟩, ?_⟩
      · show _ = (cmA (i : Int) x (A.2.2.1 ++ B.2.2.1) && e3)
        rw [cmA_ap, cmA_fn, cmA_fn, cmA_ap]
        cases cmA (i : Int) x A.2.2.1 <;> cases cmA (i : Int) x B.2.2.1 <;> cases e3 <;> rfl
      · exact ((b3.fr (fun i d1 d2 => c5 i (by omega))).wd (Nat.le_refl _) l2).ap (c3.wd (by omega) (Nat.le_refl _))
  obtain ⟨K2, u2, hK2⟩ := u2
  have fin : ∀ x : Bool × RR, x = o2 → (x.1 && e3) = R.1 ∧ UrD z a j q3.1 r (rrE j R.1 x.2) R.2.2.1 ∧ LgR z (j + 1) q3.1 x.2 R.2.2.2 := fun x hx => by
    rw [hx]
    refine ⟨by rw [hC1, hR1], ?_, ?_⟩
    · refine (u3.tr (u2.wd (Nat.le_refl _) l3) fj).up K.2.2.2.2 (Nat.lt_succ_self _) (by omega) (by omega) hk92 hpa (fun i x _ => ?_)
      rw [hRJ i x, cmA_ap, hK2 i x, Bool.or_comm]
    · rw [hRG]
      refine (lg2.wd (Nat.le_refl _) l3).ap ((lg3.fr (fun i d1 d2 => u2.1 i (by omega))).wd (by omega) (Nat.le_refl _))
  exact fin _ ho2
end
theorem fx_le {Z : ZS} {lv a : Int} : ∀ {L : List Nat} {p q : Ps}, FxD Z lv a L p q → p.1 ≤ q.1 := fun h => (fx_sf h).2.1
theorem fi_le {Z : ZS} {lv : Int} {j : Nat} {o : Int} {p q : Ps} (h : FiD Z lv j o p q) : p.1 ≤ q.1 := by
  rcases h with ⟨_, rfl⟩ | ⟨_, t, m, hv, _, rfl⟩ | ⟨L, _, _, h⟩
  · exact Nat.le_refl _
  · exact Nat.le_succ _
  · exact fx_le h
/-- every S -/
theorem rc_jt {N : Int → Int} {M : Int} {z : ZS} {T : TbT} (hp : ∀ i, i < snM z → paS z i < (i : Int)) : ∀ n, JtSo N z T (StD N M z n) ∧ RcSo N z T (StD N M z n) := by
  intro n
  induction n with
  | zero => exact ⟨fun _ _ _ h => absurd h id, fun _ _ _ h => absurd h id⟩
  | succ n ih =>
    have hRt : JtRo N z T (RwD (StD N M z n) z (lvN n)) := jt_row ih.1 (fun _ _ _ h => st_kd h)
    have hRr : RcRo N z T (RwD (StD N M z n) z (lvN n)) := rc_row ih.2
    have all : ∀ (a : Int) (p q1 : Ps) (t : Int), InD N M (StD N M z n) (RwD (StD N M z n) z (lvN n)) z (lvN (n + 1)) a p.1 p.2.1 t (cIy 20 0 0 t :: p.2.2) q1 → p.1 < q1.1 → a < (p.1 : Int) → q1.1 ≤ snM z → lvS z p.1 ≤ 20 ∧ JtI N z T a p.1 q1.1 ∧ RcI N z T a p.1 q1.1 := by
      intro a p q1 t h lt ha hz
      have lv : lvN (n + 1) ≤ 20 := by unfold lvN; omega
      rcases h with ⟨m, r, _, R, rfl⟩ | ⟨m, ⟨v, t, _, hv⟩, rfl⟩ | ⟨R, rfl⟩ | ⟨L, hr, R⟩ | ⟨q2, hs, R, rfl⟩ | ⟨m, r, q2, _, hs, ⟨R, rfl⟩ | ⟨t2, q3, hs2, R, rfl⟩⟩ | ⟨m, r, q2, _, hs, R, rfl⟩ | ⟨m, r, q2, hs, _, R, rfl⟩ | ⟨q2, q3, q4, m2, o, g, x, f1, _, ⟨L, _, f3⟩, hs, R, rfl⟩ | ⟨m, r, L, q2, _, hr, _, R, rfl⟩ | ⟨q2, q3, q4, o, g, v, B1, B2, B3, _, R, rfl⟩ | ⟨kd, lk, t2, hk, _, R, rfl⟩ | (⟨R, rfl⟩ | ⟨m, r, _, ⟨R, rfl⟩ | ⟨R, rfl⟩⟩)
      · have e := R.kj
        exact ⟨by rw [R.lev]; exact lv, jt_lf (by omega), rc_lf (by omega)⟩
      · rcases hv with ⟨R, rfl⟩ | ⟨m0, r, x, _, R, _, rfl⟩
        · have e := R.kj
          exact ⟨by rw [R.lev]; exact lv, jt_lf (by omega), rc_lf (by omega)⟩
        · have e := R.kj
          exact ⟨by rw [R.lev]; exact lv, jt_lf (by omega), rc_lf (by omega)⟩
      · have e := R.kj
        exact ⟨by rw [R.lev]; exact lv, jt_lf (by omega), rc_lf (by omega)⟩
      · exact ⟨by rw [R.lev]; exact lv, jt_bl hp hRt hr R.kj R.pa R.bj, rc_bl hRr hr R.kj R.pa R.bj⟩
      · have h1 := jt_la hp ih.1 hs R.kj R.pa R.bj
        have h2 := rc_la ih.2 hs R.kj R.pa R.bj
        exact ⟨by rw [R.lev]; exact lv, h1, h2⟩
      · have h1 := jt_if1 hp ih.1 hs R.kj R.pa R.bj R.oj
        have h2 := rc_if1 ih.2 hs R.kj R.pa R.bj R.oj
        exact ⟨by rw [R.lev]; exact lv, h1, h2⟩
      · have h1 := jt_if2 hp ih.1 hs hs2 R.kj R.pa R.bj R.oj
        have h2 := rc_if2 ih.2 hs hs2 R.kj R.pa R.bj R.oj
        exact ⟨by rw [R.lev]; exact lv, h1, h2⟩
      · have h1 := jt_wh ih.1 hs (Nat.lt_succ_self _) (Or.inl R.kj) R.pa R.bj
        have h2 := rc_wh ih.2 hs (Nat.lt_succ_self _) (Or.inl R.kj) R.pa R.bj
        exact ⟨by rw [R.lev]; exact lv, h1, h2⟩
      · have h1 := jt_do ih.1 hs R.kj R.pa R.bj
        have h2 := rc_do ih.2 hs R.kj R.pa R.bj
        exact ⟨by rw [R.lev]; exact lv, h1, h2⟩
      · have up : p.1 < q3.1 := by
          have a1 : p.1 + 1 ≤ q2.1 := fi_le f1
          have a2 := fx_le f3
          have a2 : q2.1 ≤ q3.1 := a2
          omega
        have h1 := jt_wh ih.1 hs up (Or.inr R.kj) R.pa R.bj
        have h2 := rc_wh ih.2 hs up (Or.inr R.kj) R.pa R.bj
        exact ⟨by rw [R.lev]; exact lv, h1, h2⟩
      · have h1 := jt_sw hp hRt hr R.kj R.pa R.bj
        have h2 := rc_sw ih.2 (fun _ _ _ h => st_kd h) hr R.kj R.pa R.bj
        exact ⟨by rw [R.lev]; exact lv, h1, h2⟩
      · have B2' : (o = -1 ∧ q3.1 = q2.1) ∨ (o = (q2.1 : Int) ∧ ∃ p2, BkD (RwD (StD N M z n) z (lvN n)) z (lvN (n + 1)) (p.1 : Int) (q2.1, p2) q3) := by
          rcases B2 with ⟨e, _, e2⟩ | ⟨e, _, t2, B⟩
          · exact Or.inl ⟨e, by rw [e2]⟩
          · exact Or.inr ⟨e, _, B⟩
        have B3' : (g = -1 ∧ q4.1 = q3.1) ∨ (g = (q3.1 : Int) ∧ ∃ p3, BkD (RwD (StD N M z n) z (lvN n)) z (lvN (n + 1)) (p.1 : Int) (q3.1, p3) q4) := by
          rcases B3 with ⟨e, e2⟩ | ⟨e, t2, B⟩
          · exact Or.inl ⟨e, by rw [e2]⟩
          · exact Or.inr ⟨e, _, B⟩
        have h1 := jt_ty hp hRt B1 B2' B3' R.kj R.pa R.bj R.oj R.gj
        have h2 := rc_ty hp hRr hRt B1 B2' B3' R.kj R.pa R.bj R.oj R.gj
        exact ⟨by rw [R.lev]; exact lv, h1, h2⟩
      · have e := R.kj
        refine ⟨by rw [R.lev]; exact lv, jt_ju (by omega) R.pa hp (Nat.lt_succ_self _), rc_ju (by omega) R.pa ?_⟩
        have c := tg_ch (N := N) (z := z) (on := decide (kjS z p.1 = 65)) (lk := ljS z p.1) (snM z) (paS z p.1)
        have e2 : tjT N z p.1 = tgZ N z.2.2.1.2 (decide (kjS z p.1 = 65)) (ljS z p.1) (snM z) (paS z p.1) := rfl
        rw [e2]
        have pp := R.pa
        rcases c with c | c
        · omega
        · have := (ch_le hp c (by omega)).1
          omega
      · have e := R.kj
        exact ⟨by rw [R.lev]; exact lv, jt_lf (by omega), rc_lf (by omega)⟩
      · have e := R.kj
        exact ⟨by rw [R.lev]; exact lv, jt_lf (by omega), rc_lf (by omega)⟩
      · have e := R.kj
        exact ⟨by rw [R.lev]; exact lv, jt_lf (by omega), rc_lf (by omega)⟩
    refine ⟨fun a p q h => ?_, fun a p q h => ?_⟩
    · obtain ⟨t, q1, _, ⟨lt, _⟩, hI, rfl⟩ := h
      have lt : p.1 < q1.1 := lt
      refine ⟨lt, fun f m R hf ha hz h => ?_⟩
      have hf : 2 * (q1.1 - p.1) ≤ f + 1 := hf
      obtain ⟨_, h1, _⟩ := all a p q1 t hI lt ha hz
      obtain ⟨f, rfl⟩ : ∃ k, f = k + 1 := ⟨f - 1, by omega⟩
      rw [d_st, d_t] at h
      obtain ⟨R1, g, rfl⟩ := omap h
      exact h1 f m R1 (by omega) ha hz g
    · obtain ⟨t, q1, _, ⟨lt, _⟩, hI, rfl⟩ := h
      have lt : p.1 < q1.1 := lt
      refine ⟨lt, fun f r m R hf K hF h => ?_⟩
      have hf : 2 * (q1.1 - p.1) ≤ f + 1 := hf
      have K : KrD z a p.1 q1.1 := K
      obtain ⟨lv, _, h2⟩ := all a p q1 t hI lt K.2.1 K.1
      obtain ⟨f, rfl⟩ : ∃ k, f = k + 1 := ⟨f - 1, by omega⟩
      rw [d_st, d_t] at h
      obtain ⟨R1, g, rfl⟩ := omap h
      obtain ⟨c1, c2, c3⟩ := h2 f r m R1 (by omega) K hF g
      rw [rc_st]
      unfold stRc
      rw [if_pos rfl, if_pos lv]
      refine ⟨c1, ?_, ?_⟩
      · show UrD z a p.1 q1.1 r (rrE p.1 (inR (rcF N z T f) N z T p.1 r).1 (inR (rcF N z T f) N z T p.1 r).2) R1.2.2.1
        rw [c1]
        exact c2
      · show LgR z p.1 q1.1 (rrE p.1 (inR (rcF N z T f) N z T p.1 r).1 (inR (rcF N z T f) N z T p.1 r).2) ((p.1, m, R1.1) :: R1.2.2.2)
        rw [c1]
        exact c3.co lt
