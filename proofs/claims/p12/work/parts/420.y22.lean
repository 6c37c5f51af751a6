/-! REACHED, as the class goes, is what the function of y20 says: by kinds -/
def KrD (z : ZS) (a : Int) (j hi : Nat) : Prop := hi ≤ snM z ∧ a < (j : Int) ∧ j < hi ∧ (∀ k, FaC z hi k a) ∧ ∀ i, i < snM z → paS z i < (i : Int)
def RcO (N : Int → Int) (z : ZS) (T : TbT) (a : Int) (lo hi : Nat) (r : RR) (R : ReG) (o : Bool × RR) : Prop := o.1 = R.1 ∧ UrD z a lo hi r o.2 R.2.2.1 ∧ LgR z lo hi o.2 R.2.2.2
abbrev RcSo (N : Int → Int) (z : ZS) (T : TbT) (St : SsT) : Prop := ∀ a p q, St a p q → p.1 < q.1 ∧ ∀ (f : Nat) (r : RR) (m : Int64) (R : ReG), 2 * (q.1 - p.1) ≤ f + 1 → KrD z a p.1 q.1 → FrR p.1 q.1 r → (dF N z T f).2.2 p.1 true m = some R → RcO N z T a p.1 q.1 r R ((rcF N z T f).2.2 p.1 true r)
def KrW (z : ZS) (a : Int) (j hi : Nat) : Prop := hi ≤ snM z ∧ a < (j : Int) ∧ (∀ k, FaC z hi k a) ∧ ∀ i, i < snM z → paS z i < (i : Int)
abbrev RcRo (N : Int → Int) (z : ZS) (T : TbT) (Rw : RsT) : Prop := ∀ a L p q, Rw 0 0 a L p q → p.1 ≤ q.1 ∧ ∀ (f : Nat) (r : RR) (al : Bool) (m : Int64) (R : ReG), 2 * (q.1 - p.1) ≤ f → KrW z a p.1 q.1 → FrR p.1 q.1 r → (dF N z T f).1 (hdI L) al m = some R → RcO N z T a p.1 q.1 r R ((rcF N z T f).1 (hdI L) al r)
/-- inside of an S -/
def RcI (N : Int → Int) (z : ZS) (T : TbT) (a : Int) (j hi : Nat) : Prop := ∀ (f : Nat) (r : RR) (m : Int64) (R : ReG), 2 * (hi - j) ≤ f + 2 → KrD z a j hi → FrR j hi r → inD' (dF N z T f) N z T j m = some R → (inR (rcF N z T f) N z T j r).1 = R.1 ∧ UrD z a j hi r (rrE j R.1 (inR (rcF N z T f) N z T j r).2) R.2.2.1 ∧ LgR z (j + 1) hi (inR (rcF N z T f) N z T j r).2 R.2.2.2
section
variable {N : Int → Int} {z : ZS} {T : TbT} {a lv t : Int} {j k : Nat} {l : List ItZ} {q : Ps} {St : SsT} {Rw : RsT}
theorem KrD.w {hi : Nat} (K : KrD z a j hi) : KrW z a j hi := ⟨K.1, K.2.1, K.2.2.2⟩
theorem KrD.in_ {hi lo hi' : Nat} (K : KrD z a j hi) (hk : ¬ kjS z j = 92) (hpa : paS z j = a) (h1 : j < lo) (h2 : hi' ≤ hi) (h3 : lo < hi') : KrD z (j : Int) lo hi' := ⟨by have := K.1; omega, by omega, h3, fun k => (fac_in hk hpa K.2.2.2.1 k).mo h2, K.2.2.2.2⟩
theorem KrD.iw {hi lo hi' : Nat} (K : KrD z a j hi) (hk : ¬ kjS z j = 92) (hpa : paS z j = a) (h1 : j < lo) (h2 : hi' ≤ hi) : KrW z (j : Int) lo hi' := ⟨by have := K.1; omega, by omega, fun k => (fac_in hk hpa K.2.2.2.1 k).mo h2, K.2.2.2.2⟩
theorem rrE_2 {e : Bool} {r : RR} : rrE j e (rrE j e r) = rrE j e r := by
  unfold rrE
  refine Prod.ext (funext fun k => ?_) rfl
  show (if k = j then e else if k = j then e else r.1 k) = (if k = j then e else r.1 k)
  split <;> rfl
theorem ur_leaf {r : RR} {e : Bool} {hi : Nat} (h : j < hi) : UrD z a j hi r (rrE j e r) [] := UrD.ee UrD.rf (Nat.le_refl _) h
theorem omap {α β : Type} {o : Option α} {f : α → β} {y : β} (h : o.map f = some y) : ∃ x, o = some x ∧ f x = y := Option.map_eq_some_iff.mp h
theorem obind {α β : Type} {o : Option α} {f : α → Option β} {y : β} (h : o.bind f = some y) : ∃ x, o = some x ∧ f x = some y := Option.bind_eq_some_iff.mp h
/-- S's that neither lead anywhere nor hold others -/
theorem rc_lf (hk : kjS z j = 90 ∨ kjS z j = 94 ∨ kjS z j = 91 ∨ kjS z j = 93 ∨ kjS z j = 4 ∨ kjS z j = 66 ∨ kjS z j = 67) : RcI N z T a j (j + 1) := by
  intro f r m R hf K hF h
  rw [in_o (by omega)]
  have key : R.1 = (!(decide (kjS z j = 66)) && !(decide (kjS z j = 67))) ∧ R.2.2.1 = [] ∧ R.2.2.2 = [] := by
    have n6 : ¬ (kjS z j = 66 ∨ kjS z j = 67) → (!(decide (kjS z j = 66)) && !(decide (kjS z j = 67))) = true := fun q => by
      rw [decide_eq_false (fun e => q (Or.inl e)), decide_eq_false (fun e => q (Or.inr e))]
      rfl
    by_cases c1 : kjS z j = 90 ∨ kjS z j = 94
    · rw [i_90 c1] at h
      obtain ⟨e, _, rfl⟩ := omap h
      exact ⟨(n6 (by omega)).symm, rfl, rfl⟩
    · by_cases c2 : kjS z j = 91 ∨ kjS z j = 93
      · rw [i_91 c2] at h
        unfold tdD at h
        split at h
        · cases h
          exact ⟨(n6 (by omega)).symm, rfl, rfl⟩
        · obtain ⟨e, _, rfl⟩ := omap h
          exact ⟨(n6 (by omega)).symm, rfl, rfl⟩
      · by_cases c3 : kjS z j = 4
        · rw [i_4 c3] at h
          cases h
          exact ⟨(n6 (by omega)).symm, rfl, rfl⟩
        · have c4 : kjS z j = 66 ∨ kjS z j = 67 := by omega
          rw [i_66 c4] at h
          obtain ⟨e, _, rfl⟩ := omap h
          refine ⟨?_, rfl, rfl⟩
          rcases c4 with c4 | c4 <;> rw [c4] <;> rfl
  obtain ⟨k1, k2, k3⟩ := key
  rw [k2, k3]
  exact ⟨k1.symm, ur_leaf (Nat.lt_succ_self _), LgR.nil⟩
theorem rc_ju (hk : kjS z j = 64 ∨ kjS z j = 65) (hpa : paS z j = a) (ht : tjT N z j ≤ (j : Int)) : RcI N z T a j (j + 1) := by
  intro f r m R hf K hF h
  rw [i_64 hk] at h
  cases h
  rw [in_j hk]
  refine ⟨rfl, ?_, LgR.nil⟩
  have mv : ∀ i : Nat, i < j → tjT N z j = (i : Int) → mtF z r.1 (tjT N z j) (snM z) (j : Int) = mtP z r.1 (i : Int) a := fun i hi e => by
    have q := mtp_in (z := z) (en := r.1) (tg := (i : Int)) K.2.2.2.2 (j := j) (by have := K.1; omega) (by omega) (by omega)
    rw [hpa] at q
    rw [e]
    exact q
  refine ⟨fun i q => ?_, fun i q => ?_, fun i q => ?_, ?_⟩
  · show (if i = j then false else (mkR N z j r).1 i) = _
    rw [if_neg (by omega)]
    unfold mkR
    repeat' split
    all_goals rfl
  · show (mkR N z j r).2.1 i = _ ∧ (mkR N z j r).2.2.1 i = _
    unfold mkR
    split
    · exact ⟨rfl, rfl⟩
    split
    · exact ⟨rfl, rfl⟩
    split
    · exact ⟨if_neg (by omega), rfl⟩
    · exact ⟨rfl, if_neg (by omega)⟩
  · show (mkR N z j r).2.1 i = (r.2.1 i || ((if tjT N z j = (i : Int) ∧ decide (kjS z j = 65) = false then true || false else false) && mtP z r.1 (i : Int) a)) ∧ (mkR N z j r).2.2.1 i = (r.2.2.1 i || ((if tjT N z j = (i : Int) ∧ decide (kjS z j = 65) = true then true || false else false) && mtP z r.1 (i : Int) a))
    by_cases e : tjT N z j = (i : Int)
    · have mm := mv i q e
      unfold mkR
      rw [mm, e, Int.toNat_natCast, if_neg (show ¬ ((i : Int) < 0) by omega)]
      rcases hk with hk | hk <;> rw [hk] <;> cases g : mtP z r.1 (i : Int) a <;> simp [rrB, rrC]
    · rw [if_neg (fun z => e z.1), if_neg (fun z => e z.1)]
      show (mkR N z j r).2.1 i = (r.2.1 i || false) ∧ (mkR N z j r).2.2.1 i = (r.2.2.1 i || false)
      rw [Bool.or_false, Bool.or_false]
      unfold mkR
      split
      · exact ⟨rfl, rfl⟩
      split
      · exact ⟨rfl, rfl⟩
      split
      · exact ⟨if_neg (by omega), rfl⟩
      · exact ⟨rfl, if_neg (by omega)⟩
  · show (mkR N z j r).2.2.2 = _
    unfold mkR
    repeat' split
    all_goals rfl
theorem rc_bl (hR : RcRo N z T Rw) {L : List Nat} {p : Nat × List ItZ} (hr : Rw 0 0 j L (j + 1, p) q) (hk : kjS z j = 2) (hpa : paS z j = a) (hb : bjS z j = hdI L) : RcI N z T a j q.1 := by
  intro f r m R hf K hF h
  obtain ⟨s1, s2⟩ := hR _ _ _ _ hr
  have s1 : j + 1 ≤ q.1 := s1
  rw [i_2 hk] at h
  rw [in_b hk]
  have h : (dF N z T f).1 (bjS z j) true m = some R := h
  rw [hb] at h
  obtain ⟨g1, g2, g3⟩ := s2 f r true m R (by show 2 * (q.1 - (j + 1)) ≤ f; omega) (K.iw (by omega) hpa (Nat.lt_succ_self _) (Nat.le_refl _)) (hF.wd (Nat.le_succ _) (Nat.le_refl _)) h
  show ((rcF N z T f).1 (bjS z j) true r).1 = R.1 ∧ UrD z a j q.1 r (rrE j R.1 (rrE j ((rcF N z T f).1 (bjS z j) true r).1 ((rcF N z T f).1 (bjS z j) true r).2)) R.2.2.1 ∧ LgR z (j + 1) q.1 (rrE j ((rcF N z T f).1 (bjS z j) true r).1 ((rcF N z T f).1 (bjS z j) true r).2) R.2.2.2
  rw [hb, g1, rrE_2]
  exact ⟨rfl, g2.up K.2.2.2.2 (Nat.lt_succ_self _) s1 (by have := K.1; omega) (by omega) hpa (fun _ _ _ => rfl), g3.fr (fun i a b => if_neg (by omega))⟩
theorem bdR_e {F : RcT} {b : Nat} {al : Bool} {r : RR} (h : bjS z j = (b : Int)) : bdR F z j al r = F.2.2 b al r := by
  unfold bdR
  rw [h, if_neg (by omega), Int.toNat_natCast]
theorem bdD_e {F : DzT} {b : Nat} {al : Bool} {m : Int64} (h : bjS z j = (b : Int)) : bdD F z j al m = F.2.2 b al m := by
  unfold bdD
  rw [h, if_neg (by omega), Int.toNat_natCast]
/-- a jump to j itself: gets there -/
theorem ur_j {lo hi : Nat} {r r1 : RR} {J : List JmZ} (h : UrD z (j : Int) lo hi r r1 J) (hl : j < lo) (hF : r.2.1 j = false ∧ r.2.2.1 j = false) : r1.2.1 j = cmA j false J ∧ r1.2.2.1 j = cmA j true J := by
  obtain ⟨a1, a2⟩ := h.2.2.1 j hl
  rw [a1, a2, hF.1, hF.2, mtp_e, Bool.and_true, Bool.and_true, Bool.false_or, Bool.false_or]
  exact ⟨rfl, rfl⟩
theorem rc_la (hS : RcSo N z T St) {p : Nat × List ItZ} {q1 : Ps} (hs : St j (j + 1, p) q1) (hk : kjS z j = 6) (hpa : paS z j = a) (hb : bjS z j = ((j + 1 : Nat) : Int)) : RcI N z T a j q1.1 := by
  intro f r m R hf K hF h
  obtain ⟨s1, s2⟩ := hS _ _ _ hs
  have s1 : j + 1 < q1.1 := s1
  rw [i_6 hk] at h
  rw [in_l hk]
  unfold laD' at h
  rw [bdD_e hb] at h
  obtain ⟨R1, h1, rfl⟩ := omap h
  obtain ⟨g1, g2, g3⟩ := s2 f r m R1 (by show 2 * (q1.1 - (j + 1)) ≤ f + 1; omega) (K.in_ (by omega) hpa (Nat.lt_succ_self _) (Nat.le_refl _) s1) (hF.wd (Nat.le_succ _) (Nat.le_refl _)) h1
  have jj := ur_j g2 (Nat.lt_succ_self _) (hF j (Nat.le_refl _) (by omega))
  unfold laR
  rw [bdR_e hb]
  refine ⟨?_, ?_, g3⟩
  · show (_ || _) = (_ || _)
    rw [g1, jj.1]
  · exact g2.up K.2.2.2.2 (Nat.lt_succ_self _) (Nat.le_of_lt s1) (by have := K.1; omega) (by omega) hpa (fun i o hi => cmA_ne (fun q => by have := q.1; omega))
theorem rc_if1 (hS : RcSo N z T St) {p : Nat × List ItZ} {q1 : Ps} (hs : St j (j + 1, p) q1) (hk : kjS z j = 56) (hpa : paS z j = a) (hb : bjS z j = ((j + 1 : Nat) : Int)) (ho : ojS z j = -1) : RcI N z T a j q1.1 := by
  intro f r m R hf K hF h
  obtain ⟨s1, s2⟩ := hS _ _ _ hs
  have s1 : j + 1 < q1.1 := s1
  rw [i_56 hk] at h
  rw [in_i hk]
  unfold ifD' at h
  obtain ⟨e, _, h⟩ := obind h
  rw [bdD_e hb, ho] at h
  obtain ⟨R1, h1, h⟩ := obind h
  rw [if_pos (by decide)] at h
  cases h
  obtain ⟨g1, g2, g3⟩ := s2 f r e.1 R1 (by show 2 * (q1.1 - (j + 1)) ≤ f + 1; omega) (K.in_ (by omega) hpa (Nat.lt_succ_self _) (Nat.le_refl _) s1) (hF.wd (Nat.le_succ _) (Nat.le_refl _)) h1
  unfold ifR
  rw [bdR_e hb, ho]
  exact ⟨rfl, g2.up K.2.2.2.2 (Nat.lt_succ_self _) (Nat.le_of_lt s1) (by have := K.1; omega) (by omega) hpa (fun _ _ _ => rfl), g3⟩
theorem rc_if2 (hS : RcSo N z T St) {p : Nat × List ItZ} {q1 q2 : Ps} {p2 : Nat × List ItZ} (hs : St j (j + 1, p) q1) (hs2 : St j (q1.1, p2) q2) (hk : kjS z j = 56) (hpa : paS z j = a) (hb : bjS z j = ((j + 1 : Nat) : Int)) (ho : ojS z j = (q1.1 : Int)) : RcI N z T a j q2.1 := by
  intro f r m R hf K hF h
  obtain ⟨s1, s2⟩ := hS _ _ _ hs
  have s1 : j + 1 < q1.1 := s1
  obtain ⟨u1, u2⟩ := hS _ _ _ hs2
  have u1 : q1.1 < q2.1 := u1
  rw [i_56 hk] at h
  rw [in_i hk]
  unfold ifD' at h
  obtain ⟨e, _, h⟩ := obind h
  rw [bdD_e hb, ho] at h
  obtain ⟨R1, h1, h⟩ := obind h
  rw [if_neg (by omega), Int.toNat_natCast] at h
  obtain ⟨R2, h2, rfl⟩ := omap h
  obtain ⟨g1, g2, g3⟩ := s2 f r e.1 R1 (by show 2 * (q1.1 - (j + 1)) ≤ f + 1; omega) (K.in_ (by omega) hpa (Nat.lt_succ_self _) (Nat.le_of_lt u1) s1) (hF.wd (Nat.le_succ _) (Nat.le_of_lt u1)) h1
  have g2 : UrD z (j : Int) (j + 1) q1.1 r ((rcF N z T f).2.2 (j + 1) true r).2 R1.2.2.1 := g2
  have g3 : LgR z (j + 1) q1.1 ((rcF N z T f).2.2 (j + 1) true r).2 R1.2.2.2 := g3
  have g1 : ((rcF N z T f).2.2 (j + 1) true r).1 = R1.1 := g1
  unfold ifR
  rw [bdR_e hb, ho]
  dsimp only
  rw [if_neg (by omega), Int.toNat_natCast]
  generalize (rcF N z T f).2.2 (j + 1) true r = o1 at g1 g2 g3 ⊢
  obtain ⟨w1, w2, w3⟩ := u2 f o1.2 e.2 R2 (by show 2 * (q2.1 - q1.1) ≤ f + 1; omega) (K.in_ (by omega) hpa (by show j < q1.1; omega) (Nat.le_refl _) u1) ((hF.wd (Nat.le_succ _) (Nat.le_refl _)).nx g2 (by omega)) h2
  have w1 : ((rcF N z T f).2.2 q1.1 true o1.2).1 = R2.1 := w1
  have w2 : UrD z (j : Int) q1.1 q2.1 o1.2 ((rcF N z T f).2.2 q1.1 true o1.2).2 R2.2.2.1 := w2
  have w3 : LgR z q1.1 q2.1 ((rcF N z T f).2.2 q1.1 true o1.2).2 R2.2.2.2 := w3
  generalize (rcF N z T f).2.2 q1.1 true o1.2 = o2 at w1 w2 w3 ⊢
  refine ⟨?_, ?_, ?_⟩
  · show (o2.1 || o1.1) = (R2.1 || R1.1)
    rw [w1, g1]
  · exact ((g2.wd (Nat.le_refl _) (Nat.le_of_lt u1)).tr (w2.wd (by omega) (Nat.le_refl _)) (fac_in (by omega) hpa K.2.2.2.1)).up K.2.2.2.2 (Nat.lt_succ_self _) (by omega) (by have := K.1; omega) (by omega) hpa (fun _ _ _ => rfl)
  · exact ((g3.fr (fun i a b => w2.1 i (by omega))).wd (Nat.le_refl _) (Nat.le_of_lt u1)).ap (w3.wd (by omega) (Nat.le_refl _))
end
