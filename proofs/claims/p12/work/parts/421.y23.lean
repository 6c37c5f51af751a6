/-! REACHED, as the class goes, is what the function of y20 says: loops, switch, try; all S's -/
theorem d_fa {N : Int → Int} {z : ZS} {T : TbT} {f j : Nat} {m : Int64} (h : 1 ≤ f) : (dF N z T f).2.2 j false m = none := by
  obtain ⟨f, rfl⟩ : ∃ k, f = k + 1 := ⟨f - 1, by omega⟩
  show stD' (dF N z T f) N z T j false m = none
  exact d_f
section
variable {N : Int → Int} {z : ZS} {T : TbT} {a lv t : Int} {j k : Nat} {l : List ItZ} {q : Ps} {St : SsT} {Rw : RsT}
theorem UrD.cg {lo hi : Nat} {r r1 : RR} {J K : List JmZ} (h : UrD z a lo hi r r1 J) (e : ∀ (i : Nat) (o : Bool), i < lo → cmA i o K = cmA i o J) : UrD z a lo hi r r1 K := ⟨h.1, h.2.1, fun i q => by rw [e i false q, e i true q]; exact h.2.2.1 i q, h.2.2.2⟩
theorem rc_wh (hS : RcSo N z T St) {b : Nat} {p : Nat × List ItZ} {q1 : Ps} (hs : St j (b, p) q1) (hjb : j < b) (hk : kjS z j = 58 ∨ kjS z j = 60) (hpa : paS z j = a) (hb : bjS z j = (b : Int)) : RcI N z T a j q1.1 := by
  intro f r m R hf K hF h
  obtain ⟨s1, s2⟩ := hS _ _ _ hs
  have s1 : b < q1.1 := s1
  rw [i_58 hk] at h
  rw [in_w hk]
  unfold whD' at h
  obtain ⟨i, _, h⟩ := obind h
  obtain ⟨e, _, h⟩ := obind h
  rw [bdD_e hb] at h
  obtain ⟨R1, h1, h⟩ := obind h
  obtain ⟨u, _, rfl⟩ := omap h
  have al : alwT z T j 0 = false := by
    cases g : alwT z T j 0
    · rfl
    · rw [g] at h1
      have h1 : (dF N z T f).2.2 b false e.1 = some R1 := h1
      rw [d_fa (by omega)] at h1
      cases h1
  rw [al] at h1
  obtain ⟨g1, g2, g3⟩ := s2 f r e.1 R1 (by show 2 * (q1.1 - b) ≤ f + 1; omega) (K.in_ (by omega) hpa hjb (Nat.le_refl _) s1) (hF.wd (Nat.le_of_lt hjb) (Nat.le_refl _)) h1
  have g2 : UrD z (j : Int) b q1.1 r ((rcF N z T f).2.2 b true r).2 R1.2.2.1 := g2
  have g3 : LgR z b q1.1 ((rcF N z T f).2.2 b true r).2 R1.2.2.2 := g3
  have jj := ur_j g2 hjb (hF j (Nat.le_refl _) (by omega))
  unfold whR
  rw [bdR_e hb, al]
  refine ⟨?_, ?_, g3.wd hjb (Nat.le_refl _)⟩
  · show (_ || _) = (_ || _)
    rw [show ((rcF N z T f).2.2 b (!false) r).2.2.1 j = cmA j false R1.2.2.1 from jj.1]
  · exact g2.up K.2.2.2.2 hjb (Nat.le_of_lt s1) (by have := K.1; omega) (by omega) hpa (fun i o hi => (cmA_ne (fun q => by have := q.1; omega)).trans (cmA_ne (fun q => by have := q.1; omega)))
theorem rc_do (hS : RcSo N z T St) {p : Nat × List ItZ} {q1 : Ps} (hs : St j (j + 1, p) q1) (hk : kjS z j = 59) (hpa : paS z j = a) (hb : bjS z j = ((j + 1 : Nat) : Int)) : RcI N z T a j q1.1 := by
  intro f r m R hf K hF h
  obtain ⟨s1, s2⟩ := hS _ _ _ hs
  have s1 : j + 1 < q1.1 := s1
  rw [i_59 hk] at h
  rw [in_d hk]
  unfold doD' at h
  rw [bdD_e hb] at h
  obtain ⟨R1, h1, h⟩ := obind h
  obtain ⟨e, _, rfl⟩ := omap h
  obtain ⟨g1, g2, g3⟩ := s2 f r m R1 (by show 2 * (q1.1 - (j + 1)) ≤ f + 1; omega) (K.in_ (by omega) hpa (Nat.lt_succ_self _) (Nat.le_refl _) s1) (hF.wd (Nat.le_succ _) (Nat.le_refl _)) h1
  have jj := ur_j g2 (Nat.lt_succ_self _) (hF j (Nat.le_refl _) (by omega))
  unfold doR
  rw [bdR_e hb]
  refine ⟨?_, ?_, g3⟩
  · show (((_ || _) && _) || _) = (((_ || _) && _) || _)
    rw [g1, jj.1, jj.2]
  · exact g2.up K.2.2.2.2 (Nat.lt_succ_self _) (Nat.le_of_lt s1) (by have := K.1; omega) (by omega) hpa (fun i o hi => (cmA_ne (fun q => by have := q.1; omega)).trans (cmA_ne (fun q => by have := q.1; omega)))
theorem KrW.hd {lo hi hi' : Nat} (K : KrW z a lo hi) (h : hi' ≤ hi) (h2 : lo < hi') : KrD z a lo hi' := ⟨by have := K.1; omega, K.2.1, h2, fun k => (K.2.2.1 k).mo h, K.2.2.2⟩
theorem KrW.nx {lo lo' hi : Nat} (K : KrW z a lo hi) (h : lo ≤ lo') : KrW z a lo' hi := ⟨K.1, by have := K.2.1; omega, K.2.2⟩
/-- rows -/
theorem rc_row (hS : RcSo N z T St) : RcRo N z T (RwD St z lv) := by
  intro a L
  induction L with
  | nil =>
    intro p q h
    rw [show q = p from h]
    refine ⟨Nat.le_refl _, fun f r al m R hf K hF h => ?_⟩
    rw [show hdI [] = -1 from rfl, d_r0 (by decide)] at h
    cases h
    rw [show hdI [] = -1 from rfl, rc_r0 (by decide)]
    exact ⟨rfl, UrD.rf, LgR.nil⟩
  | cons j L ih =>
    intro p q ⟨e1, e2, p1, h1, h2⟩
    obtain ⟨i1, i2⟩ := ih p1 q h2
    rcases h1 with ⟨e, _⟩ | h1
    · exact absurd e (by decide)
    · obtain ⟨s1, s2⟩ := hS _ _ _ h1
      refine ⟨by omega, fun f r al m R hf K hF h => ?_⟩
      obtain ⟨f, rfl⟩ : ∃ k, f = k + 1 := ⟨f - 1, by omega⟩
      subst e1
      rw [show hdI (p.1 :: L) = (p.1 : Int) from rfl, d_r1, e2] at h
      obtain ⟨R1, g1, h⟩ := obind h
      obtain ⟨R2, g2, rfl⟩ := omap h
      have alt : al = true := by
        cases al
        · rw [d_fa (by omega)] at g1
          cases g1
        · rfl
      subst alt
      obtain ⟨u1, u2, u3⟩ := s2 f r m R1 (by omega) (K.hd i1 s1) (hF.wd (Nat.le_refl _) i1) g1
      rw [show hdI (p.1 :: L) = (p.1 : Int) from rfl, rc_r1, e2, u1]
      generalize (rcF N z T f).2.2 p.1 true r = o1 at u1 u2 u3 ⊢
      obtain ⟨v1, v2, v3⟩ := i2 f o1.2 R1.1 R1.2.1 R2 (by omega) (K.nx (Nat.le_of_lt s1)) (hF.nx u2 (Nat.le_of_lt s1)) g2
      refine ⟨v1, ?_, ?_⟩
      · exact (u2.wd (Nat.le_refl _) i1).tr (v2.wd (Nat.le_of_lt s1) (Nat.le_refl _)) K.2.2.1
      · exact ((u3.fr (fun i a b => v2.1 i (by omega))).wd (Nat.le_refl _) i1).ap (v3.wd (Nat.le_of_lt s1) (Nat.le_refl _))
/-- rows of a switch -/
theorem rc_srow (hS : RcSo N z T St) (hkd : ∀ a p q, St a p q → ¬ kjS z p.1 = 62 ∧ ¬ kjS z p.1 = 63) : ∀ (L : List Nat) (p q : Ps), RwD St z lv 1 k a L p q → p.1 ≤ q.1 ∧ ∀ (f : Nat) (r : RR) (al d : Bool) (m ch : Int64) (R : Bool × ReG), 2 * (q.1 - p.1) ≤ f → KrW z a p.1 q.1 → FrR p.1 q.1 r → (dF N z T f).2.1 (hdI L) ch al m d = some R → ((rcF N z T f).2.1 (hdI L) al d r).1 = R.2.1 ∧ ((rcF N z T f).2.1 (hdI L) al d r).2.1 = R.1 ∧ UrD z a p.1 q.1 r ((rcF N z T f).2.1 (hdI L) al d r).2.2 R.2.2.2.1 ∧ LgR z p.1 q.1 ((rcF N z T f).2.1 (hdI L) al d r).2.2 R.2.2.2.2 := by
  intro L
  induction L with
  | nil =>
    intro p q h
    rw [show q = p from h]
    refine ⟨Nat.le_refl _, fun f r al d m ch R hf K hF h => ?_⟩
    rw [show hdI [] = -1 from rfl, d_s0 (by decide)] at h
    cases h
    rw [show hdI [] = -1 from rfl, rc_s0 (by decide)]
    exact ⟨rfl, rfl, UrD.rf, LgR.nil⟩
  | cons j L ih =>
    intro p q ⟨e1, e2, p1, h1, h2⟩
    obtain ⟨i1, i2⟩ := ih p1 q h2
    subst e1
    rcases h1 with ⟨_, h1⟩ | h1
    · have cs : (kjS z p.1 = 62 ∨ kjS z p.1 = 63) ∧ p1.1 = p.1 + 1 := by
        rcases h1 with ⟨t, m, r, R, _, rfl⟩ | ⟨t, R, rfl⟩
        · exact ⟨Or.inl R.kj, rfl⟩
        · exact ⟨Or.inr R.kj, rfl⟩
      refine ⟨by omega, fun f r al d m ch R hf K hF h => ?_⟩
      obtain ⟨f, rfl⟩ : ∃ k, f = k + 1 := ⟨f - 1, by omega⟩
      rw [show hdI (p.1 :: L) = (p.1 : Int) from rfl, d_s1 cs.1, e2] at h
      rw [show hdI (p.1 :: L) = (p.1 : Int) from rfl, rc_s1 cs.1, e2]
      obtain ⟨v1, v2, v3, v4⟩ := i2 f r true _ _ ch R (by omega) (K.nx (by omega)) (hF.wd (by omega) (Nat.le_refl _)) h
      exact ⟨v1, v2, v3.wd (by omega) (Nat.le_refl _), v4.wd (by omega) (Nat.le_refl _)⟩
    · obtain ⟨s1, s2⟩ := hS _ _ _ h1
      have cs := hkd _ _ _ h1
      refine ⟨by omega, fun f r al d m ch R hf K hF h => ?_⟩
      obtain ⟨f, rfl⟩ : ∃ k, f = k + 1 := ⟨f - 1, by omega⟩
      rw [show hdI (p.1 :: L) = (p.1 : Int) from rfl, d_s2 (by omega), e2] at h
      obtain ⟨R1, g1, h⟩ := obind h
      obtain ⟨R2, g2, rfl⟩ := omap h
      have alt : al = true := by
        cases al
        · rw [d_fa (by omega)] at g1
          cases g1
        · rfl
      subst alt
      obtain ⟨u1, u2, u3⟩ := s2 f r m R1 (by omega) (K.hd i1 s1) (hF.wd (Nat.le_refl _) i1) g1
      rw [show hdI (p.1 :: L) = (p.1 : Int) from rfl, rc_s2 (by omega), e2, u1]
      generalize (rcF N z T f).2.2 p.1 true r = o1 at u1 u2 u3 ⊢
      obtain ⟨v1, v2, v3, v4⟩ := i2 f o1.2 R1.1 d R1.2.1 ch R2 (by omega) (K.nx (Nat.le_of_lt s1)) (hF.nx u2 (Nat.le_of_lt s1)) g2
      refine ⟨v1, v2, ?_, ?_⟩
      · exact (u2.wd (Nat.le_refl _) i1).tr (v3.wd (Nat.le_of_lt s1) (Nat.le_refl _)) K.2.2.1
      · exact ((u3.fr (fun i a b => v3.1 i (by omega))).wd (Nat.le_refl _) i1).ap (v4.wd (Nat.le_of_lt s1) (Nat.le_refl _))
theorem rc_sw (hS : RcSo N z T St) (hkd : ∀ a p q, St a p q → ¬ kjS z p.1 = 62 ∧ ¬ kjS z p.1 = 63) {L : List Nat} {p : Nat × List ItZ} {q1 : Ps} (hr : RwD St z lv 1 k j L (j + 1, p) q1) (hk : kjS z j = 61) (hpa : paS z j = a) (hb : bjS z j = hdI L) : RcI N z T a j q1.1 := by
  intro f r m R hf K hF h
  obtain ⟨s1, s2⟩ := rc_srow (N := N) (T := T) hS hkd _ _ _ hr
  have s1 : j + 1 ≤ q1.1 := s1
  rw [i_61 hk] at h
  rw [in_s hk]
  unfold swD' at h
  obtain ⟨e, _, h⟩ := obind h
  rw [hb] at h
  obtain ⟨R1, h1, rfl⟩ := omap h
  obtain ⟨g1, g2, g3, g4⟩ := s2 f r false false allB _ R1 (by show 2 * (q1.1 - (j + 1)) ≤ f; omega) (K.iw (by omega) hpa (Nat.lt_succ_self _) (Nat.le_refl _)) (hF.wd (Nat.le_succ _) (Nat.le_refl _)) h1
  have jj := ur_j g3 (Nat.lt_succ_self _) (hF j (Nat.le_refl _) (by omega))
  unfold swR
  rw [hb]
  refine ⟨?_, ?_, g4⟩
  · show ((_ || !_) || _) = ((_ || !_) || _)
    rw [g1, g2, jj.1]
  · exact g3.up K.2.2.2.2 (Nat.lt_succ_self _) s1 (by have := K.1; omega) (by omega) hpa (fun i o hi => cmA_ne (fun q => by have := q.1; omega))
end
