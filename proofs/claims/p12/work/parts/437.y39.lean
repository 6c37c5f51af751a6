/-! the function of y20 tells of every S -/
def SkD (z : ZS) (i : Nat) : Prop := ¬ kjS z i = 62 ∧ ¬ kjS z i = 63 ∧ ¬ kjS z i = 92 ∧ ¬ kjS z i = 93 ∧ ¬ kjS z i = 94
def CvG (z : ZS) (lo hi : Nat) (G : List (Nat × Int64 × Bool)) : Prop := ∀ i, lo ≤ i → i < hi → SkD z i → ∃ x ∈ G, x.1 = i
abbrev CvSo (N : Int → Int) (z : ZS) (T : TbT) (St : SsT) : Prop := ∀ a p q, St a p q → p.1 < q.1 ∧ ∀ (f : Nat) (m : Int64) (R : ReG), 2 * (q.1 - p.1) ≤ f + 1 → (dF N z T f).2.2 p.1 true m = some R → CvG z p.1 q.1 R.2.2.2
abbrev CvRw (N : Int → Int) (z : ZS) (T : TbT) (Rw : RsT) : Prop := ∀ sw k a L p q, Rw sw k a L p q → p.1 ≤ q.1 ∧ ∀ (f : Nat) (al : Bool) (m : Int64), 2 * (q.1 - p.1) ≤ f → (sw = 0 → ∀ R : ReG, (dF N z T f).1 (hdI L) al m = some R → CvG z p.1 q.1 R.2.2.2) ∧ (sw = 1 → ∀ (ch : Int64) (d : Bool) (R : Bool × ReG), (dF N z T f).2.1 (hdI L) ch al m d = some R → CvG z p.1 q.1 R.2.2.2.2)
def CvI (N : Int → Int) (z : ZS) (T : TbT) (j hi : Nat) : Prop := ∀ (f : Nat) (m : Int64) (R : ReG), 2 * (hi - j) ≤ f + 2 → inD' (dF N z T f) N z T j m = some R → CvG z (j + 1) hi R.2.2.2
section
variable {N : Int → Int} {z : ZS} {T : TbT} {a lv t : Int} {j k : Nat} {l : List ItZ} {q : Ps} {St : SsT} {Rw : RsT} {lo mi hi : Nat} {G G' : List (Nat × Int64 × Bool)}
theorem CvG.nil (h : hi ≤ lo) : CvG z lo hi G := fun i a b _ => by omega
theorem CvG.ap (h : CvG z lo mi G) (g : CvG z mi hi G') : CvG z lo hi (G ++ G') := fun i a b c => by
  by_cases d : i < mi
  · obtain ⟨x, h1, h2⟩ := h i a d c
    exact ⟨x, List.mem_append_left _ h1, h2⟩
  · obtain ⟨x, h1, h2⟩ := g i (by omega) b c
    exact ⟨x, List.mem_append_right _ h1, h2⟩
theorem CvG.sk (h : CvG z mi hi G) (g : ∀ i, lo ≤ i → i < mi → ¬ SkD z i) : CvG z lo hi G := fun i a b c => by
  by_cases d : i < mi
  · exact absurd c (g i a d)
  · exact h i (by omega) b c
theorem cv_bl (hR : CvRw N z T Rw) {L : List Nat} {p : Nat × List ItZ} (hr : Rw 0 0 j L (j + 1, p) q) (hk : kjS z j = 2) (hb : bjS z j = hdI L) : CvI N z T j q.1 := by
  intro f m R hf h
  obtain ⟨s1, s2⟩ := hR _ _ _ _ _ _ hr
  have s1 : j + 1 ≤ q.1 := s1
  rw [i_2 hk] at h
  unfold rwD' at h
  rw [hb] at h
  exact (s2 f true m (by show 2 * (q.1 - (j + 1)) ≤ f; omega)).1 rfl R h
theorem cv_la (hS : CvSo N z T St) {p : Nat × List ItZ} {q1 : Ps} (hs : St j (j + 1, p) q1) (hk : kjS z j = 6) (hb : bjS z j = ((j + 1 : Nat) : Int)) : CvI N z T j q1.1 := by
  intro f m R hf h
  obtain ⟨s1, s2⟩ := hS _ _ _ hs
  have s1 : j + 1 < q1.1 := s1
  rw [i_6 hk] at h
  unfold laD' at h
  rw [bdD_e hb] at h
  obtain ⟨R1, h1, rfl⟩ := omap h
  exact s2 f m R1 (by show 2 * (q1.1 - (j + 1)) ≤ f + 1; omega) h1
theorem cv_if1 (hS : CvSo N z T St) {p : Nat × List ItZ} {q1 : Ps} (hs : St j (j + 1, p) q1) (hk : kjS z j = 56) (hb : bjS z j = ((j + 1 : Nat) : Int)) (ho : ojS z j = -1) : CvI N z T j q1.1 := by
  intro f m R hf h
  obtain ⟨s1, s2⟩ := hS _ _ _ hs
  have s1 : j + 1 < q1.1 := s1
  rw [i_56 hk] at h
  unfold ifD' at h
  obtain ⟨e, _, h⟩ := obind h
  rw [bdD_e hb, ho] at h
  obtain ⟨R1, h1, h⟩ := obind h
  rw [if_pos (by decide)] at h
  cases h
  exact s2 f e.1 R1 (by show 2 * (q1.1 - (j + 1)) ≤ f + 1; omega) h1
theorem cv_if2 (hS : CvSo N z T St) {p : Nat × List ItZ} {q1 q2 : Ps} {p2 : Nat × List ItZ} (hs : St j (j + 1, p) q1) (hs2 : St j (q1.1, p2) q2) (hk : kjS z j = 56) (hb : bjS z j = ((j + 1 : Nat) : Int)) (ho : ojS z j = (q1.1 : Int)) : CvI N z T j q2.1 := by
  intro f m R hf h
  obtain ⟨s1, s2⟩ := hS _ _ _ hs
  have s1 : j + 1 < q1.1 := s1
  obtain ⟨u1, u2⟩ := hS _ _ _ hs2
  have u1 : q1.1 < q2.1 := u1
  rw [i_56 hk] at h
  unfold ifD' at h
  obtain ⟨e, _, h⟩ := obind h
  rw [bdD_e hb, ho] at h
  obtain ⟨R1, h1, h⟩ := obind h
  rw [if_neg (by omega), Int.toNat_natCast] at h
  obtain ⟨R2, h2, rfl⟩ := omap h
  have c1 : CvG z (j + 1) q1.1 R1.2.2.2 := s2 f e.1 R1 (by show 2 * (q1.1 - (j + 1)) ≤ f + 1; omega) h1
  have c2 : CvG z q1.1 q2.1 R2.2.2.2 := u2 f e.2 R2 (by show 2 * (q2.1 - q1.1) ≤ f + 1; omega) h2
  exact c1.ap c2
theorem cv_wh (hS : CvSo N z T St) {b : Nat} {p : Nat × List ItZ} {q1 : Ps} (hs : St j (b, p) q1) (hjb : j < b) (hk : kjS z j = 58 ∨ kjS z j = 60) (hb : bjS z j = (b : Int)) (hn : ∀ i, j + 1 ≤ i → i < b → ¬ SkD z i) : CvI N z T j q1.1 := by
  intro f m R hf h
  obtain ⟨s1, s2⟩ := hS _ _ _ hs
  have s1 : b < q1.1 := s1
  rw [i_58 hk] at h
  unfold whD' at h
  obtain ⟨i, _, h⟩ := obind h
  obtain ⟨e, he, h⟩ := obind h
  rw [bdD_e hb] at h
  obtain ⟨R1, h1, h⟩ := obind h
  obtain ⟨u, _, rfl⟩ := omap h
  have al : (!(alwT z T j 0)) = true := by
    cases g : (!(alwT z T j 0))
    · rw [g, d_fa (by omega)] at h1
      cases h1
    · rfl
  rw [al] at h1
  have c1 : CvG z b q1.1 R1.2.2.2 := s2 f e.1 R1 (by show 2 * (q1.1 - b) ≤ f + 1; omega) h1
  exact c1.sk hn
theorem cv_do (hS : CvSo N z T St) {p : Nat × List ItZ} {q1 : Ps} (hs : St j (j + 1, p) q1) (hk : kjS z j = 59) (hb : bjS z j = ((j + 1 : Nat) : Int)) : CvI N z T j q1.1 := by
  intro f m R hf h
  obtain ⟨s1, s2⟩ := hS _ _ _ hs
  have s1 : j + 1 < q1.1 := s1
  rw [i_59 hk] at h
  unfold doD' at h
  rw [bdD_e hb] at h
  obtain ⟨R1, h1, h⟩ := obind h
  obtain ⟨e, he, rfl⟩ := omap h
  exact s2 f m R1 (by show 2 * (q1.1 - (j + 1)) ≤ f + 1; omega) h1
theorem cv_row (hS : CvSo N z T St) (hkd : ∀ a p q, St a p q → ¬ kjS z p.1 = 62 ∧ ¬ kjS z p.1 = 63) : CvRw N z T (RwD St z lv) := by
  intro sw k a L
  induction L with
  | nil =>
    intro p q h
    rw [show q = p from h]
    exact ⟨Nat.le_refl _, fun f al m _ => ⟨fun _ R h => CvG.nil (Nat.le_refl _), fun _ ch d R h => CvG.nil (Nat.le_refl _)⟩⟩
  | cons j L ih =>
    intro p q ⟨e1, e2, p1, h1, h2⟩
    obtain ⟨i1, i2⟩ := ih p1 q h2
    subst e1
    rcases h1 with ⟨es, h1⟩ | h1
    · have cs : (kjS z p.1 = 62 ∨ kjS z p.1 = 63) ∧ p1.1 = p.1 + 1 := by
        rcases h1 with ⟨t, m, r, R, hx, rfl⟩ | ⟨t, R, rfl⟩
        · exact ⟨Or.inl R.kj, rfl⟩
        · exact ⟨Or.inr R.kj, rfl⟩
      refine ⟨by omega, fun f al m hf => ⟨fun e => by omega, fun _ ch d R h => ?_⟩⟩
      obtain ⟨f, rfl⟩ : ∃ k, f = k + 1 := ⟨f - 1, by omega⟩
      rw [show hdI (p.1 :: L) = (p.1 : Int) from rfl, d_s1 cs.1, e2] at h
      refine ((i2 f true _ (by omega)).2 es ch _ R h).sk (fun i c1 c2 c3 => ?_)
      have : i = p.1 := by omega
      rw [this] at c3
      exact cs.1.elim c3.1 c3.2.1
    · obtain ⟨s1, s2⟩ := hS _ _ _ h1
      have cs := hkd _ _ _ h1
      have alt : ∀ (f : Nat) (al : Bool) (m : Int64) (R : ReG), 1 ≤ f → (dF N z T f).2.2 p.1 al m = some R → al = true := fun f al m R hf h => by
        cases al
        · rw [d_fa hf] at h
          cases h
        · rfl
      refine ⟨by omega, fun f al m hf => ⟨fun es R h => ?_, fun es ch d R h => ?_⟩⟩
      · obtain ⟨f, rfl⟩ : ∃ k, f = k + 1 := ⟨f - 1, by omega⟩
        rw [show hdI (p.1 :: L) = (p.1 : Int) from rfl, d_r1, e2] at h
        obtain ⟨R1, g1, h⟩ := obind h
        obtain ⟨R2, g2, rfl⟩ := omap h
        have at_ := alt f al m R1 (by omega) g1
        subst at_
        exact (s2 f m R1 (by omega) g1).ap ((i2 f R1.1 R1.2.1 (by omega)).1 es R2 g2)
      · obtain ⟨f, rfl⟩ : ∃ k, f = k + 1 := ⟨f - 1, by omega⟩
        rw [show hdI (p.1 :: L) = (p.1 : Int) from rfl, d_s2 (by omega), e2] at h
        obtain ⟨R1, g1, h⟩ := obind h
        obtain ⟨R2, g2, rfl⟩ := omap h
        have at_ := alt f al m R1 (by omega) g1
        subst at_
        exact (s2 f m R1 (by omega) g1).ap ((i2 f R1.1 R1.2.1 (by omega)).2 es ch d R2 g2)
theorem cv_sw (hR : CvRw N z T Rw) {L : List Nat} {p : Nat × List ItZ} {q1 : Ps} (hr : Rw 1 k j L (j + 1, p) q1) (hk : kjS z j = 61) (hb : bjS z j = hdI L) : CvI N z T j q1.1 := by
  intro f m R hf h
  obtain ⟨s1, s2⟩ := hR _ _ _ _ _ _ hr
  have s1 : j + 1 ≤ q1.1 := s1
  rw [i_61 hk] at h
  unfold swD' at h
  obtain ⟨e, _, h⟩ := obind h
  rw [hb] at h
  obtain ⟨R1, h1, rfl⟩ := omap h
  exact (s2 f false allB (by show 2 * (q1.1 - (j + 1)) ≤ f; omega)).2 rfl _ false R1 h1
theorem cv_bk (hR : CvRw N z T Rw) {p q : Ps} (hB : BkD Rw z lv a p q) {f : Nat} {m : Int64} {R : ReG} (hf : 2 * (q.1 - p.1) ≤ f + 2) (h : (dF N z T f).1 (bjS z p.1) true m = some R) : CvG z p.1 q.1 R.2.2.2 := by
  obtain ⟨L, t, hr, D⟩ := hB
  obtain ⟨s1, s2⟩ := hR _ _ _ _ _ _ hr
  have s1 : p.1 + 1 ≤ q.1 := s1
  rw [D.bj] at h
  have c : CvG z (p.1 + 1) q.1 R.2.2.2 := (s2 f true m (by show 2 * (q.1 - (p.1 + 1)) ≤ f; omega)).1 rfl R h
  refine c.sk (fun i c1 c2 c3 => ?_)
  have : i = p.1 := by omega
  rw [this] at c3
  exact c3.2.2.1 D.kj
theorem cv_ty (hR : CvRw N z T Rw) {p : Nat × List ItZ} {q1 q2 q3 : Ps} {o g : Int} (B1 : BkD Rw z lv (j : Int) (j + 1, p) q1) (B2 : (o = -1 ∧ q2.1 = q1.1) ∨ (o = (q1.1 : Int) ∧ ∃ p2, BkD Rw z lv (j : Int) (q1.1, p2) q2)) (B3 : (g = -1 ∧ q3.1 = q2.1) ∨ (g = (q2.1 : Int) ∧ ∃ p3, BkD Rw z lv (j : Int) (q2.1, p3) q3)) (hk : kjS z j = 68) (hb : bjS z j = ((j + 1 : Nat) : Int)) (ho : ojS z j = o) (hg : gjS z j = g) : CvI N z T j q3.1 := by
  intro f m R hf h
  rw [i_68 hk] at h
  unfold tyD' at h
  rw [bkD_e hb, ho, hg] at h
  obtain ⟨A, hA, h⟩ := obind h
  obtain ⟨C, hC, h⟩ := obind h
  have le : ∀ {p q : Ps}, BkD Rw z lv (j : Int) p q → p.1 + 1 ≤ q.1 := fun ⟨L, t, hr, _⟩ => (hR _ _ _ _ _ _ hr).1
  have l1 : j + 1 + 1 ≤ q1.1 := le B1
  have l2 : q1.1 ≤ q2.1 := by
    rcases B2 with ⟨_, e⟩ | ⟨_, p2, B⟩
    · omega
    · have e := le B
      have e : q1.1 + 1 ≤ q2.1 := e
      omega
  have l3 : q2.1 ≤ q3.1 := by
    rcases B3 with ⟨_, e⟩ | ⟨_, p2, B⟩
    · omega
    · have e := le B
      have e : q2.1 + 1 ≤ q3.1 := e
      omega
  have a1 : CvG z (j + 1) q1.1 A.2.2.2 := cv_bk hR B1 (by show 2 * (q1.1 - (j + 1)) ≤ f + 2; omega) hA
  have c1 : CvG z (j + 1) q2.1 C.2.2.2 := by
    rcases B2 with ⟨e, e2⟩ | ⟨e, p2, B2⟩
    · rw [e, if_pos (by decide)] at hC
      cases hC
      rw [e2]
      exact a1
    · rw [e, if_neg (by omega), bkD_e rfl] at hC
      obtain ⟨B, hB, rfl⟩ := omap hC
      have b1 : CvG z q1.1 q2.1 B.2.2.2 := cv_bk hR B2 (by show 2 * (q2.1 - q1.1) ≤ f + 2; omega) hB
      exact a1.ap b1
  rcases B3 with ⟨e, e2⟩ | ⟨e, p2, B3⟩
  · rw [e, if_pos (by decide)] at h
    cases h
    rw [e2]
    exact c1
  · rw [e, if_neg (by omega), bkD_e rfl] at h
    obtain ⟨D, hD, rfl⟩ := omap h
    have d1 : CvG z q2.1 q3.1 D.2.2.2 := cv_bk hR B3 (by show 2 * (q3.1 - q2.1) ≤ f + 2; omega) hD
    exact c1.ap d1
theorem fi_kd {o : Int} {p q : Ps} (h : FiD z lv j o p q) : ∀ i, p.1 ≤ i → i < q.1 → kjS z i = 93 ∨ kjS z i = 94 := by
  rcases h with ⟨_, rfl⟩ | ⟨_, t, m, ⟨v, t2, _, hv⟩, _, rfl⟩ | ⟨L, _, _, h⟩
  · exact fun i a b => by omega
  · intro i a b
    have b : i < p.1 + 1 := b
    have : i = p.1 := by omega
    rw [this]
    rcases hv with ⟨D, _⟩ | ⟨_, _, _, _, D, _⟩
    · exact Or.inl D.kj
    · exact Or.inl D.kj
  · exact fun i a b => Or.inr (fx_kd h i a b)
end
/-- every S -/
theorem cv_st {N : Int → Int} {M : Int} {z : ZS} {T : TbT} : ∀ n, CvSo N z T (StD N M z n) := by
  intro n
  induction n with
  | zero => exact fun _ _ _ h => absurd h id
  | succ n ih =>
    intro a p q h
    have hR : CvRw N z T (RwD (StD N M z n) z (lvN n)) := cv_row ih (fun _ _ _ h => st_kd h)
    obtain ⟨t, q1, _, ⟨lt, _⟩, h, rfl⟩ := h
    have lt : p.1 < q1.1 := lt
    refine ⟨lt, fun f m R hf hd => ?_⟩
    have hf : 2 * (q1.1 - p.1) ≤ f + 1 := hf
    have leaf : CvI N z T p.1 (p.1 + 1) := fun _ _ _ _ _ => CvG.nil (Nat.le_refl _)
    have key : CvI N z T p.1 q1.1 := by
      rcases h with ⟨m, r, hx, R, rfl⟩ | ⟨m, ⟨v, t, _, hv⟩, rfl⟩ | ⟨R, rfl⟩ | ⟨L, hr, R⟩ | ⟨q2, hs, R, rfl⟩ | ⟨m, r, q2, hx, hs, ⟨R, rfl⟩ | ⟨t2, q3, hs2, R, rfl⟩⟩ | ⟨m, r, q2, hx, hs, R, rfl⟩ | ⟨m, r, q2, hs, hx, R, rfl⟩ | ⟨q2, q3, q4, m2, o, g, x, f1, f2, ⟨L, _, f3⟩, hs, R, rfl⟩ | ⟨m, r, L, q2, hx, hr, _, R, rfl⟩ | ⟨q2, q3, q4, o, g, v, B1, B2, B3, _, R, rfl⟩ | ⟨kd, lk, t2, hk, _, R, rfl⟩ | (⟨R, rfl⟩ | ⟨m, r, hx, ⟨R, rfl⟩ | ⟨R, rfl⟩⟩)
      · exact leaf
      · exact leaf
      · exact leaf
      · exact cv_bl hR hr R.kj R.bj
      · have := cv_la (T := T) ih hs R.kj R.bj
        exact this
      · have := cv_if1 (T := T) ih hs R.kj R.bj R.oj
        exact this
      · have := cv_if2 (T := T) ih hs hs2 R.kj R.bj R.oj
        exact this
      · have := cv_wh (T := T) ih hs (Nat.lt_succ_self _) (Or.inl R.kj) R.bj (fun i c1 c2 => by omega)
        exact this
      · have := cv_do (T := T) ih hs R.kj R.bj
        exact this
      · have a1 : p.1 + 1 ≤ q2.1 := fi_le f1
        have a2 := fx_le f3
        have a2 : q2.1 ≤ q3.1 := a2
        have := cv_wh (T := T) ih hs (show p.1 < q3.1 by omega) (Or.inr R.kj) R.bj (fun i c1 c2 c3 => by
          by_cases d : i < q2.1
          · rcases fi_kd f1 i c1 d with e | e
            · exact c3.2.2.2.1 e
            · exact c3.2.2.2.2 e
          · exact c3.2.2.2.2 (fx_kd f3 i (by show q2.1 ≤ i; omega) c2))
        exact this
      · have := cv_sw (T := T) hR hr R.kj R.bj
        exact this
      · have B2' : (o = -1 ∧ q3.1 = q2.1) ∨ (o = (q2.1 : Int) ∧ ∃ p2, BkD (RwD (StD N M z n) z (lvN n)) z (lvN (n + 1)) (p.1 : Int) (q2.1, p2) q3) := by
          rcases B2 with ⟨e, _, e2⟩ | ⟨e, _, t2, B⟩
          · exact Or.inl ⟨e, by rw [e2]⟩
          · exact Or.inr ⟨e, _, B⟩
        have B3' : (g = -1 ∧ q4.1 = q3.1) ∨ (g = (q3.1 : Int) ∧ ∃ p3, BkD (RwD (StD N M z n) z (lvN n)) z (lvN (n + 1)) (p.1 : Int) (q3.1, p3) q4) := by
          rcases B3 with ⟨e, e2⟩ | ⟨e, t2, B⟩
          · exact Or.inl ⟨e, by rw [e2]⟩
          · exact Or.inr ⟨e, _, B⟩
        have := cv_ty (T := T) hR B1 B2' B3' R.kj R.bj R.oj R.gj
        exact this
      · exact leaf
      · exact leaf
      · exact leaf
      · exact leaf
    obtain ⟨f, rfl⟩ : ∃ k, f = k + 1 := ⟨f - 1, by omega⟩
    rw [d_st, d_t] at hd
    obtain ⟨R1, g, rfl⟩ := omap hd
    have c := key f m R1 (by omega) g
    intro i c1 c2 c3
    by_cases e : i = p.1
    · exact ⟨_, List.mem_cons_self, e.symm⟩
    · obtain ⟨x, x1, x2⟩ := c i (by omega) c2 c3
      exact ⟨x, List.mem_cons_of_mem _ x1, x2⟩
/-- every S of the program -/
theorem cv_pr {N : Int → Int} {z : ZS} {T : TbT} {ms : MfT} {V1 : Nat → Int} {f : Nat} (hf : 2 * snM z ≤ f) : ∀ (L : List Nat) (M : Nat) (p q : Ps), PrD N z L M p q → q.1 ≤ snM z → p.1 ≤ q.1 ∧ (FlO N z T ms V1 f L M → CvG z p.1 q.1 (FlG N z T ms V1 f L M)) := by
  intro L
  induction L with
  | nil =>
    intro M p q h hz
    rw [show q = p from h]
    exact ⟨Nat.le_refl _, fun _ => CvG.nil (Nat.le_refl _)⟩
  | cons j L ih =>
    intro M p q ⟨ej, p1, ⟨q1, t, B, e⟩, h2⟩ hz
    obtain ⟨i1, i2⟩ := ih (M + 1) p1 q h2 hz
    have hR : CvRw N z T (RwD (StD N M z 20) z (lvN 20)) := cv_row (cv_st 20) (fun _ _ _ h => st_kd h)
    have lt : p.1 + 1 ≤ q1.1 := by
      obtain ⟨L', t, hr, _⟩ := B
      exact (hR _ _ _ _ _ _ hr).1
    have e1 : p1.1 = q1.1 := by rw [e]
    subst ej
    refine ⟨by omega, fun ⟨⟨R, hR1, _⟩, hL⟩ => ?_⟩
    have eG : FlG N z T ms V1 f (p.1 :: L) M = R.2.2.2 ++ FlG N z T ms V1 f L (M + 1) := by
      rw [FlG, hR1]
    rw [eG]
    have c : CvG z p.1 q1.1 R.2.2.2 := cv_bk hR B (by show 2 * (q1.1 - p.1) ≤ f + 2; omega) hR1
    rw [← e1] at c
    exact c.ap (i2 hL)
