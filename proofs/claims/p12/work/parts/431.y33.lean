/-! where an S does not end, all holds behind it -/
def DaO (R : ReG) : Prop := (R.1 = false → R.2.1 = allB) ∧ ∀ x ∈ R.2.2.1, x.2.2.1 = false → x.2.2.2 = allB
theorem da_cm {k : Int} {on : Bool} : ∀ {J : List JmZ}, (∀ x ∈ J, x.2.2.1 = false → x.2.2.2 = allB) → cmA k on J = false → cmB k on J = allB := by
  intro J
  induction J with
  | nil => exact fun _ _ => rfl
  | cons x J ih =>
    intro h c
    rw [cmA] at c
    rw [cmB]
    have ih := ih (fun y hy => h y (List.mem_cons_of_mem _ hy))
    split
    · rename_i e
      rw [if_pos e, Bool.or_eq_false_iff] at c
      rw [h x List.mem_cons_self c.1, ih c.2, an_id]
    · rename_i e
      rw [if_neg e] at c
      exact ih c
theorem da_cr {k : Int} {on : Bool} {J : List JmZ} (h : ∀ x ∈ J, x.2.2.1 = false → x.2.2.2 = allB) : ∀ x ∈ cmR k on J, x.2.2.1 = false → x.2.2.2 = allB := fun x hx => h x (cmR_m hx).1
/-- what is fixed -/
def DfX (N : Int → Int) (C : CxT) (z : ZS) (T : TbT) (ms : MfT) : Prop := ZjD C z T ∧ ∀ j, j < snM z → skT N z T ms j
abbrev DaSo (N : Int → Int) (z : ZS) (T : TbT) (St : SsT) : Prop := ∀ a p q, St a p q → (p.1 < q.1 ∧ p.2.2 <:+ q.2.2) ∧ ∀ (f : Nat) (m : Int64) (R : ReG), 2 * (q.1 - p.1) ≤ f + 1 → q.1 ≤ snM z → q.2.2 <:+ z.2.1 → (dF N z T f).2.2 p.1 true m = some R → DaO R
abbrev DaRw (N : Int → Int) (z : ZS) (T : TbT) (Rw : RsT) : Prop := ∀ sw k a L p q, Rw sw k a L p q → (p.1 ≤ q.1 ∧ p.2.2 <:+ q.2.2) ∧ ∀ (f : Nat) (al : Bool) (m : Int64), 2 * (q.1 - p.1) ≤ f → q.1 ≤ snM z → q.2.2 <:+ z.2.1 → (al = false → m = allB) → (sw = 0 → ∀ R : ReG, (dF N z T f).1 (hdI L) al m = some R → DaO R) ∧ (sw = 1 → ∀ (ch : Int64) (d : Bool) (R : Bool × ReG), (dF N z T f).2.1 (hdI L) ch al m d = some R → DaO R.2)
def DaI (N : Int → Int) (z : ZS) (T : TbT) (j hi : Nat) : Prop := ∀ (f : Nat) (m : Int64) (R : ReG), 2 * (hi - j) ≤ f + 2 → inD' (dF N z T f) N z T j m = some R → DaO R
section
variable {N : Int → Int} {z : ZS} {T : TbT} {C : CxT} {ms : MfT} {a lv t : Int} {j k : Nat} {q : Ps} {St : SsT} {Rw : RsT}
theorem da_tt {b : Int64} {J : List JmZ} {G : List (Nat × Int64 × Bool)} (h : ∀ x ∈ J, x.2.2.1 = false → x.2.2.2 = allB) : DaO (true, b, J, G) := ⟨fun q => absurd (show true = false from q) (by decide), h⟩
theorem da_nil : ∀ x ∈ ([] : List JmZ), x.2.2.1 = false → x.2.2.2 = allB := fun _ h => absurd h List.not_mem_nil
theorem da_lf {hi : Nat} (hk : kjS z j = 90 ∨ kjS z j = 94 ∨ kjS z j = 91 ∨ kjS z j = 93 ∨ kjS z j = 4 ∨ kjS z j = 66 ∨ kjS z j = 67 ∨ kjS z j = 64 ∨ kjS z j = 65) : DaI N z T j hi := by
  intro f m R _ h
  by_cases c1 : kjS z j = 90 ∨ kjS z j = 94
  · rw [i_90 c1] at h
    obtain ⟨e, _, rfl⟩ := omap h
    exact da_tt da_nil
  by_cases c2 : kjS z j = 91 ∨ kjS z j = 93
  · rw [i_91 c2] at h
    unfold tdD at h
    split at h
    · cases h; exact da_tt da_nil
    · obtain ⟨e, _, rfl⟩ := omap h
      exact da_tt da_nil
  by_cases c3 : kjS z j = 4
  · rw [i_4 c3] at h
    cases h
    exact da_tt da_nil
  by_cases c4 : kjS z j = 64 ∨ kjS z j = 65
  · rw [i_64 c4] at h
    cases h
    refine ⟨fun _ => rfl, fun x hx q => ?_⟩
    rw [List.mem_singleton.mp hx] at q
    exact absurd (show true = false from q) (by decide)
  · rw [i_66 (by omega)] at h
    obtain ⟨e, _, rfl⟩ := omap h
    exact ⟨fun _ => rfl, da_nil⟩
theorem da_bl (hR : DaRw N z T Rw) {L : List Nat} {p : Nat × List ItZ} (hr : Rw 0 0 j L (j + 1, p) q) (hk : kjS z j = 2) (hb : bjS z j = hdI L) (hz : q.1 ≤ snM z) (hq : q.2.2 <:+ z.2.1) : DaI N z T j q.1 := by
  intro f m R hf h
  obtain ⟨⟨s1, _⟩, s2⟩ := hR _ _ _ _ _ _ hr
  have s1 : j + 1 ≤ q.1 := s1
  rw [i_2 hk] at h
  have h : (dF N z T f).1 (bjS z j) true m = some R := h
  rw [hb] at h
  exact (s2 f true m (by show 2 * (q.1 - (j + 1)) ≤ f; omega) hz hq (fun e => absurd e (by decide))).1 rfl R h
theorem da_la (hS : DaSo N z T St) {p : Nat × List ItZ} {q1 : Ps} (hs : St j (j + 1, p) q1) (hk : kjS z j = 6) (hb : bjS z j = ((j + 1 : Nat) : Int)) (hz : q1.1 ≤ snM z) (hq : q1.2.2 <:+ z.2.1) : DaI N z T j q1.1 := by
  intro f m R hf h
  obtain ⟨⟨s1, _⟩, s2⟩ := hS _ _ _ hs
  have s1 : j + 1 < q1.1 := s1
  rw [i_6 hk] at h
  unfold laD' at h
  rw [bdD_e hb] at h
  obtain ⟨R1, h1, rfl⟩ := omap h
  obtain ⟨d1, d2⟩ := s2 f m R1 (by show 2 * (q1.1 - (j + 1)) ≤ f + 1; omega) hz hq h1
  refine ⟨fun e => ?_, da_cr d2⟩
  have e : (R1.1 || cmA j false R1.2.2.1) = false := e
  rw [Bool.or_eq_false_iff] at e
  show R1.2.1 &&& cmB j false R1.2.2.1 = allB
  rw [d1 e.1, da_cm d2 e.2, an_id]
theorem da_if1 (hS : DaSo N z T St) {p : Nat × List ItZ} {q1 : Ps} (hs : St j (j + 1, p) q1) (hk : kjS z j = 56) (hb : bjS z j = ((j + 1 : Nat) : Int)) (ho : ojS z j = -1) (hz : q1.1 ≤ snM z) (hq : q1.2.2 <:+ z.2.1) : DaI N z T j q1.1 := by
  intro f m R hf h
  obtain ⟨⟨s1, _⟩, s2⟩ := hS _ _ _ hs
  have s1 : j + 1 < q1.1 := s1
  rw [i_56 hk] at h
  unfold ifD' at h
  obtain ⟨e, _, h⟩ := obind h
  rw [bdD_e hb, ho] at h
  obtain ⟨R1, h1, h⟩ := obind h
  rw [if_pos (by decide)] at h
  cases h
  exact da_tt (s2 f e.1 R1 (by show 2 * (q1.1 - (j + 1)) ≤ f + 1; omega) hz hq h1).2
theorem da_ap {J K : List JmZ} (h : ∀ x ∈ J, x.2.2.1 = false → x.2.2.2 = allB) (g : ∀ x ∈ K, x.2.2.1 = false → x.2.2.2 = allB) : ∀ x ∈ J ++ K, x.2.2.1 = false → x.2.2.2 = allB := fun x hx => (List.mem_append.mp hx).elim (h x) (g x)
theorem da_if2 (hS : DaSo N z T St) {p : Nat × List ItZ} {q1 q2 : Ps} {p2 : Nat × List ItZ} (hs : St j (j + 1, p) q1) (hs2 : St j (q1.1, p2) q2) (hk : kjS z j = 56) (hb : bjS z j = ((j + 1 : Nat) : Int)) (ho : ojS z j = (q1.1 : Int)) (hz : q2.1 ≤ snM z) (hq1 : q1.2.2 <:+ z.2.1) (hq : q2.2.2 <:+ z.2.1) : DaI N z T j q2.1 := by
  intro f m R hf h
  obtain ⟨⟨s1, _⟩, s2⟩ := hS _ _ _ hs
  have s1 : j + 1 < q1.1 := s1
  obtain ⟨⟨u1, _⟩, u2⟩ := hS _ _ _ hs2
  have u1 : q1.1 < q2.1 := u1
  rw [i_56 hk] at h
  unfold ifD' at h
  obtain ⟨e, _, h⟩ := obind h
  rw [bdD_e hb, ho] at h
  obtain ⟨R1, h1, h⟩ := obind h
  rw [if_neg (by omega), Int.toNat_natCast] at h
  obtain ⟨R2, h2, rfl⟩ := omap h
  obtain ⟨d1, d2⟩ := s2 f e.1 R1 (by show 2 * (q1.1 - (j + 1)) ≤ f + 1; omega) (by omega) hq1 h1
  obtain ⟨d3, d4⟩ := u2 f e.2 R2 (by show 2 * (q2.1 - q1.1) ≤ f + 1; omega) hz hq h2
  refine ⟨fun e => ?_, da_ap d2 d4⟩
  have e : (R2.1 || R1.1) = false := e
  rw [Bool.or_eq_false_iff] at e
  show R1.2.1 &&& R2.2.1 = allB
  rw [d1 e.2, d3 e.1, an_id]
/-- a condition: always true; from where all holds -/
theorem al_cn (H : DfX N C z T ms) {l m : List ItZ} {r : XrZ} {mm : Int64} {e : Int64 × Int64} (hx : ExX lv l m r) (hl : 0 ≤ lv) (hh : HdR l) (hm : m <:+ z.2.1) (hk : kjS z j = 58 ∨ kjS z j = 59 ∨ kjS z j = 60) (hj : j < snM z) (hxj : xjS z j = (xcZ m : Int) - 1) (he : exD z T (xjS z j) mm = some e) : (alwT z T j 1 = true → e.2 = allB) ∧ (mm = allB → e.1 = allB ∧ e.2 = allB) := by
  obtain ⟨x1, x2, x3⟩ := ex_some (w := (mm, mm, [], false)) he
  rw [hxj] at x1 x2
  obtain ⟨_, c2, c3⟩ := ex_cn H.1 (mm := mm) (w := (mm, mm, [], false)) hx hl hh hm
  rw [x1, x2] at c2 c3
  refine ⟨fun al => ?_, c2⟩
  have nn := hx.nn
  have ty : (T.1 ((xcZ m : Int) - 1).toNat).1 = 0 := by
    have s := (skk_cd (N := N) (ms := ms) (T := T) (show kjS z j = 56 ∨ kjS z j = 58 ∨ kjS z j = 59 ∨ kjS z j = 60 by omega)).mp (H.2 j hj)
    rw [hxj] at s
    exact s nn.2.1
  unfold alwT at al
  rw [hxj, if_neg (by omega), Bool.and_eq_true, decide_eq_true_eq, decide_eq_true_eq] at al
  exact (c3.1 ty al.1).1 (al.2.trans (by decide))
theorem da_wh (H : DfX N C z T ms) (hS : DaSo N z T St) {b : Nat} {p : Nat × List ItZ} {q1 : Ps} (hs : St j (b, p) q1) (hjb : j < b) (hk : kjS z j = 58 ∨ kjS z j = 60) (hb : bjS z j = (b : Int)) (hz : q1.1 ≤ snM z) (hq : q1.2.2 <:+ z.2.1) (hX : xjS z j < 0 ∨ ∃ (l m : List ItZ) (r : XrZ), ExX lv l m r ∧ HdR l ∧ m <:+ z.2.1 ∧ xjS z j = (xcZ m : Int) - 1) (hl : 0 ≤ lv) : DaI N z T j q1.1 := by
  intro f m R hf h
  obtain ⟨⟨s1, _⟩, s2⟩ := hS _ _ _ hs
  have s1 : b < q1.1 := s1
  rw [i_58 hk] at h
  unfold whD' at h
  obtain ⟨i, _, h⟩ := obind h
  obtain ⟨e, he, h⟩ := obind h
  rw [bdD_e hb] at h
  obtain ⟨R1, h1, h⟩ := obind h
  obtain ⟨u, _, rfl⟩ := omap h
  have al : alwT z T j 0 = false := by
    cases g : alwT z T j 0
    · rfl
    · rw [g] at h1
      have h1 : (dF N z T f).2.2 b false e.1 = some R1 := h1
      rw [d_fa (by omega)] at h1
      cases h1
  rw [al] at h1
  obtain ⟨d1, d2⟩ := s2 f e.1 R1 (by show 2 * (q1.1 - b) ≤ f + 1; omega) hz hq h1
  refine ⟨fun e1 => ?_, da_cr (da_cr d2)⟩
  have e1 : (!(alwT z T j 1) || cmA j false R1.2.2.1) = false := e1
  rw [Bool.or_eq_false_iff] at e1
  have e2 : alwT z T j 1 = true := by
    have := e1.1
    cases g : alwT z T j 1
    · rw [g] at this; cases this
    · rfl
  show (if xjS z j < 0 then allB else e.2) &&& cmB j false R1.2.2.1 = allB
  rw [da_cm d2 e1.2]
  by_cases c : xjS z j < 0
  · rw [if_pos c, an_id]
  · rw [if_neg c]
    rcases hX with hX | ⟨l, m1, r, hx, hh, hm, hxj⟩
    · exact absurd hX c
    · rw [(al_cn H hx hl hh hm (by omega) (by omega) hxj he).1 e2, an_id]
theorem da_do (H : DfX N C z T ms) (hS : DaSo N z T St) {p : Nat × List ItZ} {q1 : Ps} (hs : St j (j + 1, p) q1) (hk : kjS z j = 59) (hb : bjS z j = ((j + 1 : Nat) : Int)) (hz : q1.1 ≤ snM z) (hq : q1.2.2 <:+ z.2.1) {l m1 : List ItZ} {r : XrZ} (hx : ExX lv l m1 r) (hh : HdR l) (hm : m1 <:+ z.2.1) (hxj : xjS z j = (xcZ m1 : Int) - 1) (hl : 0 ≤ lv) : DaI N z T j q1.1 := by
  intro f m R hf h
  obtain ⟨⟨s1, _⟩, s2⟩ := hS _ _ _ hs
  have s1 : j + 1 < q1.1 := s1
  rw [i_59 hk] at h
  unfold doD' at h
  rw [bdD_e hb] at h
  obtain ⟨R1, h1, h⟩ := obind h
  obtain ⟨e, he, rfl⟩ := omap h
  obtain ⟨d1, d2⟩ := s2 f m R1 (by show 2 * (q1.1 - (j + 1)) ≤ f + 1; omega) hz hq h1
  refine ⟨fun e1 => ?_, da_cr (da_cr d2)⟩
  have e1 : (((R1.1 || cmA j true R1.2.2.1) && !(alwT z T j 1)) || cmA j false R1.2.2.1) = false := e1
  rw [Bool.or_eq_false_iff] at e1
  show e.2 &&& cmB j false R1.2.2.1 = allB
  have ac := al_cn H hx hl hh hm (by omega) (by omega) hxj he
  rw [da_cm d2 e1.2, an_al]
  cases g : alwT z T j 1
  · have e3 := e1.1
    rw [g, Bool.not_false, Bool.and_true, Bool.or_eq_false_iff] at e3
    exact (ac.2 (by rw [d1 e3.1, da_cm d2 e3.2, an_id])).2
  · exact ac.1 g
theorem da_row (hS : DaSo N z T St) (hkd : ∀ a p q, St a p q → ¬ kjS z p.1 = 62 ∧ ¬ kjS z p.1 = 63) : DaRw N z T (RwD St z lv) := by
  intro sw k a L
  induction L with
  | nil =>
    intro p q h
    rw [show q = p from h]
    refine ⟨⟨Nat.le_refl _, List.suffix_rfl⟩, fun f al m _ _ _ ha => ⟨fun _ R h => ?_, fun _ ch d R h => ?_⟩⟩
    · rw [show hdI [] = -1 from rfl, d_r0 (by decide)] at h
      cases h
      exact ⟨ha, da_nil⟩
    · rw [show hdI [] = -1 from rfl, d_s0 (by decide)] at h
      cases h
      exact ⟨ha, da_nil⟩
  | cons j L ih =>
    intro p q ⟨e1, e2, p1, h1, h2⟩
    obtain ⟨⟨i1, i0⟩, i2⟩ := ih p1 q h2
    subst e1
    rcases h1 with ⟨es, h1⟩ | h1
    · have cs : (kjS z p.1 = 62 ∨ kjS z p.1 = 63) ∧ p1.1 = p.1 + 1 ∧ p.2.2 <:+ p1.2.2 := by
        rcases h1 with ⟨t, m, r, R, hx, rfl⟩ | ⟨t, R, rfl⟩
        · exact ⟨Or.inl R.kj, rfl, hx.sf.trans (List.suffix_cons _ _)⟩
        · exact ⟨Or.inr R.kj, rfl, List.suffix_cons _ _⟩
      refine ⟨⟨by omega, cs.2.2.trans i0⟩, fun f al m hf hz hq ha => ⟨fun e => by omega, fun _ ch d R h => ?_⟩⟩
      obtain ⟨f, rfl⟩ : ∃ k, f = k + 1 := ⟨f - 1, by omega⟩
      rw [show hdI (p.1 :: L) = (p.1 : Int) from rfl, d_s1 cs.1, e2] at h
      exact (i2 f true _ (by omega) hz hq (fun e => absurd e (by decide))).2 es ch _ R h
    · obtain ⟨⟨s1, s0⟩, s2⟩ := hS _ _ _ h1
      have cs := hkd _ _ _ h1
      have alt : ∀ (f : Nat) (al : Bool) (m : Int64) (R : ReG), 1 ≤ f → (dF N z T f).2.2 p.1 al m = some R → al = true := fun f al m R hf h => by
        cases al
        · rw [d_fa hf] at h
          cases h
        · rfl
      refine ⟨⟨by omega, s0.trans i0⟩, fun f al m hf hz hq ha => ⟨fun es R h => ?_, fun es ch d R h => ?_⟩⟩
      · obtain ⟨f, rfl⟩ : ∃ k, f = k + 1 := ⟨f - 1, by omega⟩
        rw [show hdI (p.1 :: L) = (p.1 : Int) from rfl, d_r1, e2] at h
        obtain ⟨R1, g1, h⟩ := obind h
        obtain ⟨R2, g2, rfl⟩ := omap h
        have at_ := alt f al m R1 (by omega) g1
        subst at_
        obtain ⟨d1, d2⟩ := s2 f m R1 (by omega) (by omega) (i0.trans hq) g1
        obtain ⟨d3, d4⟩ := (i2 f R1.1 R1.2.1 (by omega) hz hq d1).1 es R2 g2
        exact ⟨d3, da_ap d2 d4⟩
      · obtain ⟨f, rfl⟩ : ∃ k, f = k + 1 := ⟨f - 1, by omega⟩
        rw [show hdI (p.1 :: L) = (p.1 : Int) from rfl, d_s2 (by omega), e2] at h
        obtain ⟨R1, g1, h⟩ := obind h
        obtain ⟨R2, g2, rfl⟩ := omap h
        have at_ := alt f al m R1 (by omega) g1
        subst at_
        obtain ⟨d1, d2⟩ := s2 f m R1 (by omega) (by omega) (i0.trans hq) g1
        obtain ⟨d3, d4⟩ := (i2 f R1.1 R1.2.1 (by omega) hz hq d1).2 es ch d R2 g2
        exact ⟨d3, da_ap d2 d4⟩
theorem da_sw (hR : DaRw N z T Rw) {L : List Nat} {p : Nat × List ItZ} {q1 : Ps} (hr : Rw 1 k j L (j + 1, p) q1) (hk : kjS z j = 61) (hb : bjS z j = hdI L) (hz : q1.1 ≤ snM z) (hq : q1.2.2 <:+ z.2.1) : DaI N z T j q1.1 := by
  intro f m R hf h
  obtain ⟨⟨s1, _⟩, s2⟩ := hR _ _ _ _ _ _ hr
  have s1 : j + 1 ≤ q1.1 := s1
  rw [i_61 hk] at h
  unfold swD' at h
  obtain ⟨e, _, h⟩ := obind h
  rw [hb] at h
  obtain ⟨R1, h1, rfl⟩ := omap h
  obtain ⟨d1, d2⟩ := (s2 f false allB (by show 2 * (q1.1 - (j + 1)) ≤ f; omega) hz hq (fun _ => rfl)).2 rfl _ false R1 h1
  refine ⟨fun e1 => ?_, da_cr d2⟩
  have e1 : ((R1.2.1 || !R1.1) || cmA j false R1.2.2.2.1) = false := e1
  rw [Bool.or_eq_false_iff, Bool.or_eq_false_iff] at e1
  have dd : R1.1 = true := by
    have := e1.1.2
    cases g : R1.1
    · rw [g] at this; cases this
    · rfl
  show (if R1.1 = true then R1.2.2.1 else R1.2.2.1 &&& (e.1 &&& e.2)) &&& cmB j false R1.2.2.2.1 = allB
  rw [if_pos dd, d1 e1.1.1, da_cm d2 e1.2, an_id]
theorem da_bk (hR : DaRw N z T Rw) {p q : Ps} (hB : BkD Rw z lv a p q) {f : Nat} {m : Int64} {R : ReG} (hf : 2 * (q.1 - p.1) ≤ f + 2) (hz : q.1 ≤ snM z) (hq : q.2.2 <:+ z.2.1) (h : (dF N z T f).1 (bjS z p.1) true m = some R) : DaO R := by
  obtain ⟨L, t, hr, D⟩ := hB
  obtain ⟨⟨s1, _⟩, s2⟩ := hR _ _ _ _ _ _ hr
  have s1 : p.1 + 1 ≤ q.1 := s1
  rw [D.bj] at h
  exact (s2 f true m (by show 2 * (q.1 - (p.1 + 1)) ≤ f; omega) hz hq (fun e => absurd e (by decide))).1 rfl R h
theorem bk_le (hR : DaRw N z T Rw) {p q : Ps} (hB : BkD Rw z lv a p q) : p.1 + 1 ≤ q.1 ∧ p.2.2 <:+ q.2.2 := by
  obtain ⟨L, t, hr, D⟩ := hB
  exact (hR _ _ _ _ _ _ hr).1
theorem da_ty (hR : DaRw N z T Rw) {p : Nat × List ItZ} {q1 q2 q3 : Ps} {o g : Int} (B1 : BkD Rw z lv (j : Int) (j + 1, p) q1) (B2 : (o = -1 ∧ q2.1 = q1.1) ∨ (o = (q1.1 : Int) ∧ ∃ p2, BkD Rw z lv (j : Int) (q1.1, p2) q2)) (B3 : (g = -1 ∧ q3.1 = q2.1) ∨ (g = (q2.1 : Int) ∧ ∃ p3, BkD Rw z lv (j : Int) (q2.1, p3) q3)) (hk : kjS z j = 68) (hb : bjS z j = ((j + 1 : Nat) : Int)) (ho : ojS z j = o) (hg : gjS z j = g) (hz : q3.1 ≤ snM z) (hq1 : q1.2.2 <:+ z.2.1) (hq2 : q2.2.2 <:+ z.2.1) (hq3 : q3.2.2 <:+ z.2.1) : DaI N z T j q3.1 := by
  intro f m R hf h
  rw [i_68 hk] at h
  unfold tyD' at h
  rw [bkD_e hb, ho, hg] at h
  obtain ⟨A, hA, h⟩ := obind h
  obtain ⟨C, hC, h⟩ := obind h
  have l1 := (bk_le hR B1).1
  have l1 : j + 1 + 1 ≤ q1.1 := l1
  have l2 : q1.1 ≤ q2.1 := by
    rcases B2 with ⟨_, e⟩ | ⟨_, p2, B⟩
    · omega
    · have := (bk_le hR B).1
      have : q1.1 + 1 ≤ q2.1 := this
      omega
  have l3 : q2.1 ≤ q3.1 := by
    rcases B3 with ⟨_, e⟩ | ⟨_, p2, B⟩
    · omega
    · have := (bk_le hR B).1
      have : q2.1 + 1 ≤ q3.1 := this
      omega
  obtain ⟨a1, a2⟩ := da_bk hR B1 (by show 2 * (q1.1 - (j + 1)) ≤ f + 2; omega) (by omega) hq1 hA
  have c1 : DaO C := by
    rcases B2 with ⟨e, _⟩ | ⟨e, p2, B2⟩
    · rw [e, if_pos (by decide)] at hC
      cases hC
      exact ⟨a1, a2⟩
    · rw [e, if_neg (by omega), bkD_e rfl] at hC
      obtain ⟨B, hB, rfl⟩ := omap hC
      obtain ⟨b1, b2⟩ := da_bk hR B2 (by show 2 * (q2.1 - q1.1) ≤ f + 2; omega) (by omega) hq2 hB
      refine ⟨fun e1 => ?_, da_ap a2 b2⟩
      have e1 : (A.1 || B.1) = false := e1
      rw [Bool.or_eq_false_iff] at e1
      show A.2.1 &&& B.2.1 = allB
      rw [a1 e1.1, b1 e1.2, an_id]
  rcases B3 with ⟨e, _⟩ | ⟨e, p2, B3⟩
  · rw [e, if_pos (by decide)] at h
    cases h
    exact c1
  · rw [e, if_neg (by omega), bkD_e rfl] at h
    obtain ⟨D, hD, rfl⟩ := omap h
    obtain ⟨d1, d2⟩ := da_bk hR B3 (by show 2 * (q3.1 - q2.1) ≤ f + 2; omega) hz hq3 hD
    refine ⟨fun e1 => ?_, da_ap (fun x hx => ?_) d2⟩
    · have e1 : (C.1 && D.1) = false := e1
      show C.2.1 ||| D.2.1 = allB
      cases g1 : C.1
      · rw [c1.1 g1, al_or]
      · rw [g1, Bool.true_and] at e1
        rw [d1 e1, or_al]
    · obtain ⟨y, hy, rfl⟩ := List.mem_map.mp hx
      intro e1
      have e1 : (y.2.2.1 && D.1) = false := e1
      show (if D.1 = true then y.2.2.2 ||| D.2.1 else allB) = allB
      cases g1 : D.1
      · rfl
      · rw [g1, Bool.and_true] at e1
        rw [if_pos rfl, c1.2 y hy e1, al_or]
end
/-- every S -/
theorem da_st {N : Int → Int} {M : Int} {C : CxT} {z : ZS} {T : TbT} {ms : MfT} (H : DfX N C z T ms) : ∀ n, n ≤ 21 → DaSo N z T (StD N M z n) := by
  intro n
  induction n with
  | zero => exact fun _ _ _ _ h => absurd h id
  | succ n ih =>
    intro hn a p q h
    have ih := ih (by omega)
    have hR : DaRw N z T (RwD (StD N M z n) z (lvN n)) := da_row ih (fun _ _ _ h => st_kd h)
    have lv : 0 ≤ lvN (n + 1) := by unfold lvN; omega
    have pg := h.pg
    obtain ⟨t, q1, _, ⟨lt, _⟩, h, rfl⟩ := h
    have lt : p.1 < q1.1 := lt
    refine ⟨⟨lt, pg.1.sf⟩, fun f m R hf hz hq hd => ?_⟩
    have hf : 2 * (q1.1 - p.1) ≤ f + 1 := hf
    have hz : q1.1 ≤ snM z := hz
    have hq : q1.2.2 <:+ z.2.1 := (List.suffix_cons _ _).trans hq
    have key : DaI N z T p.1 q1.1 := by
      rcases h with ⟨m, r, hx, R, rfl⟩ | ⟨m, ⟨v, t, _, hv⟩, rfl⟩ | ⟨R, rfl⟩ | ⟨L, hr, R⟩ | ⟨q2, hs, R, rfl⟩ | ⟨m, r, q2, hx, hs, ⟨R, rfl⟩ | ⟨t2, q3, hs2, R, rfl⟩⟩ | ⟨m, r, q2, hx, hs, R, rfl⟩ | ⟨m, r, q2, hs, hx, R, rfl⟩ | ⟨q2, q3, q4, m2, o, g, x, f1, f2, ⟨L, _, f3⟩, hs, R, rfl⟩ | ⟨m, r, L, q2, hx, hr, _, R, rfl⟩ | ⟨q2, q3, q4, o, g, v, B1, B2, B3, _, R, rfl⟩ | ⟨kd, lk, t2, hk, _, R, rfl⟩ | (⟨R, rfl⟩ | ⟨m, r, hx, ⟨R, rfl⟩ | ⟨R, rfl⟩⟩)
      · have e := R.kj
        exact da_lf (by omega)
      · rcases hv with ⟨R, rfl⟩ | ⟨m0, r, x, _, R, _, rfl⟩
        · have e := R.kj
          exact da_lf (by omega)
        · have e := R.kj
          exact da_lf (by omega)
      · have e := R.kj
        exact da_lf (by omega)
      · exact da_bl hR hr R.kj R.bj hz hq
      · have := da_la ih hs R.kj R.bj hz ((List.suffix_cons _ _).trans hq)
        exact this
      · have := da_if1 ih hs R.kj R.bj R.oj hz ((List.suffix_cons _ _).trans hq)
        exact this
      · have h2 := (ih _ _ _ hs2).1.2
        have hq3 : q3.2.2 <:+ z.2.1 := (List.suffix_cons _ _).trans hq
        have := da_if2 ih hs hs2 R.kj R.bj R.oj hz (((List.suffix_cons _ _).trans h2).trans hq3) hq3
        exact this
      · have hq2 : q2.2.2 <:+ z.2.1 := (List.suffix_cons _ _).trans hq
        have := da_wh (lv := lvN (n + 1)) H ih hs (Nat.lt_succ_self _) (Or.inl R.kj) R.bj hz hq2 (Or.inr ⟨_, m, r, hx, hdr_c, ((List.suffix_cons _ _).trans (ih _ _ _ hs).1.2).trans hq2, R.xj⟩) lv
        exact this
      · have hqm : m <:+ z.2.1 := (List.suffix_cons _ _).trans hq
        have := da_do (lv := lvN (n + 1)) H ih hs R.kj R.bj hz (((List.suffix_cons _ _).trans hx.sf).trans hqm) hx hdr_c hqm R.xj lv
        exact this
      · have hq4 : q4.2.2 <:+ z.2.1 := (List.suffix_cons _ _).trans hq
        have up : p.1 < q3.1 := by
          have a1 : p.1 + 1 ≤ q2.1 := fi_le f1
          have a2 := fx_le f3
          have a2 : q2.1 ≤ q3.1 := a2
          omega
        have sm : m2 <:+ z.2.1 := (((List.suffix_cons _ _).trans (fx_sf f3).1.1).trans ((List.suffix_cons _ _).trans (ih _ _ _ hs).1.2)).trans hq4
        have := da_wh (lv := lvN (n + 1)) H ih hs up (Or.inr R.kj) R.bj hz hq4 (by
          rw [R.xj]
          rcases f2 with ⟨e, rfl⟩ | ⟨m0, r, hx, e, rfl⟩
          · left; rw [e]; decide
          · exact Or.inr ⟨_, m0, r, hx, hdr_c, (List.suffix_cons _ _).trans sm, e⟩) lv
        exact this
      · have := da_sw hR hr R.kj R.bj hz ((List.suffix_cons _ _).trans hq)
        exact this
      · have hq4 : q4.2.2 <:+ z.2.1 := (List.suffix_cons _ _).trans hq
        have hq3 : q3.2.2 <:+ z.2.1 := by
          rcases B3 with ⟨_, e⟩ | ⟨_, t2, B⟩
          · rw [← e]; exact hq4
          · exact ((List.suffix_cons _ _).trans (bk_le hR B).2).trans hq4
        have hq2 : q2.2.2 <:+ z.2.1 := by
          rcases B2 with ⟨_, _, e⟩ | ⟨_, _, t2, B⟩
          · rw [← e]; exact hq3
          · exact ((List.suffix_cons _ _).trans (bk_le hR B).2).trans hq3
        have B2' : (o = -1 ∧ q3.1 = q2.1) ∨ (o = (q2.1 : Int) ∧ ∃ p2, BkD (RwD (StD N M z n) z (lvN n)) z (lvN (n + 1)) (p.1 : Int) (q2.1, p2) q3) := by
          rcases B2 with ⟨e, _, e2⟩ | ⟨e, _, t2, B⟩
          · exact Or.inl ⟨e, by rw [e2]⟩
          · exact Or.inr ⟨e, _, B⟩
        have B3' : (g = -1 ∧ q4.1 = q3.1) ∨ (g = (q3.1 : Int) ∧ ∃ p3, BkD (RwD (StD N M z n) z (lvN n)) z (lvN (n + 1)) (p.1 : Int) (q3.1, p3) q4) := by
          rcases B3 with ⟨e, e2⟩ | ⟨e, t2, B⟩
          · exact Or.inl ⟨e, by rw [e2]⟩
          · exact Or.inr ⟨e, _, B⟩
        have := da_ty hR B1 B2' B3' R.kj R.bj R.oj R.gj hz hq2 hq3 hq4
        exact this
      · have e := R.kj
        exact da_lf (by omega)
      · have e := R.kj
        exact da_lf (by omega)
      · have e := R.kj
        exact da_lf (by omega)
      · have e := R.kj
        exact da_lf (by omega)
    obtain ⟨f, rfl⟩ : ∃ k, f = k + 1 := ⟨f - 1, by omega⟩
    rw [d_st, d_t] at hd
    obtain ⟨R1, g, rfl⟩ := omap hd
    exact key f m R1 (by omega) g
