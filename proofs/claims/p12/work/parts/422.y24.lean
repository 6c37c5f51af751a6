/-! jumps lead to S's around -/
abbrev LpK (k : Int) : Prop := k = 58 ∨ k = 59 ∨ k = 60
def ChO (z : ZS) (on : Bool) : Nat → Int → Int → Prop
  | 0, _, _ => False
  | k + 1, a, x => 0 ≤ a ∧ ((x = a ∧ (LpK (kjS z a.toNat) ∨ (on = false ∧ (kjS z a.toNat = 61 ∨ kjS z a.toNat = 6)))) ∨ (x = a + 1 ∧ kjS z a.toNat = 6 ∧ on = true ∧ LpK (kjS z (a.toNat + 1))) ∨ ChO z on k (paS z a.toNat) x)
def JtO (z : ZS) (a : Int) (J : List JmZ) : Prop := ∀ x ∈ J, x.1 < 0 ∨ ∃ k, ChO z x.2.1 k a x.1
section
variable {N : Int → Int} {z : ZS} {T : TbT} {a lv t : Int} {j : Nat} {J K : List JmZ}
theorem tg_ch {on : Bool} {lk : Int} : ∀ (k : Nat) (x : Int), tgZ N z.2.2.1.2 on lk k x < 0 ∨ ChO z on k x (tgZ N z.2.2.1.2 on lk k x) := by
  intro k
  induction k with
  | zero => exact fun x => Or.inl (by show (-1 : Int) < 0; decide)
  | succ k ih =>
    intro x
    rw [tgZ]
    by_cases c : x < 0
    · rw [if_pos c]
      exact Or.inl (by decide)
    · rw [if_neg c]
      have up : tgZ N z.2.2.1.2 on lk k (z.2.2.1.2 x.toNat).1.2.2.2 < 0 ∨ ChO z on (k + 1) x (tgZ N z.2.2.1.2 on lk k (z.2.2.1.2 x.toNat).1.2.2.2) := (ih _).imp id (fun q => ⟨by omega, Or.inr (Or.inr q)⟩)
      by_cases c1 : lk < 0
      · rw [if_pos c1]
        split
        · rename_i e
          have e : kjS z x.toNat = 58 ∨ kjS z x.toNat = 59 ∨ kjS z x.toNat = 60 ∨ (on = false ∧ kjS z x.toNat = 61) := e
          refine Or.inr ⟨by omega, Or.inl ⟨rfl, ?_⟩⟩
          rcases e with e | e | e | e
          · exact Or.inl (Or.inl e)
          · exact Or.inl (Or.inr (Or.inl e))
          · exact Or.inl (Or.inr (Or.inr e))
          · exact Or.inr ⟨e.1, Or.inl e.2⟩
        · exact up
      · rw [if_neg c1]
        split
        · rename_i e
          have e6 : kjS z x.toNat = 6 := e.1
          cases on
          · rw [if_pos rfl]
            exact Or.inr ⟨by omega, Or.inl ⟨rfl, Or.inr ⟨rfl, Or.inr e6⟩⟩⟩
          · rw [if_neg (by decide)]
            split
            · rename_i e2
              exact Or.inr ⟨by omega, Or.inr (Or.inl ⟨rfl, e6, rfl, e2⟩)⟩
            · exact Or.inl (by decide)
        · exact up
theorem JtO.nil : JtO z a [] := fun _ h => absurd h List.not_mem_nil
theorem JtO.ap (h : JtO z a J) (g : JtO z a K) : JtO z a (J ++ K) := fun x q => (List.mem_append.mp q).elim (h x) (g x)
theorem cmR_m {k : Int} {on : Bool} {x : JmZ} : ∀ {J : List JmZ}, x ∈ cmR k on J → x ∈ J ∧ ¬ (x.1 = k ∧ x.2.1 = on) := by
  intro J
  induction J with
  | nil => exact fun h => absurd h List.not_mem_nil
  | cons y J ih =>
    intro h
    rw [cmR] at h
    split at h
    · exact ⟨List.mem_cons_of_mem _ (ih h).1, (ih h).2⟩
    · rename_i c
      rcases List.mem_cons.mp h with rfl | h
      · exact ⟨List.mem_cons_self, c⟩
      · exact ⟨List.mem_cons_of_mem _ (ih h).1, (ih h).2⟩
/-- out of an S -/
theorem jt_up (h : JtO z (j : Int) J) (hpa : paS z j = a) (hK : ∀ x ∈ K, x ∈ J ∧ ¬ x.1 = (j : Int) ∧ (kjS z j = 6 → ¬ x.1 = (j : Int) + 1)) : JtO z a K := fun x hx => by
  obtain ⟨k1, k2, k3⟩ := hK x hx
  rcases h x k1 with q | ⟨k, q⟩
  · exact Or.inl q
  · cases k with
    | zero => exact absurd q id
    | succ k =>
      obtain ⟨_, q | q | q⟩ := q
      · exact absurd q.1 k2
      · rw [Int.toNat_natCast] at q
        exact absurd q.1 (k3 q.2.1)
      · rw [Int.toNat_natCast, hpa] at q
        exact Or.inr ⟨k, q⟩
theorem ch_le (hp : ∀ i, i < snM z → paS z i < (i : Int)) {on : Bool} : ∀ {k : Nat} {a x : Int}, ChO z on k a x → a < (snM z : Int) → x ≤ a + 1 ∧ (x = a + 1 → LpK (kjS z (a.toNat + 1))) := by
  intro k
  induction k with
  | zero => exact fun h => absurd h id
  | succ k ih =>
    intro a x h ha
    obtain ⟨h0, q | q | q⟩ := h
    · exact ⟨by omega, fun e => by omega⟩
    · exact ⟨by omega, fun _ => q.2.2.2⟩
    · have p := hp a.toNat (by omega)
      have r := (ih q (by omega)).1
      exact ⟨by omega, fun e => by omega⟩
/-- no jump from around leads to an S that is no loop -/
theorem ch_ne (hp : ∀ i, i < snM z → paS z i < (i : Int)) {on : Bool} {k : Nat} (h : ChO z on k a (j : Int)) (ha : a < (j : Int)) (hj : j < snM z) : LpK (kjS z j) := by
  have r := ch_le hp h (by omega)
  have e : (j : Int) = a + 1 := by omega
  have q := r.2 e
  rw [show a.toNat + 1 = j by
    cases k with
    | zero => exact absurd h id
    | succ k => have := h.1; omega] at q
  exact q
/-- jumps inside an S that lead to it -/
theorem jt_self (hp : ∀ i, i < snM z → paS z i < (i : Int)) (h : JtO z (j : Int) J) (hj : j < snM z) {x : JmZ} (hx : x ∈ J) (e : x.1 = (j : Int)) : LpK (kjS z j) ∨ (x.2.1 = false ∧ (kjS z j = 61 ∨ kjS z j = 6)) := by
  rcases h x hx with q | ⟨k, q⟩
  · omega
  · rw [e] at q
    cases k with
    | zero => exact absurd q id
    | succ k =>
      obtain ⟨_, q | q | q⟩ := q
      · rw [Int.toNat_natCast] at q
        exact q.2
      · omega
      · rw [Int.toNat_natCast] at q
        exact Or.inl (ch_ne hp q (hp j hj) hj)
/-- from an S that no jump leads to: outwards -/
theorem jt_out (h : JtO z (j : Int) J) (hk : ¬ (LpK (kjS z j) ∨ kjS z j = 61 ∨ kjS z j = 6)) (hpa : paS z j = a) : JtO z a J := fun x hx => by
  rcases h x hx with q | ⟨k, q⟩
  · exact Or.inl q
  · cases k with
    | zero => exact absurd q id
    | succ k =>
      obtain ⟨_, q | q | q⟩ := q
      · rw [Int.toNat_natCast] at q
        exact absurd (q.2.elim Or.inl (fun w => Or.inr w.2)) hk
      · rw [Int.toNat_natCast] at q
        exact absurd (Or.inr (Or.inr q.2.1)) hk
      · rw [Int.toNat_natCast, hpa] at q
        exact Or.inr ⟨k, q⟩
end
/-- no jump of an S leads to itself -/
def JtS (z : ZS) (a : Int) (j : Nat) (J : List JmZ) : Prop := JtO z a J ∧ ∀ x ∈ J, ¬ x.1 = (j : Int)
abbrev JtSo (N : Int → Int) (z : ZS) (T : TbT) (St : SsT) : Prop := ∀ a p q, St a p q → p.1 < q.1 ∧ ∀ (f : Nat) (m : Int64) (R : ReG), 2 * (q.1 - p.1) ≤ f + 1 → a < (p.1 : Int) → q.1 ≤ snM z → (dF N z T f).2.2 p.1 true m = some R → JtS z a p.1 R.2.2.1
abbrev JtRo (N : Int → Int) (z : ZS) (T : TbT) (Rw : RsT) : Prop := ∀ sw k a L p q, Rw sw k a L p q → p.1 ≤ q.1 ∧ ∀ (f : Nat) (al : Bool) (m : Int64), 2 * (q.1 - p.1) ≤ f → a < (p.1 : Int) → q.1 ≤ snM z → (sw = 0 → ∀ R : ReG, (dF N z T f).1 (hdI L) al m = some R → JtO z a R.2.2.1) ∧ (sw = 1 → ∀ (ch : Int64) (d : Bool) (R : Bool × ReG), (dF N z T f).2.1 (hdI L) ch al m d = some R → JtO z a R.2.2.2.1)
def JtI (N : Int → Int) (z : ZS) (T : TbT) (a : Int) (j hi : Nat) : Prop := ∀ (f : Nat) (m : Int64) (R : ReG), 2 * (hi - j) ≤ f + 2 → a < (j : Int) → hi ≤ snM z → inD' (dF N z T f) N z T j m = some R → JtS z a j R.2.2.1
section
variable {N : Int → Int} {z : ZS} {T : TbT} {a lv t : Int} {j k : Nat} {q : Ps} {St : SsT} {Rw : RsT}
theorem bkD_e {F : DzT} {b : Nat} {x : Int} {m : Int64} (h : x = (b : Int)) : bkD' F z x m = F.1 (bjS z b) true m := by
  unfold bkD'
  rw [h, if_neg (by omega), Int.toNat_natCast]
theorem jts_nil : JtS z a j [] := ⟨JtO.nil, fun _ h => absurd h List.not_mem_nil⟩
theorem jt_lf {hi : Nat} (hk : kjS z j = 90 ∨ kjS z j = 94 ∨ kjS z j = 91 ∨ kjS z j = 93 ∨ kjS z j = 4 ∨ kjS z j = 66 ∨ kjS z j = 67) : JtI N z T a j hi := by
  intro f m R _ _ _ h
  have key : R.2.2.1 = [] := by
    by_cases c1 : kjS z j = 90 ∨ kjS z j = 94
    · rw [i_90 c1] at h
      obtain ⟨e, _, rfl⟩ := omap h
      rfl
    · by_cases c2 : kjS z j = 91 ∨ kjS z j = 93
      · rw [i_91 c2] at h
        unfold tdD at h
        split at h
        · cases h; rfl
        · obtain ⟨e, _, rfl⟩ := omap h
          rfl
      · by_cases c3 : kjS z j = 4
        · rw [i_4 c3] at h
          cases h; rfl
        · rw [i_66 (by omega)] at h
          obtain ⟨e, _, rfl⟩ := omap h
          rfl
  rw [key]
  exact jts_nil
theorem jt_ju {hi : Nat} (hk : kjS z j = 64 ∨ kjS z j = 65) (hpa : paS z j = a) (hp : ∀ i, i < snM z → paS z i < (i : Int)) (hj : j < hi) : JtI N z T a j hi := by
  intro f m R _ ha hz h
  rw [i_64 hk] at h
  cases h
  have c := tg_ch (N := N) (z := z) (on := decide (kjS z j = 65)) (lk := ljS z j) (snM z) (paS z j)
  rw [hpa] at c
  have e : tjT N z j = tgZ N z.2.2.1.2 (decide (kjS z j = 65)) (ljS z j) (snM z) a := by unfold tjT; rw [hpa]
  refine ⟨fun x hx => ?_, fun x hx => ?_⟩
  · rw [List.mem_singleton.mp hx]
    show tjT N z j < 0 ∨ ∃ k, ChO z (decide (kjS z j = 65)) k a (tjT N z j)
    rw [e]
    exact c.imp id (fun q => ⟨_, q⟩)
  · rw [List.mem_singleton.mp hx]
    show ¬ tjT N z j = (j : Int)
    rw [e]
    intro ej
    rcases c with c | c
    · omega
    · rw [ej] at c
      have lp := ch_ne hp c ha (by omega)
      unfold LpK at lp
      omega
theorem jts_pl (hp : ∀ i, i < snM z → paS z i < (i : Int)) {J : List JmZ} (h : JtO z (j : Int) J) (hj : j < snM z) (hk : ¬ (LpK (kjS z j) ∨ kjS z j = 61 ∨ kjS z j = 6)) (hpa : paS z j = a) : JtS z a j J := ⟨jt_out h hk hpa, fun x hx e => hk ((jt_self hp h hj hx e).imp id (fun w => w.2))⟩
theorem jt_bl (hp : ∀ i, i < snM z → paS z i < (i : Int)) (hR : JtRo N z T Rw) {L : List Nat} {p : Nat × List ItZ} (hr : Rw 0 0 j L (j + 1, p) q) (hk : kjS z j = 2) (hpa : paS z j = a) (hb : bjS z j = hdI L) : JtI N z T a j q.1 := by
  intro f m R hf ha hz h
  obtain ⟨s1, s2⟩ := hR _ _ _ _ _ _ hr
  have s1 : j + 1 ≤ q.1 := s1
  rw [i_2 hk] at h
  have h : (dF N z T f).1 (bjS z j) true m = some R := h
  rw [hb] at h
  exact jts_pl hp ((s2 f true m (by show 2 * (q.1 - (j + 1)) ≤ f; omega) (by show (j : Int) < ((j + 1 : Nat) : Int); omega) hz).1 rfl R h) (by omega) (by unfold LpK; omega) hpa
theorem jt_la (hp : ∀ i, i < snM z → paS z i < (i : Int)) (hS : JtSo N z T St) {p : Nat × List ItZ} {q1 : Ps} (hs : St j (j + 1, p) q1) (hk : kjS z j = 6) (hpa : paS z j = a) (hb : bjS z j = ((j + 1 : Nat) : Int)) : JtI N z T a j q1.1 := by
  intro f m R hf ha hz h
  obtain ⟨s1, s2⟩ := hS _ _ _ hs
  have s1 : j + 1 < q1.1 := s1
  rw [i_6 hk] at h
  unfold laD' at h
  rw [bdD_e hb] at h
  obtain ⟨R1, h1, rfl⟩ := omap h
  obtain ⟨g1, g2⟩ := s2 f m R1 (by show 2 * (q1.1 - (j + 1)) ≤ f + 1; omega) (by show (j : Int) < ((j + 1 : Nat) : Int); omega) hz h1
  have nj : ∀ x ∈ cmR j false R1.2.2.1, ¬ x.1 = (j : Int) := fun x hx e => by
    obtain ⟨c1, c2⟩ := cmR_m hx
    rcases jt_self hp g1 (by omega) c1 e with w | w
    · unfold LpK at w; omega
    · exact c2 ⟨e, w.1⟩
  refine ⟨jt_up g1 hpa (fun x hx => ⟨(cmR_m hx).1, nj x hx, fun _ => ?_⟩), nj⟩
  have := g2 x (cmR_m hx).1
  have : ¬ x.1 = ((j + 1 : Nat) : Int) := this
  omega
theorem jt_if1 (hp : ∀ i, i < snM z → paS z i < (i : Int)) (hS : JtSo N z T St) {p : Nat × List ItZ} {q1 : Ps} (hs : St j (j + 1, p) q1) (hk : kjS z j = 56) (hpa : paS z j = a) (hb : bjS z j = ((j + 1 : Nat) : Int)) (ho : ojS z j = -1) : JtI N z T a j q1.1 := by
  intro f m R hf ha hz h
  obtain ⟨s1, s2⟩ := hS _ _ _ hs
  have s1 : j + 1 < q1.1 := s1
  rw [i_56 hk] at h
  unfold ifD' at h
  obtain ⟨e, _, h⟩ := obind h
  rw [bdD_e hb, ho] at h
  obtain ⟨R1, h1, h⟩ := obind h
  rw [if_pos (by decide)] at h
  cases h
  obtain ⟨g1, g2⟩ := s2 f e.1 R1 (by show 2 * (q1.1 - (j + 1)) ≤ f + 1; omega) (by show (j : Int) < ((j + 1 : Nat) : Int); omega) hz h1
  exact jts_pl hp g1 (by omega) (by unfold LpK; omega) hpa
theorem jt_if2 (hp : ∀ i, i < snM z → paS z i < (i : Int)) (hS : JtSo N z T St) {p : Nat × List ItZ} {q1 q2 : Ps} {p2 : Nat × List ItZ} (hs : St j (j + 1, p) q1) (hs2 : St j (q1.1, p2) q2) (hk : kjS z j = 56) (hpa : paS z j = a) (hb : bjS z j = ((j + 1 : Nat) : Int)) (ho : ojS z j = (q1.1 : Int)) : JtI N z T a j q2.1 := by
  intro f m R hf ha hz h
  obtain ⟨s1, s2⟩ := hS _ _ _ hs
  have s1 : j + 1 < q1.1 := s1
  obtain ⟨u1, u2⟩ := hS _ _ _ hs2
  have u1 : q1.1 < q2.1 := u1
  rw [i_56 hk] at h
  unfold ifD' at h
  obtain ⟨e, _, h⟩ := obind h
  rw [bdD_e hb, ho] at h
  obtain ⟨R1, h1, h⟩ := obind h
  rw [if_neg (by omega), Int.toNat_natCast] at h
  obtain ⟨R2, h2, rfl⟩ := omap h
  obtain ⟨g1, g2⟩ := s2 f e.1 R1 (by show 2 * (q1.1 - (j + 1)) ≤ f + 1; omega) (by show (j : Int) < ((j + 1 : Nat) : Int); omega) (by omega) h1
  obtain ⟨w1, w2⟩ := u2 f e.2 R2 (by show 2 * (q2.1 - q1.1) ≤ f + 1; omega) (by show (j : Int) < ((q1.1 : Nat) : Int); omega) hz h2
  exact jts_pl hp (g1.ap w1) (by omega) (by unfold LpK; omega) hpa
theorem jts_lp {J : List JmZ} (h : JtO z (j : Int) J) (hk : LpK (kjS z j)) (hpa : paS z j = a) : JtS z a j (cmR j false (cmR j true J)) := by
  have nj : ∀ x ∈ cmR j false (cmR j true J), x ∈ J ∧ ¬ x.1 = (j : Int) := fun x hx => by
    obtain ⟨c1, c2⟩ := cmR_m hx
    obtain ⟨c3, c4⟩ := cmR_m c1
    refine ⟨c3, fun e => ?_⟩
    cases b : x.2.1
    · exact c2 ⟨e, b⟩
    · exact c4 ⟨e, b⟩
  exact ⟨jt_up h hpa (fun x hx => ⟨(nj x hx).1, (nj x hx).2, fun q => by unfold LpK at hk; omega⟩), fun x hx => (nj x hx).2⟩
theorem jt_wh (hS : JtSo N z T St) {b : Nat} {p : Nat × List ItZ} {q1 : Ps} (hs : St j (b, p) q1) (hjb : j < b) (hk : kjS z j = 58 ∨ kjS z j = 60) (hpa : paS z j = a) (hb : bjS z j = (b : Int)) : JtI N z T a j q1.1 := by
  intro f m R hf ha hz h
  obtain ⟨s1, s2⟩ := hS _ _ _ hs
  have s1 : b < q1.1 := s1
  rw [i_58 hk] at h
  unfold whD' at h
  obtain ⟨i, _, h⟩ := obind h
  obtain ⟨e, _, h⟩ := obind h
  rw [bdD_e hb] at h
  obtain ⟨R1, h1, h⟩ := obind h
  obtain ⟨u, _, rfl⟩ := omap h
  have al : alwT z T j 0 = false := by
    cases g : alwT z T j 0
    · rfl
    · rw [g] at h1
      have h1 : (dF N z T f).2.2 b false e.1 = some R1 := h1
      rw [d_fa (by omega)] at h1
      cases h1
  rw [al] at h1
  exact jts_lp (s2 f e.1 R1 (by show 2 * (q1.1 - b) ≤ f + 1; omega) (by show (j : Int) < ((b : Nat) : Int); omega) hz h1).1 (by unfold LpK; omega) hpa
theorem jt_do (hS : JtSo N z T St) {p : Nat × List ItZ} {q1 : Ps} (hs : St j (j + 1, p) q1) (hk : kjS z j = 59) (hpa : paS z j = a) (hb : bjS z j = ((j + 1 : Nat) : Int)) : JtI N z T a j q1.1 := by
  intro f m R hf ha hz h
  obtain ⟨s1, s2⟩ := hS _ _ _ hs
  have s1 : j + 1 < q1.1 := s1
  rw [i_59 hk] at h
  unfold doD' at h
  rw [bdD_e hb] at h
  obtain ⟨R1, h1, h⟩ := obind h
  obtain ⟨e, _, rfl⟩ := omap h
  exact jts_lp (s2 f m R1 (by show 2 * (q1.1 - (j + 1)) ≤ f + 1; omega) (by show (j : Int) < ((j + 1 : Nat) : Int); omega) hz h1).1 (by unfold LpK; omega) hpa
theorem jt_row (hS : JtSo N z T St) (hkd : ∀ a p q, St a p q → ¬ kjS z p.1 = 62 ∧ ¬ kjS z p.1 = 63) : JtRo N z T (RwD St z lv) := by
  intro sw k a L
  induction L with
  | nil =>
    intro p q h
    rw [show q = p from h]
    refine ⟨Nat.le_refl _, fun f al m _ _ _ => ⟨fun _ R h => ?_, fun _ ch d R h => ?_⟩⟩
    · rw [show hdI [] = -1 from rfl, d_r0 (by decide)] at h
      cases h
      exact JtO.nil
    · rw [show hdI [] = -1 from rfl, d_s0 (by decide)] at h
      cases h
      exact JtO.nil
  | cons j L ih =>
    intro p q ⟨e1, e2, p1, h1, h2⟩
    obtain ⟨i1, i2⟩ := ih p1 q h2
    subst e1
    rcases h1 with ⟨es, h1⟩ | h1
    · have cs : (kjS z p.1 = 62 ∨ kjS z p.1 = 63) ∧ p1.1 = p.1 + 1 := by
        rcases h1 with ⟨t, m, r, R, _, rfl⟩ | ⟨t, R, rfl⟩
        · exact ⟨Or.inl R.kj, rfl⟩
        · exact ⟨Or.inr R.kj, rfl⟩
      refine ⟨by omega, fun f al m hf ha hz => ⟨fun e => by omega, fun _ ch d R h => ?_⟩⟩
      obtain ⟨f, rfl⟩ : ∃ k, f = k + 1 := ⟨f - 1, by omega⟩
      rw [show hdI (p.1 :: L) = (p.1 : Int) from rfl, d_s1 cs.1, e2] at h
      exact (i2 f true _ (by omega) (by omega) hz).2 es ch _ R h
    · obtain ⟨s1, s2⟩ := hS _ _ _ h1
      have cs := hkd _ _ _ h1
      have alt : ∀ (f : Nat) (al : Bool) (m : Int64) (R : ReG), 1 ≤ f → (dF N z T f).2.2 p.1 al m = some R → al = true := fun f al m R hf h => by
        cases al
        · rw [d_fa hf] at h
          cases h
        · rfl
      refine ⟨by omega, fun f al m hf ha hz => ⟨fun es R h => ?_, fun es ch d R h => ?_⟩⟩
      · obtain ⟨f, rfl⟩ : ∃ k, f = k + 1 := ⟨f - 1, by omega⟩
        rw [show hdI (p.1 :: L) = (p.1 : Int) from rfl, d_r1, e2] at h
        obtain ⟨R1, g1, h⟩ := obind h
        obtain ⟨R2, g2, rfl⟩ := omap h
        have at_ := alt f al m R1 (by omega) g1
        subst at_
        exact (s2 f m R1 (by omega) ha (by omega) g1).1.ap ((i2 f R1.1 R1.2.1 (by omega) (by omega) hz).1 es R2 g2)
      · obtain ⟨f, rfl⟩ : ∃ k, f = k + 1 := ⟨f - 1, by omega⟩
        rw [show hdI (p.1 :: L) = (p.1 : Int) from rfl, d_s2 (by omega), e2] at h
        obtain ⟨R1, g1, h⟩ := obind h
        obtain ⟨R2, g2, rfl⟩ := omap h
        have at_ := alt f al m R1 (by omega) g1
        subst at_
        exact (s2 f m R1 (by omega) ha (by omega) g1).1.ap ((i2 f R1.1 R1.2.1 (by omega) (by omega) hz).2 es ch d R2 g2)
theorem jt_sw (hp : ∀ i, i < snM z → paS z i < (i : Int)) (hR : JtRo N z T Rw) {L : List Nat} {p : Nat × List ItZ} {q1 : Ps} (hr : Rw 1 k j L (j + 1, p) q1) (hk : kjS z j = 61) (hpa : paS z j = a) (hb : bjS z j = hdI L) : JtI N z T a j q1.1 := by
  intro f m R hf ha hz h
  obtain ⟨s1, s2⟩ := hR _ _ _ _ _ _ hr
  have s1 : j + 1 ≤ q1.1 := s1
  rw [i_61 hk] at h
  unfold swD' at h
  obtain ⟨e, _, h⟩ := obind h
  rw [hb] at h
  obtain ⟨R1, h1, rfl⟩ := omap h
  have g1 := (s2 f false allB (by show 2 * (q1.1 - (j + 1)) ≤ f; omega) (by show (j : Int) < ((j + 1 : Nat) : Int); omega) hz).2 rfl _ false R1 h1
  have nj : ∀ x ∈ cmR j false R1.2.2.2.1, ¬ x.1 = (j : Int) := fun x hx e => by
    obtain ⟨c1, c2⟩ := cmR_m hx
    rcases jt_self hp g1 (by omega) c1 e with w | w
    · unfold LpK at w; omega
    · exact c2 ⟨e, w.1⟩
  exact ⟨jt_up g1 hpa (fun x hx => ⟨(cmR_m hx).1, nj x hx, fun q => by omega⟩), nj⟩
theorem jt_fn {J : List JmZ} {e : Bool} {b : Int64} (h : JtO z a J) : JtO z a (J.map (fnJ e b)) := fun x hx => by
  obtain ⟨y, hy, rfl⟩ := List.mem_map.mp hx
  exact h y hy
theorem jt_bk (hR : JtRo N z T Rw) {p q : Ps} (hB : BkD Rw z lv (j : Int) p q) {f : Nat} {m : Int64} {R : ReG} (hf : 2 * (q.1 - p.1) ≤ f + 2) (hz : q.1 ≤ snM z) (h : (dF N z T f).1 (bjS z p.1) true m = some R) : JtO z (j : Int) R.2.2.1 ∧ p.1 < q.1 := by
  obtain ⟨L, t, hr, D⟩ := hB
  obtain ⟨s1, s2⟩ := hR _ _ _ _ _ _ hr
  have s1 : p.1 + 1 ≤ q.1 := s1
  rw [D.bj] at h
  have r := (s2 f true m (by show 2 * (q.1 - (p.1 + 1)) ≤ f; omega) (by show ((p.1 : Nat) : Int) < ((p.1 + 1 : Nat) : Int); omega) hz).1 rfl R h
  have e := D.kj
  exact ⟨jt_out r (by unfold LpK; omega) D.pa, by omega⟩
theorem jt_ty (hp : ∀ i, i < snM z → paS z i < (i : Int)) (hR : JtRo N z T Rw) {p : Nat × List ItZ} {q1 q2 q3 : Ps} {o g : Int} (B1 : BkD Rw z lv (j : Int) (j + 1, p) q1) (B2 : (o = -1 ∧ q2.1 = q1.1) ∨ (o = (q1.1 : Int) ∧ ∃ p2, BkD Rw z lv (j : Int) (q1.1, p2) q2)) (B3 : (g = -1 ∧ q3.1 = q2.1) ∨ (g = (q2.1 : Int) ∧ ∃ p3, BkD Rw z lv (j : Int) (q2.1, p3) q3)) (hk : kjS z j = 68) (hpa : paS z j = a) (hb : bjS z j = ((j + 1 : Nat) : Int)) (ho : ojS z j = o) (hg : gjS z j = g) : JtI N z T a j q3.1 := by
  intro f m R hf ha hz h
  rw [i_68 hk] at h
  unfold tyD' at h
  rw [bkD_e hb, ho, hg] at h
  obtain ⟨A, hA, h⟩ := obind h
  obtain ⟨C, hC, h⟩ := obind h
  obtain ⟨L1, t1, hr1, D1⟩ := id B1
  have l1 : j + 1 + 1 ≤ q1.1 := (hR _ _ _ _ _ _ hr1).1
  have l2 : q1.1 ≤ q2.1 := by
    rcases B2 with ⟨_, e⟩ | ⟨_, p2, L2, t2, hr2, D2⟩
    · omega
    · have : q1.1 + 1 ≤ q2.1 := (hR _ _ _ _ _ _ hr2).1
      omega
  have l3 : q2.1 ≤ q3.1 := by
    rcases B3 with ⟨_, e⟩ | ⟨_, p2, L2, t2, hr2, D2⟩
    · omega
    · have : q2.1 + 1 ≤ q3.1 := (hR _ _ _ _ _ _ hr2).1
      omega
  have a1 := (jt_bk hR B1 (by show 2 * (q1.1 - (j + 1)) ≤ f + 2; omega) (by omega) hA).1
  have c1 : JtO z (j : Int) C.2.2.1 := by
    rcases B2 with ⟨e, _⟩ | ⟨e, p2, B2⟩
    · rw [e, if_pos (by decide)] at hC
      cases hC
      exact a1
    · rw [e, if_neg (by omega), bkD_e rfl] at hC
      obtain ⟨B, hB, rfl⟩ := omap hC
      exact a1.ap (jt_bk hR B2 (by show 2 * (q2.1 - q1.1) ≤ f + 2; omega) (by omega) hB).1
  have r1 : JtO z (j : Int) R.2.2.1 := by
    rcases B3 with ⟨e, _⟩ | ⟨e, p2, B3⟩
    · rw [e, if_pos (by decide)] at h
      cases h
      exact c1
    · rw [e, if_neg (by omega), bkD_e rfl] at h
      obtain ⟨D, hD, rfl⟩ := omap h
      exact (jt_fn c1).ap (jt_bk hR B3 (by show 2 * (q3.1 - q2.1) ≤ f + 2; omega) hz hD).1
  exact jts_pl hp r1 (by omega) (by unfold LpK; omega) hpa
end
