/-! the reference when nothing was read yet -/
def NoR (σ : RS) : Prop := ((gI σ 2).toInt = 0 ∧ (gI σ 18).toInt = 0) ∧ (gI σ 36).toInt = 0 ∧ (gI σ 42).toInt = 0
def NoJ (σ : RS) : Prop := gI σ 66 = 0 ∧ (gI σ 74).toInt = 0 ∧ (gI σ 2).toInt = 0
def NoU (σ : RS) : Prop := (gI σ 68 = 0 ∧ NoR σ) ∨ (gI σ 68 = 1 ∧ NoJ σ)
def NoC : CxT := (fun _ => 0, fun _ => (0, 0), 0, fun i => if i = 10 then some (0, 5, [4]) else if i = 11 then some (0, 3, []) else none)
def NoT : TbT := (fun _ => (0, 0, 0, 0), fun _ => (0, 0))
theorem no_mt {Y : RS} (h : (gI Y 36).toInt = 0) : MtR Y NoC.2.2.2 0 := by
  refine ⟨⟨h, Nat.zero_le _⟩, fun m m0 m1 => ?_⟩
  have k10 : m = 10 ↔ m.toInt = 10 := Int32.toInt_inj.symm
  have k11 : m = 11 ↔ m.toInt = 11 := Int32.toInt_inj.symm
  by_cases c : m.toInt = 10
  · have cn : m.toInt.toNat = 10 := by omega
    have e : NoC.2.2.2 m.toInt.toNat = some (0, 5, [4]) := if_pos cn
    rw [e]
    refine ⟨⟨fun _ => ⟨_, rfl⟩, fun _ => Or.inr (by omega)⟩, fun f hf => ?_⟩
    obtain rfl := Option.some.inj hf
    refine ⟨⟨?_, fun i i0 i1 => ?_⟩, fun k k0 k1 => by omega⟩
    · rw [if_pos (k10.mpr c)]
      rfl
    · rw [if_pos (k10.mpr c)]
      have i1 : i.toInt < 1 := i1
      have : i.toInt.toNat = 0 := by omega
      show (4 : Int32).toInt = [4].getD i.toInt.toNat 0
      rw [this]
      rfl
  by_cases d : m.toInt = 11
  · have cn : ¬ m.toInt.toNat = 10 := by omega
    have dn : m.toInt.toNat = 11 := by omega
    have e : NoC.2.2.2 m.toInt.toNat = some (0, 3, []) := (if_neg cn).trans (if_pos dn)
    rw [e]
    refine ⟨⟨fun _ => ⟨_, rfl⟩, fun _ => Or.inr (by omega)⟩, fun f hf => ?_⟩
    obtain rfl := Option.some.inj hf
    refine ⟨⟨?_, fun i i0 i1 => ?_⟩, fun k k0 k1 => by omega⟩
    · rw [if_neg (fun q => c (k10.mp q)), if_pos (k11.mpr d)]
      rfl
    · have i1 : i.toInt < 0 := i1
      omega
  · have cn : ¬ m.toInt.toNat = 10 := by omega
    have dn : ¬ m.toInt.toNat = 11 := by omega
    have e : NoC.2.2.2 m.toInt.toNat = none := (if_neg cn).trans (if_neg dn)
    rw [e]
    refine ⟨⟨fun q => absurd q (by omega), fun ⟨_, q⟩ => by cases q⟩, fun f hf => by cases hf⟩
theorem fl0_n {σ : RS} : gI (fl0 σ) 112 = 0 ∧ gI (fl0 σ) 114 = 0 := ⟨rfl, rfl⟩
theorem flt_0 {σ : RS} (h : ¬ 0 < gI σ 18) : ∀ (n : Nat) (Y : RS) (c m : Int32), FlT (fl0 σ) n Y c m → Y = fl0 σ ∧ c = 0 := by
  intro n
  induction n with
  | zero => exact fun Y c m q => ⟨q.1, q.2.1⟩
  | succ n ih =>
    intro Y c m ⟨X, d, k, h1, h2, _⟩
    obtain ⟨rfl, rfl⟩ := ih X d k h1
    rw [ff_fl0.1 18 rfl] at h2
    exact absurd h2 h
theorem no_j {σ τ : RS} (h : NoR σ) (h91 : gI σ 91 = 0) (ev : EvM 82 [] σ none τ) : NoJ τ := by
  obtain ⟨⟨h2, h18⟩, h36, h42⟩ := h
  have nil : ∀ {w : ItZ} {l : List ItZ}, ¬ (w :: l) <:+ ([] : List ItZ) := fun q => by
    have := List.eq_nil_of_suffix_nil q
    cases this
  have J := w_judgeAllB [] σ trivial none τ ev (fun _ => 0) NoC (fun _ => 0) NoT [] 0 0 0 (fun _ => False) ⟨⟨rfl, h18, by decide⟩, ⟨fun _ x l q => absurd q nil, fun y l q => absurd q nil⟩, ⟨fun Y hY => no_mt (by
    have e : gI Y 36 = gI (sI σ 68 1) 36 := hY.1 36 (by decide) (by decide) (by decide) (by decide) (by decide) (by decide)
    rw [e]
    exact h36), fun v hv => absurd hv (Nat.not_lt_zero _), ⟨h42, rfl⟩, ⟨fun k hk => absurd hk (Nat.not_lt_zero _), h91, by omega⟩, fun v => rfl, fun v hv => absurd hv (Nat.not_lt_zero _), fun i e he => ?_⟩⟩
  · rcases J with ⟨_, ⟨n, _⟩ | ⟨_, σ1, T, _, _, J, ef⟩⟩
    · exact absurd ⟨⟨fun k hk => absurd hk (Nat.not_lt_zero _), fun v hv => absurd hv (Nat.not_lt_zero _)⟩, NoT, rfl⟩ n
    · obtain ⟨_, n, Y, c, m, hF, hc, rfl⟩ := w_flow [] σ1 trivial none τ ef trivial
      have jI : ∀ k, k ≠ 66 → k ≠ 67 → k ≠ 69 → k ≠ 74 → k ≠ 89 → k ≠ 91 → gI σ1 k = gI (sI σ 68 1) k := J.1.1.1
      have e18 : gI σ1 18 = gI σ 18 := jI 18 (by decide) (by decide) (by decide) (by decide) (by decide) (by decide)
      have e2 : gI σ1 2 = gI σ 2 := jI 2 (by decide) (by decide) (by decide) (by decide) (by decide) (by decide)
      obtain ⟨rfl, _⟩ := flt_0 (σ := σ1) (by rw [e18, Int32.lt_iff_toInt_lt, h18]; decide) n Y c m hF
      have eY : flE (fl0 σ1) = fl0 σ1 := by
        unfold flE
        rw [if_pos fl0_n.1, if_pos fl0_n.2]
      rw [eY]
      refine ⟨(ff_fl0.1 66 rfl).trans J.1.2.1, ?_, ?_⟩
      · rw [ff_fl0.1 74 rfl]
        exact J.2.2.1.1
      · rw [ff_fl0.1 2 rfl, e2]
        exact h2
  · have he : (if i = 10 then some ((0, 5, [4]) : MtT) else if i = 11 then some (0, 3, []) else none) = some e := he
    split at he
    · obtain rfl := Option.some.inj he
      exact ⟨by decide, by decide⟩
    · split at he
      · obtain rfl := Option.some.inj he
        exact ⟨by decide, by decide⟩
      · cases he
/-- what stands where nothing was read: the program of an empty text -/
def EmW (z : ZS) : Prop := z.2.1 = [] ∧ zMs z.1 = [] ∧ zVs z.1 = []
def RfS (N : Int → Int) (σ : RS) (s : SpC) (z : ZS) : Prop := RfU N σ s z ∨ (NoU σ ∧ EmW z)
theorem em_ok {N : Int → Int} {s : SpC} {z : ZS} (h : EmW z) : OkP N s z [] (t0T (CxR N z).1 (fun i => xth z i)) := by
  obtain ⟨h1, h2, h3⟩ := h
  refine ⟨⟨fun k hk => ?_, fun v hv => ?_⟩, ?_, fun y l q => ?_, trivial⟩
  · rw [h2] at hk
    exact absurd hk (Nat.not_lt_zero _)
  · have hv : v < (zVs z.1).length := hv
    rw [h3] at hv
    exact absurd hv (Nat.not_lt_zero _)
  · have e : xnM z = 0 := by
      show xcZ z.2.1 = 0
      rw [h1]
      rfl
    rw [e]
    rfl
  · rw [h1] at q
    have := List.eq_nil_of_suffix_nil q
    cases this
section
variable {N : Int → Int} {σ τ : RS} {s : SpC} {z : ZS} {L : List Nat}
theorem F8.no (f : F8 σ τ) (h : NoU σ) : NoU τ := by
  have e : ∀ k, k < 118 → ¬ k = 1 → ¬ k = 68 → gI τ k = gI σ k := f.1.1
  rcases h with ⟨a, ⟨b1, b2⟩, b3, b4⟩ | ⟨a, b1, b2, b3⟩
  · refine Or.inl ⟨f.2.trans a, ⟨?_, ?_⟩, ?_, ?_⟩
    · rw [e 2 (by decide) (by decide) (by decide)]; exact b1
    · rw [e 18 (by decide) (by decide) (by decide)]; exact b2
    · rw [e 36 (by decide) (by decide) (by decide)]; exact b3
    · rw [e 42 (by decide) (by decide) (by decide)]; exact b4
  · refine Or.inr ⟨f.2.trans a, ?_, ?_, ?_⟩
    · rw [e 66 (by decide) (by decide) (by decide)]; exact b1
    · rw [e 74 (by decide) (by decide) (by decide)]; exact b2
    · rw [e 2 (by decide) (by decide) (by decide)]; exact b3
theorem NoU.jd (h : NoU σ) (h91 : gI σ 91 = 0) (j : JdR σ τ) : gI τ 68 = 1 ∧ NoJ τ := by
  rcases h with ⟨a, b⟩ | ⟨a, b⟩
  · rcases j with ⟨n, _⟩ | ⟨_, e⟩
    · exact absurd a n
    · exact ⟨w_68 e, no_j b h91 e⟩
  · rcases j with ⟨_, rfl⟩ | ⟨n, _⟩
    · exact ⟨a, b⟩
    · rw [a] at n
      exact absurd n (by decide)
theorem RfS.f8 (h : RfS N σ s z) (f : F8 σ τ) : RfS N τ s z := h.imp (fun q => q.f8 f) (fun q => ⟨f.no q.1, q.2⟩)
theorem RfS.jd (h : RfS N σ s z) (h91 : gI σ 91 = 0) (j : JdR σ τ) : RfS N τ s z := h.imp (fun q => Or.inr (q.jd h91 j)) (fun q => ⟨Or.inr (q.1.jd h91 j), q.2⟩)
theorem RfS.hx (h : RfS N σ s z) (h91 : gI σ 91 = 0) (j : HX σ τ) : RfS N τ s z := by
  obtain ⟨X, j, f⟩ := hx_jd j
  exact (h.jd h91 j).f8 f
theorem RfS.judge {w : Option Value} (h : RfS N σ s z) (h91 : gI σ 91 = 0) (e : EvM 126 [] σ w τ) : RfS N τ s z := by
  obtain ⟨X, j, f, _⟩ := (w_judge [] σ trivial w τ e) trivial
  exact (h.jd h91 j).f8 f
theorem xa_no {i k x : Int32} (h : (gI τ 74).toInt = 0) (hx : XaR τ i k x) : x < 0 := by
  unfold XaR at hx
  rw [h] at hx
  rcases hx with ⟨a, _⟩ | ⟨a, b, _⟩
  · rw [a]
    decide
  · omega
theorem tkn_no {i : Int32} (h : (gI τ 2).toInt = 0) : ¬ tokR τ i := by
  rintro ⟨a, b⟩
  have e : tkcR τ = 0 := by
    unfold tkcR
    rw [if_neg]
    rw [Int32.lt_iff_toInt_lt, h]
    decide
  rw [e] at b
  rw [Int32.le_iff_toInt_le] at a
  rw [Int32.lt_iff_toInt_lt] at b
  omega
theorem em_L (h : EmW z) (hL : L.length = (zMs z.1).length) : L = [] := by
  rw [h.2.1] at hL
  exact List.eq_nil_of_length_eq_zero hL
theorem RfS.type {w : Option Value} {i k : Int32} (h : RfS N σ s z) (h91 : gI σ 91 = 0) (hL : L.length = (zMs z.1).length) (P : PrD N z L 0 (0, 0, []) (psM z)) (e : EvM 135 [.int i, .int k] σ w τ) : RfS N τ s z ∧ ∃ r : Int32, w = some (.int r) ∧ ((r = -2 ∧ ∀ T, ¬ OkP N s z L T) ∨ ∃ T, OkP N s z L T ∧ r.toInt = tyW T z.2.1 i.toInt k.toInt) := by
  rcases h with h | ⟨h, m⟩
  · have q := h.type h91 hL P e
    exact ⟨Or.inl (Or.inr q.1), q.2⟩
  · obtain ⟨j, r, rfl, q⟩ := (w_type [.int i, .int k] σ trivial w τ e) trivial
    have J := h.jd h91 j
    refine ⟨Or.inr ⟨Or.inr J, m⟩, r, rfl, Or.inr ?_⟩
    obtain rfl := em_L m hL
    refine ⟨_, em_ok m, ?_⟩
    rcases q with ⟨q, _⟩ | ⟨_, x, q1, q2⟩
    · exact absurd J.2.1 q
    · have hx := xa_no J.2.2.1 q1
      rcases q2 with ⟨_, q2⟩ | ⟨q2, _⟩
      · unfold tyW
        rw [m.1, q2]
        show (-1 : Int32).toInt = -1
        decide
      · exact absurd hx q2
theorem RfS.constant {w : Option Value} {i k : Int32} (h : RfS N σ s z) (h91 : gI σ 91 = 0) (hL : L.length = (zMs z.1).length) (P : PrD N z L 0 (0, 0, []) (psM z)) (e : EvM 136 [.int i, .int k] σ w τ) : RfS N τ s z ∧ ∃ r : Int64, w = some (.long r) ∧ ((r = NTW ∧ ∀ T, ¬ OkP N s z L T) ∨ ∃ T, OkP N s z L T ∧ r = coA T z.2.1 i.toInt k.toInt) := by
  rcases h with h | ⟨h, m⟩
  · have q := h.constant h91 hL P e
    exact ⟨Or.inl (Or.inr q.1), q.2⟩
  · obtain ⟨j, r, rfl, q⟩ := (w_constant [.int i, .int k] σ trivial w τ e) trivial
    have J := h.jd h91 j
    refine ⟨Or.inr ⟨Or.inr J, m⟩, r, rfl, Or.inr ?_⟩
    obtain rfl := em_L m hL
    refine ⟨_, em_ok m, ?_⟩
    rcases q with ⟨q, _⟩ | ⟨_, x, q1, q2⟩
    · exact absurd J.2.1 q
    · have hx := xa_no J.2.2.1 q1
      rcases q2 with ⟨_, q2⟩ | ⟨q2, _⟩
      · unfold coA
        rw [m.1, q2]
        rfl
      · exact absurd (Or.inl hx) q2
theorem RfS.ends {w : Option Value} {i : Int32} (h : RfS N σ s z) (h91 : gI σ 91 = 0) (hL : L.length = (zMs z.1).length) (P : PrD N z L 0 (0, 0, []) (psM z)) (e : EvM 137 [.int i] σ w τ) : RfS N τ s z ∧ ∃ r : Int32, w = some (.int r) ∧ ((r = -2 ∧ ∀ T, ¬ OkP N s z L T) ∨ ∃ T, OkP N s z L T ∧ EnW z (GlW N s z L T) i.toInt r) := by
  rcases h with h | ⟨h, m⟩
  · have q := h.ends h91 hL P e
    exact ⟨Or.inl (Or.inr q.1), q.2⟩
  · obtain ⟨j, r, rfl, q⟩ := (w_ends [.int i] σ trivial w τ e) trivial
    have J := h.jd h91 j
    refine ⟨Or.inr ⟨Or.inr J, m⟩, r, rfl, Or.inr ?_⟩
    obtain rfl := em_L m hL
    refine ⟨_, em_ok m, Or.inr ⟨fun x hx => absurd hx List.not_mem_nil, ?_⟩⟩
    rcases q with ⟨q, _⟩ | ⟨_, ⟨_, q⟩ | ⟨⟨q, _⟩, _⟩⟩
    · exact absurd J.2.1 q
    · exact q
    · exact absurd q (tkn_no J.2.2.2)
theorem RfS.assigned {w : Option Value} {i k : Int32} (h : RfS N σ s z) (h91 : gI σ 91 = 0) (hL : L.length = (zMs z.1).length) (P : PrD N z L 0 (0, 0, []) (psM z)) (e : EvM 138 [.int i, .int k] σ w τ) : RfS N τ s z ∧ ∃ r : Int32, w = some (.int r) ∧ ((r = -2 ∧ ∀ T, ¬ OkP N s z L T) ∨ ∃ T, OkP N s z L T ∧ AsW z (GlW N s z L T) i.toInt k r) := by
  rcases h with h | ⟨h, m⟩
  · have q := h.assigned h91 hL P e
    exact ⟨Or.inl (Or.inr q.1), q.2⟩
  · obtain ⟨j, r, rfl, q⟩ := (w_assigned [.int i, .int k] σ trivial w τ e) trivial
    have J := h.jd h91 j
    refine ⟨Or.inr ⟨Or.inr J, m⟩, r, rfl, Or.inr ?_⟩
    obtain rfl := em_L m hL
    refine ⟨_, em_ok m, Or.inr ⟨fun x hx => absurd hx List.not_mem_nil, ?_⟩⟩
    rcases q with ⟨q, _⟩ | ⟨_, ⟨_, q⟩ | ⟨⟨q, _⟩, _⟩⟩
    · exact absurd J.2.1 q
    · exact q
    · exact absurd q (tkn_no J.2.2.2)
theorem RfS.means {w : Option Value} {i : Int32} (h : RfS N σ s z) (h91 : gI σ 91 = 0) (hL : L.length = (zMs z.1).length) (P : PrD N z L 0 (0, 0, []) (psM z)) (e : EvM 133 [.int i] σ w τ) : RfS N τ s z ∧ ∃ r : Int32, w = some (.int r) ∧ ((¬ (tokR σ i ∧ aI σ 3 i.toNatClampNeg = 1) ∧ r = -1) ∨ ((tokR σ i ∧ aI σ 3 i.toNatClampNeg = 1) ∧ ((r = -2 ∧ ∀ T, ¬ OkP N s z L T) ∨ ∃ T σ0, OkP N s z L T ∧ RdB N σ0 s z ∧ r.toInt = meZ (bmR σ0 z) (kdR σ0) T z.2.1 i.toNatClampNeg))) := by
  rcases h with h | ⟨h, m⟩
  · obtain ⟨r, hr, q⟩ := h.means h91 hL P e
    rcases q with ⟨q1, q2, rfl⟩ | ⟨q1, q2, q3⟩
    · exact ⟨Or.inl h, r, hr, Or.inl ⟨q1, q2⟩⟩
    · exact ⟨Or.inl (Or.inr q2), r, hr, Or.inr ⟨q1, q3⟩⟩
  · obtain ⟨r, rfl, q⟩ := (w_means [.int i] σ trivial w τ e) trivial
    rcases q with ⟨q1, q2, rfl⟩ | ⟨⟨q1, _⟩, _⟩
    · exact ⟨Or.inr ⟨h, m⟩, r, rfl, Or.inl ⟨q1, q2⟩⟩
    · have z2 : (gI σ 2).toInt = 0 := h.elim (fun q => q.2.1.1) (fun q => q.2.2.2)
      exact absurd q1 (tkn_no z2)
/-- an empty text's program -/
theorem em_of {y : TxY} (hZ : Z0Y s) (hT : TkS y s 0) (h2 : y.2 = 0) : EmW (prM N 11 (z0S s)) := by
  obtain ⟨z1, z2, z3, z4⟩ := hZ
  have k84 : zK s 0 = 84 := by
    rcases hT.2.2.2 with ⟨a, _⟩ | ⟨_, _, a, _⟩
    · exact a
    · exfalso
      have : skY y 0 = 0 := by
        unfold skY
        rw [h2]
        show bbY y 0 0 0 = 0
        rw [bbY, h2]
      have a : skY y 0 < y.2 := a
      omega
  have c : codY (z0S s).1 = 84 := by
    show codY s = 84
    unfold codY
    rw [if_pos z2, z1]
    exact k84
  have e : prM N 11 (z0S s) = z0S s := by
    rw [prM, if_pos (show zFt (z0S s).1 = 0 from z2), if_pos c]
  rw [e]
  exact ⟨rfl, z3, z4⟩
end
