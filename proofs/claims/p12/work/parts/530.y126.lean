/-! read: what is read is judged -/
/-- a text was read into a program -/
def RdN (x : TxY) (N : Int → Int) (E A B V J F : Nat → Nat) (τ : CsC) (s : SpC) (n : Nat) (z : ZS) (L : List Nat) (rd P t : Nat) : Prop := ((Z0Y s ∧ TkS x s n ∧ NwN N x n) ∧ z = prM N 11 (z0S s) ∧ zFt z.1 = 0) ∧ (E 0 = rd ∧ E 1 = P ∧ E 2 = t) ∧ (ZD N E A B V τ z ∧ MhC N E B J F τ z ∧ MlC τ (E 211) 0 (cnC τ) (zMs z.1)) ∧ (L.length = (zMs z.1).length ∧ (∀ i j, L[i]? = some j → J i = j) ∧ PrD N z L 0 (0, 0, []) (psM z)) ∧ ∀ k, V1W N s k = (F k : Int)
section
variable {N : Int → Int} {E A B V J F K : Nat → Nat} {σ τ τ2 σj : CsC} {x : TxY} {s s' : SpC} {n n' rd P t Jd : Nat} {z : ZS} {L : List Nat} {U : RS} {w : Option AvC}
theorem rd_n (hU : (∀ s n, Z0Y s → TkS x s n → MhR U (prlY 11 s)) ∧ ∀ s n N, Z0Y s → TkS x s n → NwN N x n → RdB N U s (prM N 11 (z0S s))) (h : ∃ (s : SpC) (n : Nat) (N : Int → Int) (E A B V : Nat → Nat), (Z0Y s ∧ TkS x s n ∧ ∀ k : Nat, k < n → ∃ v : Int64, v.toInt = N (k : Int) ∧ WoC x (atY x k) v) ∧ (E 0 = rd ∧ E 1 = P) ∧ ZC N E A B V (prS (E 0) τ) (rsM (prM N 11 (z0S s))) ∧ MhC N E B (jfM N 11 (z0S s) (fun _ => 0, fun _ => 0)).1 (jfM N 11 (z0S s) (fun _ => 0, fun _ => 0)).2 τ (rsM (prM N 11 (z0S s))))
    (hRe : ReC τ rd (prlY 11 s')) (f240 : fRC τ rd 240 = some P) (hZ : Z0Y s') (hTk : TkS x s' n') (f241 : fRC τ rd 241 = some t) : ∃ N E A B V J F s n L, RdB N U s (prM N 11 (z0S s)) ∧ RdN x N E A B V J F τ s n (prM N 11 (z0S s)) L rd P t := by
  obtain ⟨s, n, N, E, A, B, V, ⟨a1, a2, a3⟩, ⟨b0, b1⟩, c1, c2⟩ := h
  have hB := hU.2 s n N a1 a2 a3
  have hft : zFt (prM N 11 (z0S s)).1 = 0 := hB.1.1.2.2
  obtain ⟨L, l1, l2, l3⟩ := pr_d hft ⟨a1.1, a1.2.2.1⟩
  have hZD : ZD N E A B V τ (prM N 11 (z0S s)) := zd_rs (ZC.d c1)
  have e2 : E 2 = t := by
    have q : fRC τ (E 0) 241 = some (E 2) := hZD.1.1.2
    rw [b0, f241] at q
    exact (Option.some.inj q).symm
  have e211 : fRC τ P 211 = some (E 211) := by
    have q := hZD.1.2.1.1
    rw [b1] at q
    exact q
  have ml := MlC.lo _ (hRe.2.2.1 P f240 (E 211) e211).1
  have ez : zMs (prM N 11 (z0S s)).1 = zMs (prlY 11 s') := by
    have m1 := hU.1 s n a1 a2
    have m2 := hU.1 s' n' hZ hTk
    have e : (prM N 11 (z0S s)).1 = prlY 11 s := lf_pr 11 _
    rw [e]
    exact m1.2.2.2.1.trans m2.2.2.2.1.symm
  refine ⟨N, E, A, B, V, _, _, s, n, L, hB, ⟨⟨a1, a2, a3⟩, rfl, hft⟩, ⟨b0, b1, e2⟩, ⟨hZD, mh_rs c2, ?_⟩, ⟨l1, l2 _, l3⟩, fun k => rfl⟩
  rw [ez]
  exact ml.hi (Nat.le_refl _)
theorem jd_an (hB : RdB N U s z) (h : RdN x N E A B V J F τ s n z L rd P t) (m : SmC τ σj) (H : HI0 σj) (tj : TyC σj Jd 4) (t0 : TyC σj rd 8) (t1 : TyC σj P 7) (t2 : TyC σj t 10) (oi : OiP σj P) (h217 : fIC σj P 217 = 0) (h210 : fRC σj P 210 = some t) (u : ∀ y, Pz_judgeProgram y [.inr (.inr (some Jd)), .inr (.inr (some P))] σj → Qz_judgeProgram y [.inr (.inr (some Jd)), .inr (.inr (some P))] σj w τ2) {M : List Nat} (f : FrE M σj τ2) (hM : anF.all (fun k => !M.elem k) = true) : w = none ∧ ∃ E', E' 1 = P ∧ AnC N E' A B V τ2 s z L := by
  obtain ⟨⟨⟨a1, a2, a3⟩, a4, a5⟩, ⟨b0, b1, b2⟩, ⟨c1, c2, c3⟩, ⟨d1, d2, d3⟩, e1⟩ := h
  obtain ⟨⟨p1, p2⟩, ⟨p3, p4, p5⟩, ⟨p6, p7, p8⟩, p9, p10, p11⟩ := pu_of hB
  obtain ⟨b4, -, i4, y4⟩ := cg120 H tj
  obtain ⟨b93, -, i93, y93, -⟩ := cg93 H y4
  obtain ⟨x94, -, i94, y94, z94⟩ := cg94 H y4
  obtain ⟨o, i, ⟨o1, o2⟩, ⟨o3, o4⟩, o5, o6⟩ := oi
  obtain ⟨E', hE'⟩ : ∃ E', E' = exE E Jd b4 b93 o i := ⟨_, rfl⟩
  have eu : EuE E E' := by rw [hE']; exact ex_eu
  have k3 : E' 3 = Jd := by rw [hE']; rfl
  have k4 : E' 4 = b4 := by rw [hE']; rfl
  have k93 : E' 93 = b93 := by rw [hE']; rfl
  have k215 : E' 215 = o := by rw [hE']; rfl
  have k216 : E' 216 = i := by rw [hE']; rfl
  have k0 : E' 0 = rd := (eu 0 (by omega)).trans b0
  have k1 : E' 1 = P := (eu 1 (by omega)).trans b1
  have k2 : E' 2 = t := (eu 2 (by omega)).trans b2
  have hZD : ZD N E' A B V σj z := (c1.sm m).ue eu
  have hMh : MhC N E' B J F σj z := (c2.sm m).ue eu
  have hMl : MlC σj (E' 211) 0 (cnC τ) (zMs z.1) := by rw [eu 211 (by omega)]; exact MlC.sm m c3
  have hOi : OiC E' σj := by
    unfold OiC
    rw [k1, k215, k216]
    exact ⟨⟨o1, o2⟩, ⟨o3, o4⟩, o5, o6⟩
  have h94 : (fIC σj (E' 4) 94).toInt = ((fIC σj (E' 4) 94).toInt.toNat : Int) := by
    rw [k4, i94]
    omega
  obtain ⟨q1, q2, q3, q4, q5⟩ := st_put (V := V) (A := A) (N := N) hB.1 H (by rw [k0]; exact t0) (by rw [k2]; exact t2) (by rw [k3]; exact tj.1) (by rw [k1]; exact h217) (by rw [k1, k2]; exact h210) hZD hOi hMh hMl p11 e1 (by rw [k3, k4]; exact i4) (by rw [k4]; exact y4.1) h94 (by rw [k4, i94]; omega) (by rw [k4, k93]; exact i93) (by rw [k93]; exact y93.1)
  have bi : BiC B z := fun a b ha hb e => by
    have up := hZD.2.2.2.2.2.1.2
    by_cases c : a < b
    · have := up a b c hb
      omega
    by_cases d : b < a
    · have := up b a d ha
      omega
    omega
  have u2 := u (N, E', A, B, V, z, msM N koY kiY z.1, (zMs z.1).length, J, V1W N s, 2 * snM z) ⟨by rw [k3, k1], q1, q2, q3, q4, p1, fun T hT => ⟨(p2 T hT).1, (p2 T hT).2.1, bi, (p2 T hT).2.2⟩, p3, p4, p5, p6, p7, p8, Nat.le_refl _, p9, p10, q5⟩
  obtain ⟨w0, hJd⟩ := u2
  have r214 : RoC σj (E' 214) := by
    obtain ⟨b, -, e, tb, -⟩ := cg214 H t1
    have q := hZD.1.2.1.2.2.2
    rw [k1, e] at q
    rw [← Option.some.inj q]
    exact row_lt H tb.1 tb.2.1
  have r212 : RoC σj (E' 212) := by
    obtain ⟨b, -, e, tb, -⟩ := cg212 H t1
    have q := hZD.1.2.1.2.1
    rw [k1, e] at q
    rw [← Option.some.inj q]
    exact row_lt H tb.1 tb.2.1
  exact ⟨w0, E', k1, an_of hB.1 d1 d2 d3 hZD f hM p10 r214 r212 hJd⟩
end
