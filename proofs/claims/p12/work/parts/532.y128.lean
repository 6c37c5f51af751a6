/-! read: a good text -/
abbrev M49 : List Nat := [67, 68, 69, 70, 71, 90, 91, 92, 94, 121, 217, 218, 281, 282, 283, 284, 285, 286, 287, 288, 335, 336, 900, 901]
abbrev M01 : List Nat := [34, 35, 36, 77, 289, 290, 900, 902]
/-- what the reference has read of a text -/
def RfX (x : TxY) (U : RS) : Prop := (∀ s n, Z0Y s → TkS x s n → MhR U (prlY 11 s)) ∧ ∀ s n N, Z0Y s → TkS x s n → NwN N x n → RdB N U s (prM N 11 (z0S s))
/-- a program that was read and judged stands in P: what the class's calls answer of it -/
def PgA (x : TxY) (τ : CsC) (P : Nat) : Prop := ∃ N E A B V s n L, E 1 = P ∧ ((Z0Y s ∧ TkS x s n ∧ NwN N x n) ∧ zFt (prM N 11 (z0S s)).1 = 0) ∧ (L.length = (zMs (prM N 11 (z0S s)).1).length ∧ PrD N (prM N 11 (z0S s)) L 0 (0, 0, []) (psM (prM N 11 (z0S s)))) ∧ AnC N E A B V τ s (prM N 11 (z0S s)) L
theorem PgA.an {x : TxY} {σ τ : CsC} {P : Nat} (h : PgA x σ P) (H : HI0 σ) (t1 : TyC σ P 7) (f : AnF σ τ P) : PgA x τ P := by
  obtain ⟨N, E, A, B, V, s, n, L, h1, h2, h3, h4⟩ := h
  subst h1
  exact ⟨N, E, A, B, V, s, n, L, rfl, h2, h3, h4.an H t1 f⟩
/-- both programs, apart -/
def PpC (σ : CsC) (P P' : Nat) : Prop := DqC σ P P' ∧ OiP σ P ∧ OiP σ P'
theorem PpC.sy {σ : CsC} {P P' : Nat} (h : PpC σ P P') : PpC σ P' P := ⟨h.1.sy, h.2.2, h.2.1⟩
section
variable {σ τ τ1 s6 τ2 τ3 : CsC} {x : TxY} {s' : SpC} {n' rd P P' t Jd : Nat} {w2 : Option AvC} {U : RS}
theorem PpC.of (h : PpC σ P P') (H : HI0 σ) (t1 : TyC σ P 7) (t2 : TyC σ P' 7) (f : OiF σ τ) (g : ∀ k, 211 ≤ k → k ≤ 214 → fRC τ P k = fRC σ P k ∧ fRC τ P' k = fRC σ P' k) : PpC τ P P' := ⟨h.1.of g, h.2.1.of H t1 f, h.2.2.of H t2 f⟩
theorem PpC.fx {M M' : List Nat} (h : PpC σ P P') (H : HI0 σ) (t1 : TyC σ P 7) (t2 : TyC σ P' 7) (f : FrE M σ τ) (e : ExC M' σ τ) (hM : [999, 181, 182, 183, 185, 215, 216].all (fun k => !M.elem k) = true) (hm : M'.elem 995 = false) : PpC τ P P' := h.of H t1 t2 (OiF.fx f e hM hm) (fun k a b => by
  have q : k = 211 ∨ k = 212 ∨ k = 213 ∨ k = 214 := by omega
  rcases q with rfl | rfl | rfl | rfl <;> exact ⟨t1.fr e (by decide) rfl, t2.fr e (by decide) rfl⟩)
theorem PpC.sm (h : PpC σ P P') (H : HI0 σ) (t1 : TyC σ P 7) (t2 : TyC σ P' 7) (m : SmC σ τ) : PpC τ P P' := h.of H t1 t2 (OiF.sm m) (fun k _ b => ⟨(m.1 P k (by omega)).2.2, (m.1 P' k (by omega)).2.2⟩)
theorem PpC.rp {K : Nat → Nat} (h : PpC σ P P') (H : HI0 σ) (t8 : TyC σ rd 8) (t1 : TyC σ P 7) (t2 : TyC σ P' 7) (r : RpC rd P' t K σ τ) : PpC τ P P' := ⟨(AnF.rp H t8 t1 t2 r h.1).2, h.2.1.of H t1 (OiF.rp r t8), h.2.2.of H t2 (OiF.rp r t8)⟩
theorem rd_end (H0 : HI0 σ) (t8 : TyC σ rd 8) (t7 : TyC σ P 7) (t7' : TyC σ P' 7) (tt : TyC σ t 10) (hp : PpC σ P P') {M1 : List Nat} (ex1 : ExC M1 σ τ1) (HI1 : HI0 τ1) (hRp : RpC rd P' t (kyR σ rd P' t) σ τ1) (hm : SmC τ1 s6) (HJ : HI0 s6 ∧ TyC s6 Jd 4) (HI2 : HI0 τ2) {M2 : List Nat} (ex2 : ExC M2 s6 τ2) (hm2 : M2.elem 995 = false) (f2 : FrE M49 s6 τ2) (hju : Uz_judgeProgram [.inr (.inr (some Jd)), .inr (.inr (some P'))] s6 w2 τ2) (hend : τ3 = τ2 ∨ ∃ M3, FrE M01 τ2 τ3 ∧ ExC M3 τ2 τ3 ∧ M3.elem 2 = false ∧ M3.elem 995 = false) (hRe : ReC τ1 rd (prlY 11 s')) (f240 : fRC τ1 rd 240 = some P') (f241 : fRC τ1 rd 241 = some t) (hZ : Z0Y s') (hTk : TkS x s' n')
    (hz : (∀ s n, Z0Y s → TkS x s n → zFt (prlY 11 s) = 0) → ∃ (s : SpC) (n : Nat) (N : Int → Int) (E A B V : Nat → Nat), (Z0Y s ∧ TkS x s n ∧ ∀ k : Nat, k < n → ∃ v : Int64, v.toInt = N (k : Int) ∧ WoC x (atY x k) v) ∧ (E 0 = rd ∧ E 1 = P') ∧ ZC N E A B V (prS (E 0) τ1) (rsM (prM N 11 (z0S s))) ∧ MhC N E B (jfM N 11 (z0S s) (fun _ => 0, fun _ => 0)).1 (jfM N 11 (z0S s) (fun _ => 0, fun _ => 0)).2 τ1 (rsM (prM N 11 (z0S s)))) :
    PpC τ3 P' P ∧ ∀ U, RfX x U → PgA x τ3 P' := by
  have a1 := t7.x ex1
  have a1' := t7'.x ex1
  have a6 := a1.sm (by decide) hm
  have a6' := a1'.sm (by decide) hm
  have a2 := a6.x ex2
  have a2' := a6'.x ex2
  have p2 := ((hp.rp H0 t8 t7 t7' hRp).sm HI1 a1 a1' hm).fx HJ.1 a6 a6' f2 ex2 rfl hm2
  have h3 : PpC τ3 P P' ∧ AnF τ2 τ3 P' := by
    rcases hend with rfl | ⟨M3, f3, e3, m3, m5⟩
    · exact ⟨p2, AnF.rf⟩
    · exact ⟨p2.fx HI2 a2 a2' f3 e3 rfl m5, AnF.fx HI2 a2' f3 e3 rfl m3⟩
  refine ⟨h3.1.sy, fun U hU => ?_⟩
  obtain ⟨N, E, A, B, V, J, F, s, n, L, hB, hn⟩ := rd_n hU (hz (fun s n b1 b2 => by
    have q := hU.1 s n b1 b2
    exact q.1.1.1)) hRe f240 hZ hTk f241
  obtain ⟨-, E', k1, hA⟩ := jd_an hB hn hm HJ.1 HJ.2 ((t8.x ex1).sm (by decide) hm) a6' ((tt.x ex1).sm (by decide) hm) ((hp.rp H0 t8 t7 t7' hRp).sm HI1 a1 a1' hm).2.2 (by rw [(hm.1 P' 217 (by decide)).1]; exact hRp.2.2.1.1) (by rw [(hm.1 P' 210 (by decide)).2.2]; exact hRp.2.1.2.2.2) hju f2 rfl
  have hA := hA.an HI2 (by rw [k1]; exact a2') (by rw [k1]; exact h3.2)
  exact ⟨N, E', A, B, V, s, n, L, k1, ⟨hn.1.1, hn.1.2.2⟩, ⟨hn.2.2.2.1.1, hn.2.2.2.1.2.2⟩, hA⟩
end
