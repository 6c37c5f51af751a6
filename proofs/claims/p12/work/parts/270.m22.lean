/-! variables; what a piece tells -/
theorem kK_dcl {ty f h : Int} {s : SpC} : zK (dclY ty f h s) = zK s := by
  have a : zK (dc1Y h s) = zK s := by
    unfold dc1Y
    split
    · split
      · exact kK_rai
      · rfl
    · exact kK_rai
  unfold dclY dc2Y
  split
  · rw [kK_acc]
    exact a
  · exact a
theorem BZ.va {N : Int → Int} {σ τ : RS} {z : ZS} {F K : List FrZ} {ty f k : Int32} {ty' f' : Int} (h : BZ N σ z F K) (e : VaR σ τ ty f) (e7 : aI τ 47 = upd (aI σ 47) (nT (gI σ 42)) k) (e8 : aI τ 48 = upd (aI σ 48) (nT (gI σ 42)) (-2)) (l : aL τ = aL σ) (hv : (zVs z.1).length = nT (gI σ 42)) (hsc : ∃ a ∈ K, scF a.1 = true) (hk : k.toInt = sfF K) : BZ N τ (dcM N ty' f' 1 z) F K := by
  obtain ⟨p1, p2, p3, p4, p5⟩ := e
  have en := nT_add p3.1 (show gI σ 42 < 2147483647 by lia)
  have p : PcM id τ z := h.1.1.fr (p1 18 (by decide) (by decide)) (fun j q1 q2 _ _ => by rw [p5 j (by omega)])
  refine ⟨h.1.va p hv hsc (by rw [p2, en]) (p1 49 (by decide) (by decide)) (p1 62 (by decide) (by decide)) (fun v hv => by rw [e7, upd_ne (by omega)]) (by rw [e7, upd_eq]; exact hk) (fun v hv => by rw [e8, upd_ne (by omega)]) (by rw [e8, upd_eq]; rfl) (p5 60 (by omega)) (p5 63 (by omega)) (p5 64 (by omega)) (p5 65 (by omega)), ⟨?_, ?_, ?_, h.2.1.2.2.2⟩, by rw [p1 49 (by decide) (by decide)]; exact h.2.2⟩
  · intro i h1 h2 h3
    rw [p1 2 (by decide) (by decide)] at h1
    rw [p5 3 (by omega)] at h3
    rw [p5 10 (by omega), show zK (dcM N ty' f' 1 z).1 = zK z.1 from kK_dcl]
    exact h.2.1.1 i h1 h2 h3
  · intro i j
    rw [p1 2 (by decide) (by decide), p5 3 (by omega), p5 8 (by omega), p5 5 (by omega), l]
    exact h.2.1.2.1 i j
  · exact LbZ.fr (z := z) h.2.1.2.2.1 (p1 2 (by decide) (by decide)) (p1 36 (by decide) (by decide)) (p5 3 (by omega)) (p5 37 (by omega))
theorem KtR.va {σ τ : RS} {z : ZS} {ty f : Int32} {N : Int → Int} {ty' f' g : Int} (h : KtR σ z) (e : VaR σ τ ty f) : KtR τ (dcM N ty' f' g z) := h.z rfl rfl (fun a h1 h2 => e.2.2.2.2 a (by omega))
theorem KtR.i {σ : RS} {z : ZS} {k : Nat} {v : Int32} (h : KtR σ z) : KtR (sI σ k v) z := h.z rfl rfl (fun _ _ _ => rfl)
theorem KtR.a {σ : RS} {z : ZS} {k : Nat} {f : Nat → Int32} (h : KtR σ z) (hk : k < 51 ∨ 61 < k) : KtR (sA σ k f) z := h.z rfl rfl (fun _ _ _ => aI_ne (by omega))
theorem KtR.s1 {k : Nat} {σ τ : RS} {z z' : ZS} (h : KtR σ z) (e : S1 k σ τ) (e2 : z'.2 = z.2) : KtR τ z' := h.z (by rw [e2]) (by unfold tnM; rw [e2]) (fun a _ _ => e.2 a)
theorem KtR.tk {σ τ : RS} {z : ZS} (h : KtR σ z) (e : S1 14 σ τ) : KtR τ (accM z) := h.s1 e rfl
theorem KtR.xp {σ τ : RS} {z : ZS} {d : Int} (h : KtR σ z) (e : S1 14 σ τ) : KtR τ (xpM d z) := h.s1 e rfl
theorem KtR.kr {σ τ : RS} {z z' : ZS} (h : KtR σ z) (k : KR σ τ) (e1 : XsR z.2.1 z'.2.1) (e2 : tnM z' = tnM z) : KtR τ z' := h.w e1 e2 (fun a h1 h2 => k.1.2 a (xA_f (by omega)))
theorem KtR.exq {σ τ : RS} {N : Int → Int} {j n : Nat} {z : ZS} (h : KtR σ z) (k : KR σ τ) : KtR τ (exS N j n z) := h.kr k ((ix_lv n).1 z) (by show (eM N n z).2.2.2.2.2.2 = _; rw [ks_e]; rfl)
theorem KtR.cd {σ τ : RS} {N : Int → Int} {j n : Nat} {z : ZS} (h : KtR σ z) (k : KR σ τ) : KtR τ (cdM N j n z) := h.kr k ((ix_lv n).1 (xpM 0 z)) (by show (eM N n (xpM 0 z)).2.2.2.2.2.2 = _; rw [ks_e]; rfl)
theorem emK {σ τ : RS} {op a b t f l : Int32} (e : EmZ σ op a b t f l τ) : ∀ a, 51 ≤ a → a ≤ 61 → aI τ a = aI σ a := fun a _ _ => e.1.2.2.2.2.1 a (by omega)
theorem sg_cd {N : Int → Int} {j n : Nat} {z : ZS} : SgZ z (cdM N j n z) := by
  have a : SgZ z (eM N n (xpM 0 z)) := SgZ.e (by rw [ks_e]; rfl)
  have b : SgZ (eM N n (xpM 0 z)) (exS N j n (xpM 0 z)) := SgZ.se (fun _ => ⟨rfl, rfl, rfl⟩) (fun _ _ => rfl)
  exact (a.tr b).tr (SgZ.e rfl)
theorem ig_cd {N : Int → Int} {j n : Nat} {z : ZS} : z.2.1 <:+ (cdM N j n z).2.1 := ig_e (xpM 0 z)
theorem k4_cd {N : Int → Int} {j n : Nat} {z : ZS} : (cdM N j n z).2.2.2 = z.2.2.2 := by
  show (eM N n (xpM 0 z)).2.2.2 = _
  rw [ks_e]
  rfl
/-- whether nothing is read of the row on top -/
def bF : List FrZ → Int
  | [] => 0
  | a :: _ => if a.2.2.2.1.getD 0 0 < 0 then 1 else 0
/-- the frame on top is a label's: its S comes now -/
def LuZ (z : ZS) (F : List FrZ) : Prop := (hdF F).1 = 7 → snM z = (hdF F).2 + 1
def StZ (N : Int → Int) (τ : RS) (Φ : ZS) (w : Option Value) : Prop := (w = some (.int 0) ∧ FlR τ Φ.1) ∨ (w = some (.int 1) ∧ ∃ (z : ZS) (n : Nat) (F : List FrZ), SR τ z.1 n ∧ FgR τ (bF F) ∧ BZ N τ z F F ∧ KtR τ z ∧ WfF F.tail ∧ LuZ z F ∧ 1 ≤ zAt z.1 ∧ pcM N F n z = Φ)
theorem StZ.o {N : Int → Int} {τ : RS} {Φ : ZS} {T : SpC} (h : Φ.1 = T) (q : StQ τ T (some (.int 0))) : StZ N τ Φ (some (.int 0)) := by
  rcases q with ⟨_, q⟩ | ⟨q, _⟩
  · exact Or.inl ⟨rfl, by rw [h]; exact q⟩
  · exact absurd q (by decide)
theorem FgR.ny {σ : RS} {b b' k : Int} {G : List Int} (h : FgR σ b) (f : frR σ = k :: G) (hk : ¬ k = 8) (hb : b' = 0 ∨ b' = 1) : FgR σ b' := by
  refine ⟨hb, fun i hi z => ?_⟩
  have e : frR σ = (aI σ 63 i).toInt :: olY (aI σ 63) i := by
    unfold frR
    rw [← hi]
    rfl
  rw [f, z] at e
  exact absurd (List.cons.inj e).1 hk
theorem toI_n {x : Int32} (h : 0 ≤ x) : x.toInt = (nT x : Int) := by
  have a : (0 : Int32).toInt ≤ x.toInt := Int32.le_iff_toInt_le.mp h
  have a : 0 ≤ x.toInt := a
  show x.toInt = ((x.toInt.toNat : Nat) : Int)
  omega
theorem BZ.k49 {N : Int → Int} {σ : RS} {z : ZS} {F K : List FrZ} (h : BZ N σ z F K) : (gI σ 49).toInt = (tnM z : Int) := by rw [toI_n h.2.2.1, h.1.2.1.1]
theorem BZ.c18 {N : Int → Int} {σ : RS} {z : ZS} {F K : List FrZ} (h : BZ N σ z F K) : nT (gI σ 18) = cnM z := h.1.1.2
theorem BZ.frm {N : Int → Int} {σ : RS} {z : ZS} {F K : List FrZ} (h : BZ N σ z F K) : frR σ = F.map (·.1) := h.1.frm
theorem lf_sst {N : Int → Int} {σ : RS} {z : ZS} {F K : List FrZ} {n : Nat} (h : BZ N σ z F K) (hw : WfF F) : (sfM N F n (stM N n z)).1 = sfY (frR σ) n (stY n z.1) := by rw [lf_sf F hw, lf_st, h.frm]
theorem lf_sfb {N : Int → Int} {σ : RS} {z : ZS} {F K : List FrZ} {n : Nat} (h : BZ N σ z F K) (hw : WfF F) : (sfM N F n z).1 = sfY (frR σ) n z.1 := by rw [lf_sf F hw, h.frm]
theorem em18 {σ τ : RS} {op a b t f l : Int32} {N : Int → Int} {z : ZS} {F K : List FrZ} (e : EmZ σ op a b t f l τ) (h : BZ N σ z F K) : (gI σ 18).toInt = (cnM z : Int) := by rw [toI_n e.1.2.2.2.2.2.1, h.c18]
/-- the steps with n instead of n + 1 -/
theorem sm_if' {N : Int → Int} {F : List FrZ} {n : Nat} {z : ZS} (hn : 1 ≤ n) (hc : codY z.1 = 56) : sfM N F n (stM N n z) = sfM N (frB 2 z [] :: F) (n - 1) (stM N (n - 1) (ifB N n z)) := by
  obtain ⟨m, rfl⟩ : ∃ m, n = m + 1 := ⟨n - 1, by omega⟩
  exact sm_if hc
theorem sm_wh' {N : Int → Int} {F : List FrZ} {n : Nat} {z : ZS} (hn : 1 ≤ n) (hc : codY z.1 = 58) : sfM N F n (stM N n z) = sfM N (frB 4 z [] :: F) (n - 1) (stM N (n - 1) (whB N n z)) := by
  obtain ⟨m, rfl⟩ : ∃ m, n = m + 1 := ⟨n - 1, by omega⟩
  exact sm_wh hc
theorem sm_do' {N : Int → Int} {F : List FrZ} {n : Nat} {z : ZS} (hn : 1 ≤ n) (hc : codY z.1 = 59) : sfM N F n (stM N n z) = sfM N (frB 5 z [] :: F) (n - 1) (stM N (n - 1) (doB n z)) := by
  obtain ⟨m, rfl⟩ : ∃ m, n = m + 1 := ⟨n - 1, by omega⟩
  exact sm_do hc
theorem sm_fo' {N : Int → Int} {F : List FrZ} {n : Nat} {z z1 : ZS} (hn : 1 ≤ n) (hc : codY z.1 = 60) (h1 : foB N (snM z) (tnM z) n (accM (bgH 60 n z)) = z1) : sfM N F n (stM N n z) = sfM N (frB 6 z [(snM z1 : Int)] :: F) (n - 1) (stM N (n - 1) z1) := by
  obtain ⟨m, rfl⟩ : ∃ m, n = m + 1 := ⟨n - 1, by omega⟩
  rw [← h1]
  exact sm_fo hc
theorem sm_sw' {N : Int → Int} {F : List FrZ} {n : Nat} {z : ZS} (hn : 2 ≤ n) (hc : codY z.1 = 61) : sfM N F n (stM N n z) = pcM N (frB 8 z ([-1, -1, -1] ++ []) :: F) (n - 1) (swB N n z) := by
  obtain ⟨m, rfl⟩ : ∃ m, n = m + 1 := ⟨n - 1, by omega⟩
  exact sm_sw (by omega) hc
theorem sm_tr' {N : Int → Int} {F : List FrZ} {n : Nat} {z : ZS} (hn : 2 ≤ n) (hc : codY z.1 = 68) : sfM N F n (stM N n z) = pcM N (frB 9 z ([-1, -1, -1] ++ [(snM z : Int) + 1]) :: F) (n - 1) (bbM n (trB n z)) := by
  obtain ⟨m, rfl⟩ : ∃ m, n = m + 1 := ⟨n - 1, by omega⟩
  exact sm_tr (by omega) hc
theorem sm_bl' {N : Int → Int} {F : List FrZ} {n : Nat} {z : ZS} (hn : 2 ≤ n) (hc : codY z.1 = 2) : sfM N F n (stM N n z) = pcM N (frB 1 z ([-1, -1, -1] ++ []) :: F) (n - 1) (accM (arM (snM z) (bgH 2 n z))) := by
  obtain ⟨m, rfl⟩ : ∃ m, n = m + 1 := ⟨n - 1, by omega⟩
  exact sm_bl (by omega) hc
theorem sm_la' {N : Int → Int} {F : List FrZ} {n : Nat} {z : ZS} (hn : 1 ≤ n) (hc : codY z.1 = 80) (hb : cobY z.1 = 6) : sfM N F n (stM N n z) = sfM N (frB 7 z [] :: F) (n - 1) (stM N (n - 1) (laB n z)) := by
  obtain ⟨m, rfl⟩ : ∃ m, n = m + 1 := ⟨n - 1, by omega⟩
  exact sm_la hc hb
theorem sm_em' {N : Int → Int} {n : Nat} {z : ZS} (hn : 1 ≤ n) (hc : codY z.1 = 4) : stM N n z = emM n z := by
  obtain ⟨m, rfl⟩ : ∃ m, n = m + 1 := ⟨n - 1, by omega⟩
  exact sm_em hc
theorem sm_ju' {N : Int → Int} {n : Nat} {z : ZS} (hn : 1 ≤ n) (hc : codY z.1 = 64 ∨ codY z.1 = 65) : stM N n z = juM N (codY z.1) n z := by
  obtain ⟨m, rfl⟩ : ∃ m, n = m + 1 := ⟨n - 1, by omega⟩
  exact sm_ju hc
theorem sm_gi' {N : Int → Int} {n : Nat} {z : ZS} (hn : 1 ≤ n) (hc : codY z.1 = 66 ∨ codY z.1 = 67) : stM N n z = giM N (codY z.1) n z := by
  obtain ⟨m, rfl⟩ : ∃ m, n = m + 1 := ⟨n - 1, by omega⟩
  exact sm_gi hc
theorem sm_xs' {N : Int → Int} {n : Nat} {z : ZS} (hn : 1 ≤ n) (h : ¬ codY z.1 = 56 ∧ ¬ codY z.1 = 58 ∧ ¬ codY z.1 = 59 ∧ ¬ codY z.1 = 60 ∧ ¬ codY z.1 = 61 ∧ ¬ codY z.1 = 68 ∧ ¬ codY z.1 = 2 ∧ ¬ codY z.1 = 4 ∧ ¬ codY z.1 = 64 ∧ ¬ codY z.1 = 65 ∧ ¬ codY z.1 = 66 ∧ ¬ codY z.1 = 67) (hb : ¬ (codY z.1 = 80 ∧ cobY z.1 = 6)) : stM N n z = xsM N n z := by
  obtain ⟨m, rfl⟩ : ∃ m, n = m + 1 := ⟨n - 1, by omega⟩
  exact sm_xs h hb
theorem GpY.a1 {S T : SpC} (g : GpY S T) (h5 : zAt S ≤ 500) (h : 1 ≤ zAt S) : 1 ≤ zAt T := by
  have := (g.2 h5).1
  omega
theorem ZRx.nil {σ : RS} {z : ZS} {F K : List FrZ} (h : ZRx σ z F K) (p : gI σ 62 ≤ 0) : F = [] := by
  cases F with
  | nil => rfl
  | cons a F =>
    have e := h.2.1.2
    have q : (gI σ 62).toInt ≤ (0 : Int32).toInt := Int32.le_iff_toInt_le.mp p
    have q : (gI σ 62).toInt ≤ 0 := q
    have e : (gI σ 62).toInt.toNat = F.length + 1 := e
    omega
theorem FgR.bf {σ : RS} {a : FrZ} {F : List FrZ} {G : List Int} (h : FgR σ 0) (f : frR σ = a.1 :: G) (hw : a.1 = 8 → 0 ≤ a.2.2.2.1.getD 0 0) : FgR σ (bF (a :: F)) := by
  show FgR σ (if a.2.2.2.1.getD 0 0 < 0 then 1 else 0)
  by_cases q : a.1 = 8
  · rw [if_neg (by have := hw q; omega)]
    exact h
  · split
    · exact h.ny f q (Or.inr rfl)
    · exact h
theorem nx_2 {l : Int} {j : Nat} {z : ZS} : (nxM l j z).2.1 = z.2.1 ∧ tnM (nxM l j z) = tnM z := by
  unfold nxM
  split
  · exact ⟨rfl, rfl⟩
  · exact ⟨rfl, rfl⟩
