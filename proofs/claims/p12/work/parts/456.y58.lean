/-! the reference's flow: S's that hold no others; declarations; exps of for -/
theorem bq_e {w : Int32} {v : Int} (h : w.toInt = v) : ((1 : Int64) <<< (w.toInt64 &&& 63)) = bitQ v := by
  rw [← h]
  unfold bitQ
  rw [Int32.ofInt_toInt]
  rfl
theorem exd_n {z : ZS} {T : TbT} {x : Int} {m : Int64} (h : x < 0) : exD z T x m = some (m, m) := by
  unfold exD
  have e : bxW z T x m (m, m, [], false) = (m, m, [], false) := if_pos h
  rw [e]
  rfl
section
variable {σ τ Y W : RS} {C : CxT} {z : ZS} {T : TbT} {l l' m : List ItZ} {k j lo mid hi b : Nat} {M : Int32} {A : Prop} {u v : Int64} {N : Int → Int} {ms : MfT} {lv a t e : Int} {r : XrZ}
theorem out_n {mm : Int64} {eb : Bool} (hA : AtF τ C z T M l' Y) (hw : Bw Y A mm mm) (e : A ↔ eb = true) (n : NxT k σ Y) : OutI τ C z T M lo hi k l l' σ (eb, mm, [], []) Y := ⟨hA, hw.cg e, JsK.rf.q n.2.1, n.1.fz, n.1.lf⟩
theorem go_22 {a : Int} {b : Int} (E : FxE σ C z T) (hs : (.inr (22, a, b, t, e) :: l) <:+ z.2.1) (hr : RnR τ σ (plI l) M) (hb : ¬ BdF σ) (h : Bw σ A u v) (hn : ¬ b = 1) : ∃ Y, (RnR τ Y (plI (.inr (22, a, b, t, e) :: l)) M ∧ ¬ BdF Y) ∧ Bw Y A ((u &&& v) &&& (bitQ a ^^^ allB)) ((u &&& v) &&& (bitQ a ^^^ allB)) ∧ NxT k σ Y := by
  obtain ⟨p, nb, i, g, g2⟩ := go E hs hr hb (by show 19 ≤ (22 : Int) ∧ ¬ (22 : Int) = 20 ∧ ¬ (22 : Int) = 54; decide)
  rw [fs_e22 i.1] at nb g g2
  obtain ⟨B, F, J⟩ := fw_22 (k := k) (σ := laS σ 0 p) (c := plI l) h.la (fun q => by
    have r := i.2.2.1
    rw [q] at r
    exact hn r.symm)
  rw [bq_e i.2.1] at B
  exact ⟨_, ⟨g f2_22, nb⟩, B, nx_of F J⟩
theorem go_15 {x : XrZ} (E : FxE σ C z T) (hs : (.inl x :: l) <:+ z.2.1) (hx : x.1.1 = 15) (hr : RnR τ σ (plI l) M) (hb : ¬ BdF σ) (h : Bw σ A u v) : ∃ Y, (RnR τ Y (plI (.inl x :: l)) M ∧ ¬ BdF Y) ∧ Bw Y A ((u &&& v) ||| bitQ x.2.1.2.1) ((u &&& v) ||| bitQ x.2.1.2.1) ∧ NxT k σ Y := by
  obtain ⟨pl1, _, pn⟩ := pl_lt E hs
  have cc : ccZ σ l.length x := E.1.1.at (itN_at hs)
  have e1 : (aI σ 19 (plI l).toNatClampNeg).toInt = 22 := by
    rw [pn, cc.1]
    unfold opkZ
    rw [if_neg (by omega), if_neg (by omega), if_neg (by omega), if_neg (by omega), if_neg (by omega), if_neg (by omega), if_neg (by omega), if_neg (by omega), if_neg (by omega), if_neg (by omega), if_neg (by omega), if_neg (by omega), if_neg (by omega), if_pos hx]
  have e2 := cc.2.2.2.2.2.2.2.2.2 hx
  obtain ⟨p, nb, g2⟩ := go_c pl1 hr hb (by rw [e1]; decide)
  have es : fsS (laS σ 0 p) (plI l) = fs_22 (laS σ 0 p) (plI l) := fs_e22 e1
  rw [es] at nb g2
  obtain ⟨B, F, J⟩ := fw_22s (k := k) (σ := laS σ 0 p) (c := plI l) h.la (i32_lit (by
    show (aI σ 21 (plI l).toNatClampNeg).toInt = _
    rw [pn, e2.2]
    rfl))
  rw [bq_e (w := aI (laS σ 0 p) 20 (plI l).toNatClampNeg) (by
    show (aI σ 20 (plI l).toNatClampNeg).toInt = _
    rw [pn, e2.1])] at B
  exact ⟨_, ⟨g2 _ (f2_22.trans (pl_s E hs)) (no_54 E hs (fun y q => by cases q)), nb⟩, B, nx_of F J⟩
theorem hd_r {y : Int × Int × Int × Int × Int} : HdR (.inr y :: l) := Or.inr ⟨y, l, rfl⟩
/-- a declaration -/
theorem va_go {h : Int × Int × Int × Int} {th : Int} {mm : Int64} (H : GxF N C z T ms) (g : VaD z j h th l m) (hl0 : 0 ≤ h.2.2.1) (hm : m <:+ z.2.1) (hA : AtF τ C z T M l σ) (hw : Bw σ A mm mm) (k : Nat) : (BdF τ ∧ tdD z T j mm = none) ∨ ∃ Y mm', tdD z T j mm = some (true, mm', [], []) ∧ AtF τ C z T M m Y ∧ Bw Y A mm' mm' ∧ NxT k σ Y := by
  obtain ⟨v, t, ⟨v0, v1⟩, hv⟩ := g
  obtain ⟨hk, tk, lk, pk⟩ := h
  rcases hv with ⟨R, rfl⟩ | ⟨m0, r, x, hx, R, ⟨k15, kv, _⟩, rfl⟩
  · have lb : lkBz z j = bitQ v := by
      unfold lkBz
      rw [R.lj, if_neg (by omega)]
    obtain ⟨Y, r1, w1, n1⟩ := go_22 (k := k) hA.2.1.1 hm hA.1.1 hA.1.2 hw (by decide)
    rw [an_id] at w1
    refine Or.inr ⟨Y, mm &&& (bitQ v ^^^ allB), ?_, hA.mv r1 n1.1.1 n1.2.2 (Nat.le_succ _), w1, n1⟩
    unfold tdD
    rw [R.xj, if_pos (by decide), lb]
  · have lb : lkBz z j = bitQ v := by
      unfold lkBz
      rw [R.lj, if_neg (by omega)]
    have hm0 : m0 <:+ z.2.1 := (List.suffix_cons _ _).trans hm
    obtain ⟨Y1, r1, w1, n1⟩ := go_22 (k := k) hA.2.1.1 (hx.sf.trans hm0) hA.1.1 hA.1.2 hw (by decide)
    rw [an_id] at w1
    have A1 : AtF τ C z T M (cIy 22 v 2 t :: l) Y1 := hA.mv r1 n1.1.1 n1.2.2 (Nat.le_succ _)
    have x0 := hx.nn.2.1
    have et : tdD z T j mm = (exD z T ((xcZ m0 : Int) - 1) (mm &&& (bitQ v ^^^ allB))).map (fun e => (true, (e.1 &&& e.2) ||| bitQ v, [], [])) := by
      unfold tdD
      rw [R.xj, if_neg (by omega), lb]
    rw [et]
    rcases ex_go H A1 hd_r hx hl0 hm0 w1 k with ⟨b1, b2⟩ | ⟨Y2, e, e1, A2, w2, n2, _⟩
    · exact Or.inl ⟨b1, by rw [b2]; rfl⟩
    · obtain ⟨Y3, r3, w3, n3⟩ := go_15 (k := k) A2.2.1.1 hm k15 A2.1.1 A2.1.2 w2
      rw [kv] at w3
      exact Or.inr ⟨Y3, _, by rw [e1]; rfl, A2.mv r3 n3.1.1 n3.2.2 (Nat.le_succ _), w3, (n1.tr n2).tr n3⟩
theorem fw_to (H : GxF N C z T ms) (g : VaD z j (91, t, lv, a) k l m) (hl0 : 0 ≤ lv) (hm : m <:+ z.2.1) (hk : kjS z j = 91) : FwI τ C N z T j hi k l m := by
  intro f M σ mm hf hB hO hw
  rw [i_91 (Or.inl hk)]
  rcases va_go H g hl0 hm hB.1 hw k with q | ⟨Y, mm', e1, A1, w1, n1⟩
  · exact Or.inl q
  · exact Or.inr ⟨_, Y, e1, out_n A1 w1 (iff_of_true trivial rfl) n1⟩
theorem fw_xs {a' b' t' : Int} (H : GxF N C z T ms) (hx : ExX lv l m r) (hl0 : 0 ≤ lv) (hm : (cEy 21 a' b' t' m :: m) <:+ z.2.1) (hk : kjS z j = 90) (xj : xjS z j = (xcZ m : Int) - 1) : FwI τ C N z T j hi k l (cEy 21 a' b' t' m :: m) := by
  intro f M σ mm hf hB hO hw
  rw [i_90 (Or.inl hk)]
  unfold xsD'
  rw [xj]
  rcases ex_go H hB.1 hB.2.1 hx hl0 ((List.suffix_cons _ _).trans hm) hw k with ⟨b1, b2⟩ | ⟨Y, e, e1, A1, w1, n1, _⟩
  · exact Or.inl ⟨b1, by rw [b2]; rfl⟩
  · obtain ⟨Y2, r2, w2, n2⟩ := go_21 (k := k) A1.2.1.1 hm A1.1.1 A1.1.2 w1
    exact Or.inr ⟨_, Y2, by rw [e1]; rfl, out_n (A1.mv r2 n2.1.1 n2.2.2 (Nat.le_succ _)) w2 (iff_of_true trivial rfl) (n1.tr n2)⟩
theorem fw_em (hk : kjS z j = 4) : FwI τ C N z T j hi k l l := by
  intro f M σ mm hf hB hO hw
  rw [i_4 hk]
  exact Or.inr ⟨_, σ, rfl, out_n hB.1 hw (iff_of_true trivial rfl) NxT.rf⟩
theorem fw_r0 {a' b' t' : Int} (hm : (cIy 48 a' b' t' :: l) <:+ z.2.1) (hk : kjS z j = 66) (xj : xjS z j = -1) : FwI τ C N z T j hi k l (cIy 48 a' b' t' :: l) := by
  intro f M σ mm hf hB hO hw
  rw [i_66 (Or.inl hk)]
  unfold giD'
  rw [xj, exd_n (by decide)]
  have A1 := hB.1
  obtain ⟨Y2, r2, w2, n2⟩ := go_48 (k := k) A1.2.1.1 hm A1.1.1 A1.1.2 hw
  exact Or.inr ⟨_, Y2, rfl, out_n (A1.mv r2 n2.1.1 n2.2.2 (Nat.le_succ _)) w2 (iff_of_false id (by decide)) n2⟩
theorem fw_r1 {a' b' t' : Int} (H : GxF N C z T ms) (hx : ExX lv l m r) (hl0 : 0 ≤ lv) (hm : (cEy 48 a' b' t' m :: m) <:+ z.2.1) (hk : kjS z j = 66) (xj : xjS z j = (xcZ m : Int) - 1) : FwI τ C N z T j hi k l (cEy 48 a' b' t' m :: m) := by
  intro f M σ mm hf hB hO hw
  rw [i_66 (Or.inl hk)]
  unfold giD'
  rw [xj]
  rcases ex_go H hB.1 hB.2.1 hx hl0 ((List.suffix_cons _ _).trans hm) hw k with ⟨b1, b2⟩ | ⟨Y, e, e1, A1, w1, n1, _⟩
  · exact Or.inl ⟨b1, by rw [b2]; rfl⟩
  · obtain ⟨Y2, r2, w2, n2⟩ := go_48 (k := k) A1.2.1.1 hm A1.1.1 A1.1.2 w1
    exact Or.inr ⟨_, Y2, by rw [e1]; rfl, out_n (A1.mv r2 n2.1.1 n2.2.2 (Nat.le_succ _)) w2 (iff_of_false id (by decide)) (n1.tr n2)⟩
theorem fw_th {a' b' t' : Int} (H : GxF N C z T ms) (hx : ExX lv l m r) (hl0 : 0 ≤ lv) (hm : (cEy 49 a' b' t' m :: m) <:+ z.2.1) (hk : kjS z j = 67) (xj : xjS z j = (xcZ m : Int) - 1) : FwI τ C N z T j hi k l (cEy 49 a' b' t' m :: m) := by
  intro f M σ mm hf hB hO hw
  rw [i_66 (Or.inr hk)]
  unfold giD'
  rw [xj]
  rcases ex_go H hB.1 hB.2.1 hx hl0 ((List.suffix_cons _ _).trans hm) hw k with ⟨b1, b2⟩ | ⟨Y, e, e1, A1, w1, n1, _⟩
  · exact Or.inl ⟨b1, by rw [b2]; rfl⟩
  · obtain ⟨Y2, r2, w2, n2⟩ := go_49 (k := k) A1.2.1.1 hm A1.1.1 A1.1.2 w1
    exact Or.inr ⟨_, Y2, by rw [e1]; rfl, out_n (A1.mv r2 n2.1.1 n2.2.2 (Nat.le_succ _)) w2 (iff_of_false id (by decide)) (n1.tr n2)⟩
/-- a jump -/
theorem fw_ju {kd t' : Int} (hkd : kd = 64 ∨ kd = 65) (hm : (cIy (kd - 18) (tqD N z j) 0 t' :: l) <:+ z.2.1) (hk : kjS z j = kd) (h0 : 0 ≤ tjT N z j) (hth : 0 ≤ thS z (tjT N z j).toNat) : FwI τ C N z T j hi k l (cIy (kd - 18) (tqD N z j) 0 t' :: l) := by
  intro f M σ mm hf hB hO hw
  rw [i_64 (by omega)]
  have A1 := hB.1
  have eq : tqD N z j = thS z (tjT N z j).toNat := if_neg (by omega)
  obtain ⟨p, nb, i, g, g2⟩ := go A1.2.1.1 hm A1.1.1 A1.1.2 (by show 19 ≤ kd - 18 ∧ ¬ kd - 18 = 20 ∧ ¬ kd - 18 = 54; omega)
  obtain ⟨n, en, nl⟩ := A1.2.2
  have ll := hm.length_le
  rw [List.length_cons] at ll
  have l4 := A1.2.1.1.1.2.2
  have pl := (pl_lt A1.2.1.1 hm).2.1
  have key : ∃ on : Int32, on = onI (decide (kjS z j = 65)) ∧ ((aI σ 19 (plI l).toNatClampNeg = 46 ∧ on = 0) ∨ (aI σ 19 (plI l).toNatClampNeg = 47 ∧ on = 1)) ∧ fsS (laS σ 0 p) (plI l) = fs_46 (laS σ 0 p) (plI l) := by
    rcases hkd with e | e
    · refine ⟨0, ?_, Or.inl ⟨i32_lit (i.1.trans (by rw [e]; rfl)), rfl⟩, fs_e46 (i.1.trans (by rw [e]; rfl))⟩
      rw [hk, e]
      rfl
    · refine ⟨1, ?_, Or.inr ⟨i32_lit (i.1.trans (by rw [e]; rfl)), rfl⟩, (fs_e47 (i.1.trans (by rw [e]; rfl))).trans fs_47e⟩
      rw [hk, e]
      rfl
  obtain ⟨on, o1, o2, o3⟩ := key
  rw [o3] at nb g
  have hK : (aI (laS σ 0 p) 20 (plI l).toNatClampNeg).toInt = thS z (tjT N z j).toNat := i.2.1.trans eq
  obtain ⟨B, F, J, e103, e2⟩ := fw_46 (k := k) (σ := laS σ 0 p) (c := plI l) hw.la trivial o2 (n := n) en (by omega) (leJ (by rw [hK]; exact hth))
  have F2 : FqT k σ (fs_46 (laS σ 0 p) (plI l)).1 := FqT.la.tr F
  refine Or.inr ⟨_, _, rfl, ⟨⟨g e2, nb⟩, A1.2.1.fr F2.1, n + 1, ?_, by rw [List.length_cons]; omega⟩, B.cg (iff_of_false id (fun q => by cases (show false = true from q))), ⟨_, J.trans (congrArg (· ++ _) Jq.la.jn), ⟨⟨h0, hK⟩, o1, ?_, iff_of_true (by show ¬ (1 : Int32) = 0; decide) rfl, an_id⟩, trivial⟩, F2.fz, F2.lf⟩
  · rw [e103]
    show (gI σ 103 + 1).toInt = _
    rw [i32_add (by omega) (by omega), en]
    omega
  · show (l.length : Int) ≤ (plI l).toInt ∧ (plI l).toInt < (((cIy (kd - 18) (tqD N z j) 0 t' :: l).length : Nat) : Int)
    rw [pl, List.length_cons]
    omega
/-- exps of for -/
theorem fx_go (H : GxF N C z T ms) (hl0 : 0 ≤ lv) : ∀ (L : List Nat) (p q : Ps), FxD z lv a L p q → q.2.2 <:+ z.2.1 → ∀ (f : Nat) (σ : RS) (mm : Int64), 2 * (q.1 - p.1) ≤ f → AtF τ C z T M p.2.2 σ → HdR p.2.2 → Bw σ A mm mm → (BdF τ ∧ (dF N z T f).1 (hdI L) true mm = none) ∨ ∃ R Y, (dF N z T f).1 (hdI L) true mm = some R ∧ (R.1 = true ∧ R.2.2.1 = []) ∧ AtF τ C z T M q.2.2 Y ∧ Bw Y A R.2.1 R.2.1 ∧ NxT k σ Y := by
  intro L
  induction L with
  | nil =>
    intro p q h hq f σ mm hf hA hh hw
    rw [show q = p from h, show hdI [] = -1 from rfl, d_r0 (by decide)]
    exact Or.inr ⟨_, σ, rfl, ⟨rfl, rfl⟩, hA, hw, NxT.rf⟩
  | cons j L ih =>
    intro p q h hq f σ mm hf hA hh hw
    have le := fx_le h
    obtain ⟨ej, en, t, m, r, D, hx, h2⟩ := h
    have le2 := fx_le h2
    have le2 : p.1 + 1 ≤ q.1 := le2
    subst ej
    have sf : (cEy 21 (acZ r) 0 r.1.2.2.1 m :: m) <:+ q.2.2 := (TaB.fx (P := fun _ => True) (l := cEy 21 (acZ r) 0 r.1.2.2.1 m :: m) h2 TaB.rf).1
    have hm := sf.trans hq
    obtain ⟨f, rfl⟩ : ∃ k, f = k + 2 := ⟨f - 2, by omega⟩
    have hi : inD' (dF N z T f) N z T p.1 mm = (exD z T ((xcZ m : Int) - 1) mm).map (fun e => (true, e.1 &&& e.2, [], [])) := by
      rw [i_90 (Or.inr D.kj)]
      unfold xsD'
      rw [D.xj]
    rw [show hdI (p.1 :: L) = (p.1 : Int) from rfl, d_r1, d_st, d_t, hi, en]
    rcases ex_go H hA hh hx hl0 ((List.suffix_cons _ _).trans hm) hw k with ⟨b1, b2⟩ | ⟨Y, e, e1, A1, w1, n1, _⟩
    · exact Or.inl ⟨b1, by rw [b2]; rfl⟩
    · obtain ⟨Y2, r2, w2, n2⟩ := go_21 (k := k) A1.2.1.1 hm A1.1.1 A1.1.2 w1
      have A2 : AtF τ C z T M (cEy 21 (acZ r) 0 r.1.2.2.1 m :: m) Y2 := A1.mv r2 n2.1.1 n2.2.2 (Nat.le_succ _)
      rw [e1]
      rcases ih _ _ h2 hq (f + 1) Y2 (e.1 &&& e.2) (by show 2 * (q.1 - (p.1 + 1)) ≤ f + 1; omega) A2 hd_r w2 with ⟨b1, b2⟩ | ⟨R, Y3, e3, ⟨s1, s2⟩, A3, w3, n3⟩
      · refine Or.inl ⟨b1, ?_⟩
        show ((dF N z T (f + 1)).1 (hdI L) true (e.1 &&& e.2)).map (apG _) = none
        rw [b2]
        rfl
      · refine Or.inr ⟨apG (true, e.1 &&& e.2, [], [(p.1, mm, true)]) R, Y3, ?_, ⟨s1, by show [] ++ R.2.2.1 = []; rw [s2]; rfl⟩, A3, w3, (n1.tr n2).tr n3⟩
        show ((dF N z T (f + 1)).1 (hdI L) true (e.1 &&& e.2)).map (apG _) = _
        rw [e3]
        rfl
theorem fi_go (H : GxF N C z T ms) (hl0 : 0 ≤ lv) {o : Int} {p q : Ps} (h : FiD z lv j o p q) (hq : q.2.2 <:+ z.2.1) {f : Nat} {σ : RS} {mm : Int64} (hf : 2 * (q.1 - p.1) ≤ f) (hA : AtF τ C z T M p.2.2 σ) (hh : HdR p.2.2) (hw : Bw σ A mm mm) : (BdF τ ∧ (dF N z T f).1 o true mm = none) ∨ ∃ R Y, (dF N z T f).1 o true mm = some R ∧ (R.1 = true ∧ R.2.2.1 = []) ∧ AtF τ C z T M q.2.2 Y ∧ Bw Y A R.2.1 R.2.1 ∧ NxT k σ Y := by
  rcases h with ⟨rfl, rfl⟩ | ⟨rfl, t, m0, hv, hn, rfl⟩ | ⟨L, rfl, _, h⟩
  · rw [d_r0 (by decide)]
    exact Or.inr ⟨_, σ, rfl, ⟨rfl, rfl⟩, hA, hw, NxT.rf⟩
  · have D : kjS z p.1 = 93 := by
      obtain ⟨v, t2, _, hv⟩ := hv
      rcases hv with ⟨D, _⟩ | ⟨_, _, _, _, D, _⟩
      · exact D.kj
      · exact D.kj
    have hf : 2 * (p.1 + 1 - p.1) ≤ f := hf
    obtain ⟨f, rfl⟩ : ∃ k, f = k + 2 := ⟨f - 2, by omega⟩
    rw [d_r1, d_st, d_t, i_91 (Or.inr D), hn]
    rcases va_go H hv hl0 hq hA hw k with ⟨b1, b2⟩ | ⟨Y, mm', e1, A1, w1, n1⟩
    · exact Or.inl ⟨b1, by rw [b2]; rfl⟩
    · refine Or.inr ⟨apG (true, mm', [], [(p.1, mm, true)]) (true, mm', [], []), Y, ?_, ⟨rfl, rfl⟩, A1, w1, n1⟩
      rw [e1]
      show ((dF N z T (f + 1)).1 (-1) true mm').map (apG _) = _
      rw [d_r0 (by decide)]
      rfl
  · exact fx_go H hl0 L p q h hq f σ mm hf hA hh hw
end
