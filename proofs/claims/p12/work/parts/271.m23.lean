/-! from an S's beginning on -/
theorem nT_q {x : Int32} {n : Nat} (h : x.toInt = n) : x.toNatClampNeg = n := by
  show x.toInt.toNat = n
  rw [h]
  rfl
/-- z0: ahead of it; zb: it has begun -/
def PgZ (z0 zb z : ZS) : Prop := SgZ zb z ∧ (coM 20 0 0 (zAt z0.1) z0).2.1 <:+ z.2.1
theorem PgZ.rf {z0 zb : ZS} (h : zb.2.1 = (coM 20 0 0 (zAt z0.1) z0).2.1) : PgZ z0 zb zb := ⟨SgZ.rf, by rw [h]; exact List.suffix_rfl⟩
theorem PgZ.t {z0 zb z z' : ZS} (h : PgZ z0 zb z) (s : SgZ z z') (i : z.2.1 <:+ z'.2.1) : PgZ z0 zb z' := ⟨h.1.tr s, h.2.trans i⟩
theorem PgZ.e {z0 zb z z' : ZS} (h : PgZ z0 zb z) (e1 : z'.2.1 = z.2.1) (e2 : z'.2.2.1 = z.2.2.1) : PgZ z0 zb z' := h.t (SgZ.e e2) (by rw [e1]; exact List.suffix_rfl)
theorem PgZ.co {z0 zb z : ZS} {x : ItZ} (h : PgZ z0 zb z) : PgZ z0 zb (z.1, x :: z.2.1, z.2.2) := h.t (SgZ.e rfl) (List.suffix_cons _ _)
theorem sg_ex {N : Int → Int} {j n : Nat} {z : ZS} : SgZ z (exS N j n z) := by
  have a : SgZ z (eM N n z) := SgZ.e (by rw [ks_e])
  have b : SgZ (eM N n z) (exS N j n z) := SgZ.se (fun _ => ⟨rfl, rfl, rfl⟩) (fun _ _ => rfl)
  exact a.tr b
theorem PgZ.ex {N : Int → Int} {j n : Nat} {z0 zb z : ZS} (h : PgZ z0 zb z) : PgZ z0 zb (exS N j n z) := h.t sg_ex (ig_e z)
theorem PgZ.cd {N : Int → Int} {j n : Nat} {z0 zb z : ZS} (h : PgZ z0 zb z) : PgZ z0 zb (cdM N j n z) := h.t sg_cd ig_cd
theorem PgZ.se {z0 zb z : ZS} {i : Nat} {f : SrZ → SrZ} (h : PgZ z0 zb z) (hf : ∀ x, (f x).1 = x.1 ∧ (f x).2.1 = x.2.1 ∧ (f x).2.2.2.2.2.2.2.2 = x.2.2.2.2.2.2.2.2) (hl : kjS z i = 6 → ∀ x, (f x).2.2.2.2.2.2.2.1 = x.2.2.2.2.2.2.2.1) : PgZ z0 zb (seM i f z) := h.t (SgZ.se hf hl) List.suffix_rfl
theorem PgZ.be {z0 zb z : ZS} {k lv : Int} (h : PgZ z0 zb z) : PgZ z0 zb (beM k lv z) := h.t SgZ.be List.suffix_rfl
theorem itN_0 {x : ItZ} {l : List ItZ} : itN (x :: l) l.length = some x := by rw [itN, if_pos rfl]
theorem PgZ.st {z0 zb z : ZS} (h : PgZ z0 zb z) : itN z.2.1 (cnM z0) = some (.inr (20, 0, 0, zAt z0.1, -1)) := itN_g h.2 itN_0
theorem PgZ.fi {z0 zb z : ZS} (h : PgZ z0 zb z) (hs : snM z0 < snM zb) (e : fiS zb (snM z0) = zAt z0.1) : fiS z (snM z0) = zAt z0.1 := by
  rw [← e]
  unfold fiS
  rw [(h.1.2 _ hs).1]
theorem fi_be {z : ZS} {k lv : Int} : fiS (beM k lv z) (snM z) = zAt z.1 := by
  unfold fiS
  have R : reS (beM k lv z) (snM z) = ((k, zAt z.1, lv, z.2.2.2.1.2), z.2.2.2.1.1, (-1, -1, -1, -1, -1, -1, (tnM z : Int))) := if_pos rfl
  rw [R]
theorem kj_be {z : ZS} {k lv : Int} : kjS (beM k lv z) (snM z) = k := by
  unfold kjS
  have R : reS (beM k lv z) (snM z) = ((k, zAt z.1, lv, z.2.2.2.1.2), z.2.2.2.1.1, (-1, -1, -1, -1, -1, -1, (tnM z : Int))) := if_pos rfl
  rw [R]
theorem PgZ.fb {z0 z1 z : ZS} {k lv : Int} (h : PgZ z0 (beM k lv z1) z) (e1 : snM z1 = snM z0) (e2 : zAt z1.1 = zAt z0.1) : fiS z (snM z0) = zAt z0.1 := h.fi (by show snM z0 < snM z1 + 1; omega) (by rw [← e1, fi_be, e2])
theorem PgZ.fh {z0 z1 z : ZS} {k lv : Int} (h : PgZ z0 (thM (beM k lv z1)) z) (e1 : snM z1 = snM z0) (e2 : zAt z1.1 = zAt z0.1) : fiS z (snM z0) = zAt z0.1 := h.fi (by show snM z0 < snM z1 + 1; omega) (by rw [← e2, ← e1]; exact fi_be)
theorem BZ.tok {N : Int → Int} {σ : RS} {z : ZS} {F K : List FrZ} {c : Nat} {a b t e : Int} {s : Int32} (h : BZ N σ z F K) (hc : itN z.2.1 c = some (.inr (20, a, b, t, e))) (hs : s.toInt = (c : Int)) : (aI σ 22 s.toNatClampNeg).toInt = t := by
  have q := h.1.1.1.at hc
  have e : s.toNatClampNeg = c := nT_q hs
  rw [e]
  exact q.2.2.2
theorem BZ.pcm {N : Int → Int} {σ : RS} {z : ZS} {F K : List FrZ} (h : BZ N σ z F K) : PcM id σ z := h.1.1
theorem BZ.tl {N : Int → Int} {σ : RS} {z : ZS} {F K : List FrZ} (h : BZ N σ z F K) : TlZ σ z.1 := h.2.1.1
theorem KtR.gh {σ : RS} {z z' : ZS} (h : KtR σ z) (e1 : z'.2.1 = z.2.1) (e2 : tnM z' = tnM z) : KtR σ z' := h.z e1 e2 (fun _ _ _ => rfl)
theorem KtR.ek {σ τ : RS} {z : ZS} {x : Int × Int × Int × Int × Int} {k : Nat} (h : KtR σ z) (q : ∀ a, 51 ≤ a → a ≤ 61 → aI τ a = aI σ a) (hk : k < tnM z) (hx : x.2.1 = (k : Int)) (h5 : ¬ x.1 = 50 ∧ ¬ x.1 = 41 ∧ ¬ x.1 = 51) (hs : ∀ a, a < 60 → sqZ a x.1 = false) : KtR τ (z.1, .inr x :: z.2.1, z.2.2) := h.em q (fun _ => TcR.k h hk hx h5) hs
theorem KtR.es {σ τ : RS} {z : ZS} {x : Int × Int × Int × Int × Int} {A k : Nat} {op a b t f l s : Int32} (h : KtR σ z) (e : EmZ σ op a b t f l τ) (hA : 52 ≤ A ∧ A ≤ 59) (hk : k < tnM z) (hs32 : s.toInt = (k : Int)) (hx : x.2.1 = (k : Int)) (h5 : ¬ x.1 = 50 ∧ ¬ x.1 = 41 ∧ ¬ x.1 = 51) (hc : (gI σ 18).toInt = (cnM z : Int)) (hs : ∀ a, a < 60 → (sqZ a x.1 = true ↔ a = A)) : KtR (sA τ A (upd (aI τ A) s.toNatClampNeg (gI σ 18))) (z.1, .inr x :: z.2.1, z.2.2) := by
  have en : s.toNatClampNeg = k := nT_q hs32
  refine h.st hA hk hx (fun j h1 h2 h3 => (aI_ne h3).trans (emK e j h1 h2)) ?_ hc (TcR.k h hk hx h5) hs
  rw [aI_eq, en, emK e A (by omega) (by omega)]
theorem KtR.et {σ τ : RS} {z : ZS} {x : Int × Int × Int × Int × Int} {A k : Nat} {op a b t f l s : Int32} {g : Nat → Int32} (h : KtR σ z) (e : EmZ σ op a b t f l τ) (hA : 52 ≤ A ∧ A ≤ 59) (hk : k < tnM z) (hs32 : s.toInt = (k : Int)) (hx : x.2.1 = (k : Int)) (h5 : ¬ x.1 = 50 ∧ ¬ x.1 = 41 ∧ ¬ x.1 = 51) (hc : (gI σ 18).toInt = (cnM z : Int)) (hs : ∀ a, a < 60 → (sqZ a x.1 = true ↔ a = A)) : KtR (sA (sA τ 21 g) A (upd (aI τ A) s.toNatClampNeg (gI σ 18))) (z.1, .inr x :: z.2.1, z.2.2) := by
  have en : s.toNatClampNeg = k := nT_q hs32
  refine h.st hA hk hx (fun j h1 h2 h3 => (aI_ne h3).trans ((aI_ne (by omega)).trans (emK e j h1 h2))) ?_ hc (TcR.k h hk hx h5) hs
  rw [aI_eq, en, emK e A (by omega) (by omega)]
theorem PcM.sx {th : Int → Int} {σ τ : RS} {z : ZS} {op a t b : Int32} {x : XrZ} (h : PcM th σ z) (e : EmZ σ op a 0 t t t τ) (m : cmZ op.toInt a.toInt b.toInt t.toInt t.toInt t.toInt x) : PcM th (sA τ 21 (upd (aI τ 21) (gI σ 18).toNatClampNeg b)) (puM x z) := by
  have hn : (gI σ 18).toNatClampNeg = nT (gI σ 18) := rfl
  refine h.st (x := .inl x) e.n (fun k q1 q2 j hj => ?_) ?_
  · by_cases hk : k = 21
    · subst hk
      rw [aI_eq, hn, upd_ne (by omega)]
      exact e.o (by decide) (by decide) hj
    · rw [aI_ne hk]
      exact e.o q1 q2 hj
  · obtain ⟨c1, c2, c3, c4, c5, c6⟩ := e.c
    show ccZ _ _ x
    unfold ccZ
    rw [aI_ne (by decide), aI_ne (by decide), aI_eq, aI_ne (by decide), aI_ne (by decide), aI_ne (by decide), hn, upd_eq, c1, c2, c4, c5, c6]
    exact m
/-- a variable's first value -/
theorem BZ.sto {N : Int → Int} {σ τ : RS} {z : ZS} {F K : List FrZ} {a t : Int32} {v j st : Int} (h : BZ N σ z F K) (e : EmZ σ 22 a 0 t t t τ) (l : aL τ = aL σ) (ha : a.toInt = v) : BZ N (sA τ 21 (upd (aI τ 21) (gI σ 18).toNatClampNeg 1)) (puM (stoZ v j st (xnM z) z.1) z) F K := h.g ((WeR.em e.1 l).a (by decide)) (h.1.1.sx e (cm_sto (by decide) ha rfl)) (List.suffix_cons _ _) (SgZ.e rfl) rfl rfl (n5_xs XsR.pu)
/-- from t on -/
def PhZ (t z : ZS) : Prop := SgZ t z ∧ t.2.1 <:+ z.2.1
theorem PhZ.rf {t : ZS} : PhZ t t := ⟨SgZ.rf, List.suffix_rfl⟩
theorem PhZ.t {t z z' : ZS} (h : PhZ t z) (s : SgZ z z') (i : z.2.1 <:+ z'.2.1) : PhZ t z' := ⟨h.1.tr s, h.2.trans i⟩
theorem PhZ.e {t z z' : ZS} (h : PhZ t z) (e1 : z'.2.1 = z.2.1) (e2 : z'.2.2.1 = z.2.2.1) : PhZ t z' := h.t (SgZ.e e2) (by rw [e1]; exact List.suffix_rfl)
theorem PhZ.co {t z : ZS} {x : ItZ} (h : PhZ t z) : PhZ t (z.1, x :: z.2.1, z.2.2) := h.t (SgZ.e rfl) (List.suffix_cons _ _)
theorem PhZ.ex {N : Int → Int} {j n : Nat} {t z : ZS} (h : PhZ t z) : PhZ t (exS N j n z) := h.t sg_ex (ig_e z)
theorem PhZ.cd {N : Int → Int} {j n : Nat} {t z : ZS} (h : PhZ t z) : PhZ t (cdM N j n z) := h.t sg_cd ig_cd
theorem PhZ.bd {t z : ZS} {j jb : Nat} (h : PhZ t z) : PhZ t (bdM j jb z) := (h.t (SgZ.se (i := j) (f := sBd jb) (fun _ => ⟨rfl, rfl, rfl⟩) (fun _ _ => rfl)) List.suffix_rfl).e rfl rfl
theorem PhZ.ot {t z : ZS} {j : Nat} {v : Int} (h : PhZ t z) : PhZ t (unM j (seM j (sOt v) z)) := (h.t (SgZ.se (i := j) (f := sOt v) (fun _ => ⟨rfl, rfl, rfl⟩) (fun _ _ => rfl)) List.suffix_rfl).e rfl rfl
theorem PhZ.fi {t z : ZS} {j : Nat} (h : PhZ t z) (hj : j < snM t) : fiS z j = fiS t j := by
  unfold fiS
  rw [(h.1.2 _ hj).1]
theorem SR.lv {e : Nat} {σ τ : RS} {s : SpC} {n : Nat} {k t : Int32} (h : SRx e σ s n) (q : LvZ σ k t τ) : SRx e τ s n := SR.sq h ⟨fun k _ => q.1 k, fun k hk => q.2.1 k (fun c => by rw [c] at hk; exact absurd hk (by decide))⟩
theorem FgR.lv {σ τ : RS} {b : Int} {k t : Int32} (h : FgR σ b) (q : LvZ σ k t τ) : FgR τ b := h.sq ⟨fun k _ => q.1 k, fun k hk => q.2.1 k (fun c => by rw [c] at hk; exact absurd hk (by decide))⟩
theorem frR_lv {σ τ : RS} {k t : Int32} (q : LvZ σ k t τ) : frR τ = frR σ := frR_c (q.2.1 63 (by decide)) (q.1 62)
theorem TcR.t50 {σ : RS} {z : ZS} {x : Int × Int × Int × Int × Int} {k : Nat} (hk : k < tnM z) (hx : x.2.1 = (k : Int)) (e : (aI σ 51 k).toInt = (z.2.1.length : Int)) (h5 : ¬ x.1 = 41 ∧ ¬ x.1 = 51) : TcR σ (tnM z) z.2.1.length x := by
  have en : x.2.1.toNat = k := by omega
  unfold TcR
  rw [en]
  exact ⟨by omega, by omega, by rw [e]; exact Int.le_refl _, fun _ => e, fun q => absurd q h5.1, fun q => absurd q h5.2⟩
theorem TcR.t41 {σ : RS} {z : ZS} {x : Int × Int × Int × Int × Int} {k : Nat} (h : KtR σ z) (hk : k < tnM z) (hx : x.2.1 = (k : Int)) (e : (aI σ 60 k).toInt = x.2.2.2.1) (h5 : ¬ x.1 = 50 ∧ ¬ x.1 = 51) : TcR σ (tnM z) z.2.1.length x := by
  have en : x.2.1.toNat = k := by omega
  unfold TcR
  rw [en]
  exact ⟨by omega, by omega, (h.2.1 k hk).2, fun q => absurd q h5.1, fun _ => e, fun q => absurd q h5.2⟩
theorem PgZ.kb {z0 z1 z : ZS} {k lv : Int} (h : PgZ z0 (beM k lv z1) z) (e1 : snM z1 = snM z0) : kjS z (snM z0) = k := by
  have hs : snM z0 < snM (beM k lv z1) := by show snM z0 < snM z1 + 1; omega
  have e : kjS (beM k lv z1) (snM z1) = k := kj_be
  rw [e1] at e
  rw [← e]
  unfold kjS
  rw [(h.1.2 _ hs).1]
/-- return, throw, break, continue: what they lay -/
theorem gi_6x {N : Int → Int} {n : Nat} {z : ZS} (h : ¬ codY (accY z.1) = 4) : giM N 66 n z = enM (snM z) (cnM z) (xpM 4 (cxM 48 1 ((cnM (exS N (snM z) n (accM (bgM 66 n z))) : Int) - 1) (zAt z.1) (seM (snM z) (sLk (((zMs (exS N (snM z) n (accM (bgM 66 n z))).1).length : Int) - 1)) (exS N (snM z) n (accM (bgM 66 n z)))))) := by
  unfold giM
  dsimp only
  rw [if_pos (Or.inr (show ¬ codY (accM (bgM 66 n z)).1 = 4 from h)), if_pos rfl]
  rfl
theorem gi_6e {N : Int → Int} {n : Nat} {z : ZS} (h : codY (accY z.1) = 4) : giM N 66 n z = enM (snM z) (cnM z) (xpM 4 (coM 48 0 (-2) (zAt z.1) (seM (snM z) (sLk (((zMs (accM (bgM 66 n z)).1).length : Int) - 1)) (accM (bgM 66 n z))))) := by
  unfold giM
  dsimp only
  rw [if_neg (fun q => q.elim (by decide) (fun q => q (show codY (accM (bgM 66 n z)).1 = 4 from h)))]
  rfl
theorem gi_7 {N : Int → Int} {n : Nat} {z : ZS} : giM N 67 n z = enM (snM z) (cnM z) (xpM 4 (cxM 49 1 ((cnM (exS N (snM z) n (accM (bgM 67 n z))) : Int) - 1) (zAt z.1) (exS N (snM z) n (accM (bgM 67 n z))))) := by
  unfold giM
  dsimp only
  rw [if_pos (Or.inl rfl), if_neg (by decide)]
  rfl
theorem ju_y {N : Int → Int} {k : Int} {n : Nat} {z : ZS} (h : codY (accY z.1) = 80) : juM N k n z = enM (snM z) (cnM z) (xpM 4 (accM (coM (k - 18) (tqM N (decide (k = 65)) (zAt (accY z.1)) (accM (bgM k n z))) 0 (zAt (accY z.1)) (seM (snM z) (sLk (zAt (accY z.1))) (accM (bgM k n z)))))) := by
  unfold juM
  dsimp only
  rw [if_pos (show codY (accM (bgM k n z)).1 = 80 from h)]
  rfl
theorem ju_n {N : Int → Int} {k : Int} {n : Nat} {z : ZS} (h : ¬ codY (accY z.1) = 80) : juM N k n z = enM (snM z) (cnM z) (xpM 4 (coM (k - 18) (tqM N (decide (k = 65)) (-1) (accM (bgM k n z))) 0 (zAt z.1) (accM (bgM k n z)))) := by
  unfold juM
  dsimp only
  rw [if_neg (show ¬ codY (accM (bgM k n z)).1 = 80 from h)]
theorem tg_u {N : Int → Int} {z : ZS} {on : Bool} {t : Int} {u u' : Int × Int} {F : List FrZ} (h : t < 0) : tgF N z on t u F = tgF N z on t u' F := by
  cases F with
  | nil => rfl
  | cons a F => rw [tgF, tgF, if_pos h, if_pos h]
theorem tg_n0 {N : Int → Int} {z : ZS} {on : Bool} {t : Int} {u : Int × Int} {a : FrZ} {F : List FrZ} (h : t < 0) (q : ¬ (a.1 = 4 ∨ a.1 = 5 ∨ a.1 = 6 ∨ (on = false ∧ a.1 = 8))) : tgF N z on t u (a :: F) = tgF N z on t u F := by
  rw [tgF, if_pos h, if_neg q]
  exact tg_u h
theorem tg_n1 {N : Int → Int} {z : ZS} {on : Bool} {t : Int} {u : Int × Int} {a : FrZ} {F : List FrZ} (h : t < 0) (q : a.1 = 4 ∨ a.1 = 5 ∨ a.1 = 6 ∨ (on = false ∧ a.1 = 8)) : tgF N z on t u (a :: F) = (a.2.2.1.2 : Int) := by
  rw [tgF, if_pos h, if_pos q]
