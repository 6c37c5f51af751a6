/-! the latest exp that is laid by an exp: no mark, and it starts where reading began -/
def TpU (b : Nat) (st : Int) (z : ZS) : Prop := ∃ (r : XrZ) (l : List ItZ), z.2.1 = .inl r :: l ∧ r.2.2.1.1 = st ∧ (0 ≤ r.1.1 ∧ r.1.1 ≤ 10) ∧ b ≤ xcZ l
theorem TpU.z {b : Nat} {st : Int} {z z' : ZS} (h : TpU b st z) (e : z'.2.1 = z.2.1) : TpU b st z' := by sorry
theorem TpU.mo {b c : Nat} {st : Int} {z : ZS} (h : TpU b st z) (q : c ≤ b) : TpU c st z := by sorry
theorem TpU.xn {b : Nat} {st : Int} {z : ZS} (h : TpU b st z) : b + 1 ≤ xnM z := by sorry
theorem tp_pu {b : Nat} {st : Int} {z : ZS} {x : XrZ} (h : b ≤ xnM z) (hs : x.2.2.1.1 = st) (hk : 0 ≤ x.1.1 ∧ x.1.1 ≤ 10) : TpU b st (puM x z) := ⟨x, z.2.1, rfl, hs, hk, h⟩
theorem tp_cl {p : Int} {b : Nat} : ∀ (W : WtZ) (r : Int × Int) (z : ZS), TpU b r.2 z → TpU b (csrZ p W r).2 (clM p W z) := by sorry
abbrev ToX (f : ZS → ZS) : Prop := ∀ z, zFt (f z).1 = 0 → TpU (xnM z) (xnM z) (f z)
theorem gf_z {f : ZS → ZS} {g : SpC → SpC} (h : LfM f g) (q : GdY g) {z : ZS} (e : zFt (f z).1 = 0) : zFt z.1 = 0 := (q z.1).z (by rw [← h z]; exact e)
theorem str_nn {c : Int} : 0 ≤ strZ c := by sorry
theorem csr_csw {p : Int} : ∀ (W : WtZ) (r : Int × Int), csrZ 0 (cswZ p W) (csrZ p W r) = csrZ 0 W r := by sorry
theorem tp_chl {O : ZS → ZS} {o : SpC → SpC} (hO : ToX O) (lO : LfM O o) (gO : GdY o) (iO : IgM O) {b : Nat} : ∀ (f : Nat) (W : WtZ) (r : Int × Int) (z : ZS), TpU b r.2 z → zFt (chlM O f W r z).1 = 0 → TpU b (csrZ 0 W r).2 (chlM O f W r z) := by sorry
theorem tp_ch2 {E C : ZS → ZS} (gE : IgM E) (gC : IgM C) {b : Nat} {r : Int × Int} {z : ZS} (h : TpU b r.2 z) : TpU b r.2 (ch2M E C r z) := by sorry
theorem ch2_b {E C : ZS → ZS} {e c : SpC → SpC} (lE : LfM E e) (lC : LfM C c) (gE : GdY e) (gC : GdY c) {r : Int × Int} {z : ZS} (h : zFt (ch2M E C r z).1 = 0) : zFt z.1 = 0 := by sorry
theorem tp_chc {O E C : ZS → ZS} {o e c : SpC → SpC} (hO : ToX O) (lO : LfM O o) (gO : GdY o) (iO : IgM O) (lE : LfM E e) (lC : LfM C c) (gE : GdY e) (gC : GdY c) (iE : IgM E) (iC : IgM C) : ToX (chcM O E C) := by sorry
theorem tp_xps {N : Int → Int} {O E C : ZS → ZS} {o e c : SpC → SpC} (hO : ToX O) (lO : LfM O o) (gO : GdY o) (iO : IgM O) (lE : LfM E e) (lC : LfM C c) (gE : GdY e) (gC : GdY c) (iE : IgM E) (iC : IgM C) : ToX (xpsM N O E C) := by sorry
theorem tp_clp {E : ZS → ZS} (iE : IgM E) {r : Int × Int} {b : Nat} : ∀ (f : Nat) (l : List Int) (z : ZS), b ≤ xnM z → TpU b r.2 (clpM E r f l z) := by sorry
theorem tp_opr {N : Int → Int} {m : Nat} {E : ZS → ZS} {I : Int → ZS → ZS} (iE : IgM E) (iI : ∀ g, IgM (I g)) (g : Int) : ToX (oprM N m E I g) := by sorry
theorem tp_lv {N : Int → Int} : ∀ n, ToX (eM N n) ∧ ToX (cM N n) ∧ ∀ g, ToX (oM N n g) := by sorry
/-! what stands open inside an exp: && || ? : -/
/-- the latest one is an exp, no mark -/
def LsO (l : List ItZ) : Prop := ∃ (r : XrZ) (m : List ItZ), l = .inl r :: m ∧ 0 ≤ r.1.1 ∧ r.1.1 ≤ 10
abbrev MkF : Type := List (Int × Int × Int)
/-- one exp or mark more -/
def MkS (l : List ItZ) (x : XrZ) (G F : MkF) : Prop :=
  if x.1.1 = 11 then LsO l ∧ F = ((if x.1.2.1 = 21 then 0 else 1), (xcZ l : Int) - 1, 0) :: G
  else if x.1.1 = 12 then LsO l ∧ F = (2, (xcZ l : Int) - 1, 0) :: G
  else if x.1.1 = 13 then LsO l ∧ ∃ q H, G = (2, q, 0) :: H ∧ F = (3, q, (xcZ l : Int) - 1) :: H
  else if x.1.1 = 7 ∧ (x.1.2.1 = 20 ∨ x.1.2.1 = 21) then LsO l ∧ G = ((if x.1.2.1 = 21 then 0 else 1), x.2.2.1.2.1, 0) :: F ∧ x.2.2.1.2.2.1 = (xcZ l : Int) - 1
  else if x.1.1 = 8 then LsO l ∧ G = (3, x.2.2.1.2.1, x.2.2.1.2.2.1) :: F ∧ x.2.2.1.2.2.2.1 = (xcZ l : Int) - 1
  else if x.1.1 = 3 ∨ x.1.1 = 4 ∨ x.1.1 = 5 then (LsO l ∧ x.2.2.1.2.1 = (xcZ l : Int) - 1) ∧ F = G
  else F = G
section
variable {l : List ItZ} {x : XrZ} {G F : MkF}
theorem mks_11 (h : x.1.1 = 11) : MkS l x G F ↔ LsO l ∧ F = ((if x.1.2.1 = 21 then 0 else 1), (xcZ l : Int) - 1, 0) :: G := by sorry
theorem mks_12 (h : x.1.1 = 12) : MkS l x G F ↔ LsO l ∧ F = (2, (xcZ l : Int) - 1, 0) :: G := by sorry
theorem mks_13 (h : x.1.1 = 13) : MkS l x G F ↔ LsO l ∧ ∃ q H, G = (2, q, 0) :: H ∧ F = (3, q, (xcZ l : Int) - 1) :: H := by sorry
theorem mks_7 (h : x.1.1 = 7 ∧ (x.1.2.1 = 20 ∨ x.1.2.1 = 21)) : MkS l x G F ↔ LsO l ∧ G = ((if x.1.2.1 = 21 then 0 else 1), x.2.2.1.2.1, 0) :: F ∧ x.2.2.1.2.2.1 = (xcZ l : Int) - 1 := by sorry
theorem mks_8 (h : x.1.1 = 8) : MkS l x G F ↔ LsO l ∧ G = (3, x.2.2.1.2.1, x.2.2.1.2.2.1) :: F ∧ x.2.2.1.2.2.2.1 = (xcZ l : Int) - 1 := by sorry
theorem mks_3 (h : x.1.1 = 3 ∨ x.1.1 = 4 ∨ x.1.1 = 5) : MkS l x G F ↔ (LsO l ∧ x.2.2.1.2.1 = (xcZ l : Int) - 1) ∧ F = G := by sorry
theorem mks_o (h : ¬ (x.1.1 = 11 ∨ x.1.1 = 12 ∨ x.1.1 = 13 ∨ (x.1.1 = 7 ∧ (x.1.2.1 = 20 ∨ x.1.2.1 = 21)) ∨ x.1.1 = 8 ∨ x.1.1 = 3 ∨ x.1.1 = 4 ∨ x.1.1 = 5)) : MkS l x G F ↔ F = G := by sorry
end
def MkP (B : Nat) : List ItZ → MkF → Prop
  | [], F => F = []
  | .inr _ :: l, F => F = [] ∧ MkP B l []
  | .inl x :: l, F => F.length ≤ B ∧ ∃ G, MkP B l G ∧ MkS l x G F
theorem TpU.ls {b : Nat} {st : Int} {z : ZS} (h : TpU b st z) : LsO z.2.1 := by sorry
section
variable {B : Nat} {z : ZS} {F G : MkF}
theorem mk_pl {x : XrZ} (h : MkP B z.2.1 F) (hb : F.length ≤ B) (hk : (0 ≤ x.1.1 ∧ x.1.1 ≤ 2) ∨ x.1.1 = 6 ∨ x.1.1 = 9 ∨ x.1.1 = 10 ∨ x.1.1 = 14 ∨ x.1.1 = 15) : MkP B (puM x z).2.1 F := by sorry
theorem mk_un {x : XrZ} (h : MkP B z.2.1 F) (hb : F.length ≤ B) (hk : x.1.1 = 3 ∨ x.1.1 = 4 ∨ x.1.1 = 5) (hl : LsO z.2.1) (ha : x.2.2.1.2.1 = (xnM z : Int) - 1) : MkP B (puM x z).2.1 F := by sorry
end
/-- operators that wait: those that stand open -/
def mkW : WtZ → MkF
  | [] => []
  | (sg, _, _, a, _) :: W => if sg = 20 ∨ sg = 21 then ((if sg = 21 then 0 else 1), a, 0) :: mkW W else mkW W
/-- weaker ones wait below stronger ones; all are weaker than s -/
def WsO : Int → WtZ → Prop
  | _, [] => True
  | s, (sg, _, _, _, _) :: W => strZ sg < s ∧ 20 ≤ sg ∧ sg ≤ 38 ∧ WsO (strZ sg) W
theorem mkW_l : ∀ {W : WtZ} {s : Int}, WsO s W → ((mkW W).length : Int) ≤ 2 ∧ (s ≤ 2 → ((mkW W).length : Int) ≤ 1) ∧ (s ≤ 1 → (mkW W).length = 0) := by sorry
theorem ws_mo : ∀ {W : WtZ} {s s' : Int}, WsO s W → s ≤ s' → WsO s' W := by sorry
theorem ws_cs {p : Int} : ∀ {W : WtZ} {s : Int}, WsO s W → WsO p (cswZ p W) := by sorry
theorem mk_cl {B : Nat} {F : MkF} {p : Int} : ∀ (W : WtZ) (s : Int) (z : ZS), WsO s W → LsO z.2.1 → MkP B z.2.1 (mkW W ++ F) → (mkW W ++ F).length ≤ B → MkP B (clM p W z).2.1 (mkW (cswZ p W) ++ F) ∧ LsO (clM p W z).2.1 := by sorry
/-- exps keep what stands open; n: how deep they may go -/
abbrev MkE (B n : Nat) (f : ZS → ZS) : Prop := ∀ z F, MkP B z.2.1 F → F.length + 4 * n ≤ B → zFt (f z).1 = 0 → MkP B (f z).2.1 F
theorem mk_chl {B n : Nat} {O : ZS → ZS} {o : SpC → SpC} (hO : MkE B n O) (tO : ToX O) (lO : LfM O o) (gO : GdY o) {F : MkF} (hB : F.length + 4 * n + 2 ≤ B) : ∀ (f : Nat) (W : WtZ) (r : Int × Int) (z : ZS), WsO 11 W → LsO z.2.1 → MkP B z.2.1 (mkW W ++ F) → zFt (chlM O f W r z).1 = 0 → MkP B (chlM O f W r z).2.1 F := by sorry
theorem mk_chc {B n : Nat} {O E C : ZS → ZS} {o e c : SpC → SpC} (hO : MkE B n O) (tO : ToX O) (lO : LfM O o) (gO : GdY o) (iO : IgM O) (hE : MkE B n E) (hC : MkE B n C) (tE : ToX E) (tC : ToX C) (lE : LfM E e) (lC : LfM C c) (gE : GdY e) (gC : GdY c) : MkE B (n + 1) (chcM O E C) := by sorry
theorem mk_xps {N : Int → Int} {B n : Nat} {O E C : ZS → ZS} {o e c : SpC → SpC} (hO : MkE B n O) (tO : ToX O) (lO : LfM O o) (gO : GdY o) (iO : IgM O) (hE : MkE B n E) (hC : MkE B n C) (tE : ToX E) (tC : ToX C) (lE : LfM E e) (lC : LfM C c) (gE : GdY e) (gC : GdY c) : MkE B (n + 1) (xpsM N O E C) := by sorry
theorem mk_clp {B n : Nat} {E : ZS → ZS} {e : SpC → SpC} (hE : MkE B n E) (lE : LfM E e) (gE : GdY e) {F : MkF} (hB : F.length + 4 * n ≤ B) {r : Int × Int} : ∀ (f : Nat) (l : List Int) (z : ZS), MkP B z.2.1 F → zFt (clpM E r f l z).1 = 0 → MkP B (clpM E r f l z).2.1 F := by sorry
theorem mk_opr {N : Int → Int} {B n m : Nat} {E : ZS → ZS} {I : Int → ZS → ZS} {e i : SpC → SpC} (hE : MkE B n E) (lE : LfM E e) (gE : GdY e) (hI : ∀ g, MkE B n (I g)) (tI : ∀ g, ToX (I g)) (tE : ToX E) (lI : ∀ g, LfM (I g) i) (gI' : GdY i) (g : Int) : MkE B n (oprM N m E I g) := by sorry
theorem mk_lv {N : Int → Int} {B : Nat} : ∀ n, MkE B n (eM N n) ∧ MkE B n (cM N n) ∧ ∀ g, MkE B n (oM N n g) := by sorry
/-! an exp that is laid -/

/-- what stands open is the same behind it -/
def MkXd (lv : Int) (l m : List ItZ) : Prop := ∀ (B : Nat) (F : MkF), MkP B l F → F.length + 4 * (21 - lv).toNat ≤ B → MkP B m F
def ExX (lv : Int) (l l' : List ItZ) (r : XrZ) : Prop := ∃ m : List ItZ, l' = .inl r :: m ∧ XsR l m ∧ (r.2.2.1.1 = (xcZ l : Int) ∧ 0 ≤ r.1.1 ∧ r.1.1 ≤ 10) ∧ MkXd lv l l'
theorem ex_lay {N : Int → Int} {n : Nat} {z : ZS} (h : zFt (eM N n z).1 = 0) : ∃ r, ExX (21 - (n : Int)) z.2.1 (eM N n z).2.1 r := by sorry
/-! what reading an S leaves alone: codes, records of S's, things -/
def GuL (k0 js : Int) (m : Nat) (t : List ItZ) : Prop := ∀ y, Sum.inr y ∈ t → ¬ y.1 = 54 ∧ (thO y.1 = true → (k0 ≤ y.2.1 ∧ y.2.1 < (m : Int)) ∨ y.2.1 = js)
theorem GuL.mo {k0 js : Int} {m n : Nat} {t : List ItZ} (h : GuL k0 js m t) (q : m ≤ n) : GuL k0 js n t := by sorry
def Gu (z0 : ZS) (b e : Nat) (k0 js : Int) (m : Nat) (z : ZS) : Prop := (∃ t, z.2.1 = t ++ z0.2.1 ∧ GuL k0 js (tnM z) t) ∧ (m ≤ tnM z ∧ k0 ≤ (tnM z : Int)) ∧ b ≤ snM z ∧ ∀ i, i < b → ¬ i = e → reS z i = reS z0 i
section
variable {z0 : ZS} {b e : Nat} {k0 js : Int} {m j : Nat} {z : ZS}
theorem Gu.rf : Gu z (snM z) e (tnM z) js (tnM z) z := by sorry
theorem Gu.mo {n : Nat} (h : Gu z0 b e k0 js m z) (q : n ≤ m) : Gu z0 b e k0 js n z := ⟨h.1, ⟨Nat.le_trans q h.2.1.1, h.2.1.2⟩, h.2.2⟩
theorem Gu.zz {z' : ZS} (h : Gu z0 b e k0 js m z) (q : z'.2.1 = z.2.1) (q1 : z'.2.2.1 = z.2.2.1) (q2 : tnM z' = tnM z) : Gu z0 b e k0 js m z' := by sorry
theorem Gu.ac (h : Gu z0 b e k0 js m z) : Gu z0 b e k0 js m (accM z) := h
theorem Gu.ra {c : Int} (h : Gu z0 b e k0 js m z) : Gu z0 b e k0 js m (raiM c z) := h
theorem Gu.xp {c : Int} (h : Gu z0 b e k0 js m z) : Gu z0 b e k0 js m (xpM c z) := h
theorem Gu.ty (h : Gu z0 b e k0 js m z) : Gu z0 b e k0 js m (typM z) := h
theorem Gu.ve {t : Int} {o : List (Int × Int)} (h : Gu z0 b e k0 js m z) : Gu z0 b e k0 js m (veM t o z) := h
theorem Gu.ar {i : Int} (h : Gu z0 b e k0 js m z) : Gu z0 b e k0 js m (arM i z) := h
theorem Gu.un (h : Gu z0 b e k0 js m z) : Gu z0 b e k0 js m (unM j z) := h
theorem Gu.dc {N : Int → Int} {ty f g : Int} (h : Gu z0 b e k0 js m z) : Gu z0 b e k0 js m (dcM N ty f g z) := h
theorem Gu.th (h : Gu z0 b e k0 js m z) : Gu z0 b e k0 js (tnM z + 1) (thM z) := by sorry
theorem Gu.it {y : Int × Int × Int × Int × Int} (h : Gu z0 b e k0 js m z) (q : ¬ y.1 = 54) (hk : thO y.1 = true → (k0 ≤ y.2.1 ∧ y.2.1 < (m : Int)) ∨ y.2.1 = js) : Gu z0 b e k0 js m (z.1, .inr y :: z.2.1, z.2.2) := by sorry
theorem Gu.c0 {o a c t : Int} (h : Gu z0 b e k0 js m z) (q : ¬ o = 54) (q' : thO o = false) : Gu z0 b e k0 js m (coM o a c t z) := h.it q (fun w => absurd (q'.symm.trans w) (by decide))
theorem Gu.x0 {o a c t : Int} (h : Gu z0 b e k0 js m z) (q : ¬ o = 54) (q' : thO o = false) : Gu z0 b e k0 js m (cxM o a c t z) := h.it q (fun w => absurd (q'.symm.trans w) (by decide))
theorem Gu.ck {o a c t : Int} (h : Gu z0 b e k0 js m z) (q : ¬ o = 54) (hk : (k0 ≤ a ∧ a < (m : Int)) ∨ a = js) : Gu z0 b e k0 js m (coM o a c t z) := h.it q (fun _ => hk)
theorem Gu.xk {o a c t : Int} (h : Gu z0 b e k0 js m z) (q : ¬ o = 54) (hk : (k0 ≤ a ∧ a < (m : Int)) ∨ a = js) : Gu z0 b e k0 js m (cxM o a c t z) := h.it q (fun _ => hk)
theorem Gu.pu {x : XrZ} (h : Gu z0 b e k0 js m z) : Gu z0 b e k0 js m (puM x z) := by sorry
theorem Gu.xs_ {z' : ZS} (h : Gu z0 b e k0 js m z) (q : XsR z.2.1 z'.2.1) (q1 : z'.2.2 = z.2.2) : Gu z0 b e k0 js m z' := by sorry
theorem Gu.se {f : SrZ → SrZ} (h : Gu z0 b e k0 js m z) (q : b ≤ j ∨ j = e) : Gu z0 b e k0 js m (seM j f z) := by sorry
theorem Gu.be {k l : Int} (h : Gu z0 b e k0 js m z) : Gu z0 b e k0 js m (beM k l z) := by sorry
theorem Gu.bg {k : Int} {n : Nat} (h : Gu z0 b e k0 js m z) : Gu z0 b e k0 js m (bgM k n z) := h.be.c0 (by decide) (by decide)
theorem Gu.bh {k : Int} {n : Nat} (h : Gu z0 b e k0 js m z) : Gu z0 b e k0 js (tnM z + 1) (bgH k n z) := Gu.th (z := bgM k n z) h.bg
theorem Gu.en {j c : Nat} (h : Gu z0 b e k0 js m z) : Gu z0 b e k0 js m (enM j c z) := h.c0 (by decide) (by decide)
theorem Gu.po (h : Gu z0 b e k0 js m z) : Gu z0 b e k0 js m (poM z) := h.x0 (by decide) (by decide)
theorem Gu.nk (h : Gu z0 b e k0 js m z) : (k0 ≤ (tnM z : Int) ∧ (tnM z : Int) < ((tnM z + 1 : Nat) : Int)) ∨ (tnM z : Int) = js := Or.inl ⟨h.2.1.2, by omega⟩
variable {N : Int → Int} {n : Nat}
theorem Gu.ee (h : Gu z0 b e k0 js m z) : Gu z0 b e k0 js m (eM N n z) := h.xs_ ((ix_lv (N := N) n).1 z) ((ks_lv (N := N) n).1 z)
theorem Gu.ex (h : Gu z0 b e k0 js m z) (q : b ≤ j ∨ j = e) : Gu z0 b e k0 js m (exS N j n z) := h.ee.se q
theorem Gu.cd (h : Gu z0 b e k0 js m z) (q : b ≤ j ∨ j = e) : Gu z0 b e k0 js m (cdM N j n z) := (h.xp.ex q).xp
theorem Gu.bd {k : Nat} (h : Gu z0 b e k0 js m z) (q : b ≤ j ∨ j = e) : Gu z0 b e k0 js m (bdM j k z) := (h.se q).un
theorem Gu.xs (h : Gu z0 b e k0 js m z) : Gu z0 b e k0 js m (xsM N n z) := ((h.bg.ex (Or.inl h.2.2.1)).po).xp.en
theorem Gu.va2 {f v t : Int} (h : Gu z0 b e k0 js m z) (q : b ≤ j ∨ j = e) : Gu z0 b e k0 js m (va2M N j n f v t z) := by sorry
theorem Gu.va1 {f ty : Int} (h : Gu z0 b e k0 js m z) (q : b ≤ j ∨ j = e) : Gu z0 b e k0 js m (va1M N j n f ty z) := (h.dc.se q).va2 q
theorem Gu.va (h : Gu z0 b e k0 js m z) (q : b ≤ j ∨ j = e) : Gu z0 b e k0 js m (vaM N j n z) := by sorry
theorem Gu.to (h : Gu z0 b e k0 js m z) : Gu z0 b e k0 js m (toM N n z) := (h.bg.va (Or.inl h.2.2.1)).xp.en
theorem Gu.fx1 (h : Gu z0 b e k0 js m z) : Gu z0 b e k0 js m (fx1M N n z) := (h.be.ex (Or.inl h.2.2.1)).po
end
theorem Gu.fxl {z0 : ZS} {b e : Nat} {k0 js : Int} {m : Nat} {N : Int → Int} {n : Nat} : ∀ (f j : Nat) (z : ZS), Gu z0 b e k0 js m z → (b ≤ j ∨ j = e) → Gu z0 b e k0 js m (fxlM N n f j z) := by sorry
section
variable {z0 : ZS} {b e : Nat} {k0 js : Int} {m j : Nat} {z : ZS} {N : Int → Int} {n : Nat}
theorem Gu.fx (h : Gu z0 b e k0 js m z) : Gu z0 b e k0 js m (fxM N n z) := Gu.fxl 501 _ _ h.fx1 (Or.inl h.2.2.1)
theorem Gu.cs {jn : Int} (h : Gu z0 b e k0 js m z) (q : (k0 ≤ jn ∧ jn < (m : Int)) ∨ jn = js) : Gu z0 b e k0 js m (csM N jn n z) := by sorry
theorem th46 {k : Int} (h : k = 64 ∨ k = 65 ∨ k = 66 ∨ k = 67) : ¬ k - 18 = 54 ∧ thO (k - 18) = false := by sorry
theorem Gu.ju {k : Int} (h : Gu z0 b e k0 js m z) (hk : k = 64 ∨ k = 65) : Gu z0 b e k0 js m (juM N k n z) := by sorry
theorem Gu.gi {k : Int} (h : Gu z0 b e k0 js m z) (hk : k = 66 ∨ k = 67) : Gu z0 b e k0 js m (giM N k n z) := by sorry
abbrev GvS (St : ZS → ZS) : Prop := ∀ z0 b e k0 js m z, Gu z0 b e k0 js m z → Gu z0 b e k0 js m (St z)
abbrev GvR (Rw : Int → Nat → ZS → ZS × Int) : Prop := ∀ (sw : Int) (jn : Nat) (z0 : ZS) (b e : Nat) (k0 js : Int) (m : Nat) (z : ZS), Gu z0 b e k0 js m z → (sw = 1 → (k0 ≤ (jn : Int) ∧ (jn : Int) < (m : Int)) ∨ (jn : Int) = js) → Gu z0 b e k0 js m (Rw sw jn z).1
variable {St : ZS → ZS} {Rw : Int → Nat → ZS → ZS × Int}
theorem Gu.st (h : Gu z0 b e k0 js m z) (s : GvS St) : Gu z0 b e k0 js m (St z) := s _ _ _ _ _ _ _ h
theorem Gu.rw0 (h : Gu z0 b e k0 js m z) (r : GvR Rw) : Gu z0 b e k0 js m (Rw 0 0 z).1 := r 0 0 _ _ _ _ _ _ _ h (fun q => absurd q (by decide))
theorem Gu.blk (h : Gu z0 b e k0 js m z) (r : GvR Rw) (q : b ≤ j ∨ j = e) {o : List (Int × Int)} : Gu z0 b e k0 js m (blkM Rw j o z) := (((Gu.rw0 (z := xpM 2 (arM j z)) h.ar.xp r).se q).un).ve.xp
theorem Gu.bo (h : Gu z0 b e k0 js m z) (r : GvR Rw) {o : List (Int × Int)} : Gu z0 b e k0 js m (boM Rw n o z) := h.be.blk r (Or.inl h.2.2.1)
theorem Gu.up {X : ZS} (h : Gu z0 b e k0 js m z) (q : Gu z0 b e k0 js (tnM z + 1) X) : Gu z0 b e k0 js m X := q.mo (Nat.le_succ_of_le h.2.1.1)
theorem Gu.bl (h : Gu z0 b e k0 js m z) (r : GvR Rw) : Gu z0 b e k0 js m (blM Rw n z) := h.up ((h.bh.blk r (Or.inl h.2.2.1)).en)
theorem Gu.em (h : Gu z0 b e k0 js m z) : Gu z0 b e k0 js m (emM n z) := h.bg.ac.en
theorem Gu.la (h : Gu z0 b e k0 js m z) (s : GvS St) : Gu z0 b e k0 js m (laM n St z) := by sorry
theorem Gu.if2 (h : Gu z0 b e k0 js m z) (s : GvS St) (q : b ≤ j ∨ j = e) {k c : Nat} (hk : (k0 ≤ (k : Int) ∧ (k : Int) < (m : Int)) ∨ (k : Int) = js) : Gu z0 b e k0 js m (if2M St j k c z) := by sorry
theorem Gu.if (h : Gu z0 b e k0 js m z) (s : GvS St) : Gu z0 b e k0 js m (ifM N n St z) := by sorry
theorem Gu.wh (h : Gu z0 b e k0 js m z) (s : GvS St) : Gu z0 b e k0 js m (whM N n St z) := by sorry
theorem Gu.do (h : Gu z0 b e k0 js m z) (s : GvS St) : Gu z0 b e k0 js m (doM N n St z) := by sorry
theorem Gu.fo1 (h : Gu z0 b e k0 js m z) (q : b ≤ j ∨ j = e) : Gu z0 b e k0 js m (fo1M N j n z) := by sorry
theorem Gu.fo2 (h : Gu z0 b e k0 js m z) (q : b ≤ j ∨ j = e) {k : Nat} (hk : (k0 ≤ (k : Int) ∧ (k : Int) < (m : Int)) ∨ (k : Int) = js) : Gu z0 b e k0 js m (fo2M N j k n z) := by sorry
theorem Gu.fo3 (h : Gu z0 b e k0 js m z) (q : b ≤ j ∨ j = e) : Gu z0 b e k0 js m (fo3M N j n z) := by sorry
theorem Gu.fob (h : Gu z0 b e k0 js m z) (q : b ≤ j ∨ j = e) {k : Nat} (hk : (k0 ≤ (k : Int) ∧ (k : Int) < (m : Int)) ∨ (k : Int) = js) : Gu z0 b e k0 js m (foB N j k n z) := by sorry
theorem Gu.fo (h : Gu z0 b e k0 js m z) (s : GvS St) : Gu z0 b e k0 js m (foM2 N n St z) := by sorry
theorem Gu.sw (h : Gu z0 b e k0 js m z) (r : GvR Rw) : Gu z0 b e k0 js m (swM N n Rw z) := by sorry
theorem Gu.tr1 (h : Gu z0 b e k0 js m z) : Gu z0 b e k0 js m (tr1M z) := by sorry
theorem Gu.tr2 (h : Gu z0 b e k0 js m z) (r : GvR Rw) (q : b ≤ j ∨ j = e) {k : Nat} (hk : (k0 ≤ (k : Int) ∧ (k : Int) < (m : Int)) ∨ (k : Int) = js) : Gu z0 b e k0 js m (tr2M N Rw j k n z) := by sorry
theorem Gu.tr3 (h : Gu z0 b e k0 js m z) (r : GvR Rw) (q : b ≤ j ∨ j = e) {k : Nat} (hk : (k0 ≤ (k : Int) ∧ (k : Int) < (m : Int)) ∨ (k : Int) = js) : Gu z0 b e k0 js m (tr3M Rw j k n z) := by sorry
theorem Gu.tr (h : Gu z0 b e k0 js m z) (r : GvR Rw) : Gu z0 b e k0 js m (trM N n Rw z) := by sorry
theorem iv_ifc {I : ZS → Prop} {c : Prop} [Decidable c] {x y : ZS} (p : c → I x) (q : ¬ c → I y) : I (if c then x else y) := by sorry
theorem Gu.sm (h : Gu z0 b e k0 js m z) (s : GvS St) (r : GvR Rw) : Gu z0 b e k0 js m (smM N n St Rw z) := by sorry
theorem Gu.rp2 (h : Gu z0 b e k0 js m z) (s : GvS St) : Gu z0 b e k0 js m (rp2M N n St z) := by sorry
theorem Gu.rp (h : Gu z0 b e k0 js m z) (s : GvS St) {jn : Nat} {sw c : Int} (q : sw = 1 → (k0 ≤ (jn : Int) ∧ (jn : Int) < (m : Int)) ∨ (jn : Int) = js) : Gu z0 b e k0 js m (rpM N n St sw jn c z) := by sorry
theorem Gu.nx {l : Int} {i : Nat} (h : Gu z0 b e k0 js m z) (q : l < 0 ∨ (b : Int) ≤ l ∨ l = (e : Int)) : Gu z0 b e k0 js m (nxM l i z) := by sorry
end
theorem Gu.rwl {N : Int → Int} {St : ZS → ZS} (s : GvS St) {n jn : Nat} {sw : Int} {z0 : ZS} {b e : Nat} {k0 js : Int} {m : Nat} (q : sw = 1 → (k0 ≤ (jn : Int) ∧ (jn : Int) < (m : Int)) ∨ (jn : Int) = js) : ∀ (k : Nat) (f l : Int) (z : ZS), Gu z0 b e k0 js m z → (l < 0 ∨ (b : Int) ≤ l ∨ l = (e : Int)) → Gu z0 b e k0 js m (rwlM N n St sw jn k f l z).1 := by sorry
theorem Gu.ls {N : Int → Int} : ∀ n, GvS (lsM N n).1 ∧ GvR (lsM N n).2 := by sorry
theorem gv_st {N : Int → Int} {n : Nat} : GvS (stM N n) := (Gu.ls n).1
theorem gv_rw {N : Int → Int} {n : Nat} : GvR (rwM N n) := (Gu.ls n).2
/-! what an S lays, by its kind: codes, records, in the order of reading (Z: all that was read) -/
/-- how many S's, how many things, what is laid -/
abbrev Ps : Type := Nat × Nat × List ItZ
def psM (z : ZS) : Ps := (snM z, tnM z, z.2.1)
def cIy (o a b t : Int) : ItZ := .inr (o, a, b, t, -1)
def cEy (o a b t : Int) (m : List ItZ) : ItZ := .inr (o, a, b, t, (xcZ m : Int) - 1)
def thS (Z : ZS) (j : Nat) : Int := (reS Z j).2.2.2.2.2.2.2.2
def hdI : List Nat → Int
  | [] => -1
  | j :: _ => (j : Int)
/-- kind, first token, level, parent; body, other, last, exp, link, thing -/
def ReD (Z : ZS) (j : Nat) (h : Int × Int × Int × Int) (b : Int × Int × Int × Int × Int × Int) : Prop := (reS Z j).1 = h ∧ (reS Z j).2.2.2 = b
def PgD (js : Int) (p q : Ps) : Prop := p.1 ≤ q.1 ∧ p.2.1 ≤ q.2.1 ∧ ∃ t, q.2.2 = t ++ p.2.2 ∧ GuL p.2.1 js q.2.1 t
def VaD (Z : ZS) (j : Nat) (h : Int × Int × Int × Int) (th : Int) (l m : List ItZ) : Prop := ∃ v t : Int, (0 ≤ v ∧ v < 60) ∧
  ((ReD Z j h (-1, -1, -1, -1, v, th) ∧ m = cIy 22 v 0 t :: l) ∨ ∃ m0 r x, ExX h.2.2.1 (cIy 22 v 2 t :: l) m0 r ∧ ReD Z j h (-1, -1, -1, (xcZ m0 : Int) - 1, v, th) ∧ (x.1.1 = 15 ∧ x.2.1.2.1 = v ∧ x.2.2.1.2.1 = (xcZ m0 : Int) - 1) ∧ m = .inl x :: m0)
def XsD (Z : ZS) (lv a : Int) (j k : Nat) (t : Int) (l : List ItZ) (q : Ps) : Prop := ∃ m r, ExX lv l m r ∧ ReD Z j (90, t, lv, a) (-1, -1, -1, (xcZ m : Int) - 1, -1, k) ∧ q = (j + 1, k, cEy 21 (acZ r) 0 r.1.2.2.1 m :: m)
def ToD (Z : ZS) (lv a : Int) (j k : Nat) (t : Int) (l : List ItZ) (q : Ps) : Prop := ∃ m, VaD Z j (91, t, lv, a) k l m ∧ q = (j + 1, k, m)
def EmD (Z : ZS) (lv a : Int) (j k : Nat) (t : Int) (l : List ItZ) (q : Ps) : Prop := ReD Z j (4, t, lv, a) (-1, -1, -1, -1, -1, k) ∧ q = (j + 1, k, l)
abbrev SsT : Type := Int → Ps → Ps → Prop
abbrev RsT : Type := Int → Nat → Int → List Nat → Ps → Ps → Prop
def BlD (Rw : RsT) (Z : ZS) (lv a : Int) (j k : Nat) (t : Int) (l : List ItZ) (q : Ps) : Prop := ∃ L, Rw 0 0 j L (j + 1, k + 1, l) q ∧ ReD Z j (2, t, lv, a) (hdI L, -1, -1, -1, -1, k)
def LaD (St : SsT) (Z : ZS) (lv a : Int) (j k : Nat) (t : Int) (l : List ItZ) (q : Ps) : Prop := ∃ q1 : Ps, St j (j + 1, k + 1, cIy 41 k 0 t :: l) q1 ∧ ReD Z j (6, t, lv, a) (((j + 1 : Nat) : Int), -1, -1, -1, t, k) ∧ q = (q1.1, q1.2.1, cIy 42 k 0 t :: q1.2.2)
def IfD (St : SsT) (Z : ZS) (lv a : Int) (j k : Nat) (t : Int) (l : List ItZ) (q : Ps) : Prop := ∃ m r, ∃ q1 : Ps, ExX lv l m r ∧ St j (j + 1, k + 1, cEy 23 k 0 t m :: m) q1 ∧
  ((ReD Z j (56, t, lv, a) (((j + 1 : Nat) : Int), -1, -1, (xcZ m : Int) - 1, -1, k) ∧ q = (q1.1, q1.2.1, cIy 25 k 0 t :: q1.2.2)) ∨
   ∃ t2, ∃ q2 : Ps, St j (q1.1, q1.2.1, cIy 24 k 0 t2 :: q1.2.2) q2 ∧ ReD Z j (56, t, lv, a) (((j + 1 : Nat) : Int), q1.1, -1, (xcZ m : Int) - 1, -1, k) ∧ q = (q2.1, q2.2.1, cIy 25 k 0 t :: q2.2.2))
def WhD (St : SsT) (Z : ZS) (lv a : Int) (j k : Nat) (t : Int) (l : List ItZ) (q : Ps) : Prop := ∃ m r, ∃ q1 : Ps, ExX lv (cIy 26 k 0 t :: l) m r ∧ St j (j + 1, k + 1, cEy 27 k 0 t m :: m) q1 ∧ ReD Z j (58, t, lv, a) (((j + 1 : Nat) : Int), -1, -1, (xcZ m : Int) - 1, -1, k) ∧ q = (q1.1, q1.2.1, cIy 28 k 0 t :: q1.2.2)
def DoD (St : SsT) (Z : ZS) (lv a : Int) (j k : Nat) (t : Int) (l : List ItZ) (q : Ps) : Prop := ∃ m r, ∃ q1 : Ps, St j (j + 1, k + 1, cIy 29 k 0 t :: l) q1 ∧ ExX lv (cIy 30 k 0 t :: q1.2.2) m r ∧ ReD Z j (59, t, lv, a) (((j + 1 : Nat) : Int), -1, -1, (xcZ m : Int) - 1, -1, k) ∧ q = (q1.1, q1.2.1, cEy 31 k 0 t m :: m)
/-- exps of for -/
def FxD (Z : ZS) (lv a : Int) : List Nat → Ps → Ps → Prop
  | [], p, q => q = p
  | j :: L, p, q => j = p.1 ∧ njS Z j = hdI L ∧ ∃ t m r, ReD Z j (94, t, lv, a) (-1, -1, -1, (xcZ m : Int) - 1, -1, p.2.1) ∧ ExX lv p.2.2 m r ∧ FxD Z lv a L (p.1 + 1, p.2.1, cEy 21 (acZ r) 0 r.1.2.2.1 m :: m) q
def FiD (Z : ZS) (lv : Int) (j : Nat) (o : Int) (p q : Ps) : Prop := (o = -1 ∧ q = p) ∨ (o = p.1 ∧ ∃ t m, VaD Z p.1 (93, t, lv, j) p.2.1 p.2.2 m ∧ njS Z p.1 = -1 ∧ q = (p.1 + 1, p.2.1, m)) ∨ ∃ L, o = hdI L ∧ ¬ L = [] ∧ FxD Z lv j L p q
def FuD (Z : ZS) (lv : Int) (j : Nat) (o : Int) (p q : Ps) : Prop := ∃ L, o = hdI L ∧ FxD Z lv j L p q
def FcD (lv : Int) (k : Nat) (t x : Int) (l m : List ItZ) : Prop := (x = -1 ∧ m = cIy 33 k 0 t :: l) ∨ ∃ m0 r, ExX lv l m0 r ∧ x = (xcZ m0 : Int) - 1 ∧ m = cEy 33 k 1 t m0 :: m0
def FoD (St : SsT) (Z : ZS) (lv a : Int) (j k : Nat) (t : Int) (l : List ItZ) (q : Ps) : Prop := ∃ (q1 q3 q4 : Ps) (m2 : List ItZ) (o g x : Int), FiD Z lv j o (j + 1, k + 1, l) q1 ∧ FcD lv k t x (cIy 32 k 0 t :: q1.2.2) m2 ∧ FuD Z lv j g (q1.1, q1.2.1, cIy 34 k 0 t :: m2) q3 ∧ St j (q3.1, q3.2.1, cIy 35 k 0 t :: q3.2.2) q4 ∧
  ReD Z j (60, t, lv, a) (q3.1, o, g, x, -1, k) ∧ q = (q4.1, q4.2.1, cIy 36 k 0 t :: q4.2.2)
def SwD (Rw : RsT) (Z : ZS) (lv a : Int) (j k : Nat) (t : Int) (l : List ItZ) (q : Ps) : Prop := ∃ m r L, ∃ q1 : Ps, ExX lv l m r ∧ Rw 1 k j L (j + 1, k + 1, cEy 37 k 0 t m :: m) q1 ∧ (∀ i L', L = i :: L' → kjS Z i = 62 ∨ kjS Z i = 63) ∧ ReD Z j (61, t, lv, a) (hdI L, -1, -1, (xcZ m : Int) - 1, -1, k) ∧ q = (q1.1, q1.2.1, cIy 40 k 0 t :: q1.2.2)
/-- a block that is no S of its own -/
def BkD (Rw : RsT) (Z : ZS) (lv a : Int) (p q : Ps) : Prop := ∃ L t, Rw 0 0 p.1 L (p.1 + 1, p.2) q ∧ ReD Z p.1 (92, t, lv, a) (hdI L, -1, -1, -1, -1, p.2.1)
def TyD (Rw : RsT) (Z : ZS) (lv a : Int) (j k : Nat) (t : Int) (l : List ItZ) (q : Ps) : Prop := ∃ (q1 q2 q3 : Ps) (o g v : Int), BkD Rw Z lv j (j + 1, k + 1, cIy 50 k 0 t :: l) q1 ∧
  ((o = -1 ∧ v = -1 ∧ q2 = q1) ∨ (o = q1.1 ∧ (0 ≤ v ∧ v < 60) ∧ ∃ t2, BkD Rw Z lv j (q1.1, q1.2.1, .inr (51, (k : Int), 0, t2, -2 - v) :: q1.2.2) q2)) ∧
  ((g = -1 ∧ q3 = q2) ∨ (g = q2.1 ∧ ∃ t3, BkD Rw Z lv j (q2.1, q2.2.1, cIy 52 k 0 t3 :: q2.2.2) q3)) ∧ (0 ≤ o ∨ 0 ≤ g) ∧ ReD Z j (68, t, lv, a) (((j + 1 : Nat) : Int), o, g, -1, v, k) ∧ q = (q3.1, q3.2.1, cIy 53 k 0 t :: q3.2.2)
/-- the thing that a jump leads to -/
def tqD (N : Int → Int) (Z : ZS) (j : Nat) : Int := if tjT N Z j < 0 then -2 else thS Z (tjT N Z j).toNat
def JuD (N : Int → Int) (Z : ZS) (lv a : Int) (j k : Nat) (t : Int) (l : List ItZ) (q : Ps) : Prop := ∃ kd lk t2, (kd = 64 ∨ kd = 65) ∧ ((lk = -1 ∧ t2 = t ∧ zK Z.1 t2.toNat = kd) ∨ (lk = t2 ∧ 0 ≤ t2 ∧ zK Z.1 t2.toNat = 80)) ∧ ReD Z j (kd, t, lv, a) (-1, -1, -1, -1, lk, k) ∧ q = (j + 1, k, cIy (kd - 18) (tqD N Z j) 0 t2 :: l)
def GiD (M : Int) (Z : ZS) (lv a : Int) (j k : Nat) (t : Int) (l : List ItZ) (q : Ps) : Prop := (ReD Z j (66, t, lv, a) (-1, -1, -1, -1, M, k) ∧ q = (j + 1, k, cIy 48 0 (-2) t :: l)) ∨
  ∃ m r, ExX lv l m r ∧ ((ReD Z j (66, t, lv, a) (-1, -1, -1, (xcZ m : Int) - 1, M, k) ∧ q = (j + 1, k, cEy 48 1 ((m.length : Int) - 1) t m :: m)) ∨ (ReD Z j (67, t, lv, a) (-1, -1, -1, (xcZ m : Int) - 1, -1, k) ∧ q = (j + 1, k, cEy 49 1 ((m.length : Int) - 1) t m :: m)))
/-- inside of an S -/
def InD (N : Int → Int) (M : Int) (St : SsT) (Rw : RsT) (Z : ZS) (lv a : Int) (j k : Nat) (t : Int) (l : List ItZ) (q : Ps) : Prop :=
  XsD Z lv a j k t l q ∨ ToD Z lv a j k t l q ∨ EmD Z lv a j k t l q ∨ BlD Rw Z lv a j k t l q ∨ LaD St Z lv a j k t l q ∨ IfD St Z lv a j k t l q ∨ WhD St Z lv a j k t l q ∨ DoD St Z lv a j k t l q ∨ FoD St Z lv a j k t l q ∨ SwD Rw Z lv a j k t l q ∨ TyD Rw Z lv a j k t l q ∨ JuD N Z lv a j k t l q ∨ GiD M Z lv a j k t l q
theorem inXs {N : Int → Int} {M : Int} {St : SsT} {Rw : RsT} {Z : ZS} {lv a : Int} {j k : Nat} {t : Int} {l : List ItZ} {q : Ps} (h : XsD Z lv a j k t l q) : InD N M St Rw Z lv a j k t l q := Or.inl h
theorem inTo {N : Int → Int} {M : Int} {St : SsT} {Rw : RsT} {Z : ZS} {lv a : Int} {j k : Nat} {t : Int} {l : List ItZ} {q : Ps} (h : ToD Z lv a j k t l q) : InD N M St Rw Z lv a j k t l q := Or.inr (Or.inl h)
theorem inEm {N : Int → Int} {M : Int} {St : SsT} {Rw : RsT} {Z : ZS} {lv a : Int} {j k : Nat} {t : Int} {l : List ItZ} {q : Ps} (h : EmD Z lv a j k t l q) : InD N M St Rw Z lv a j k t l q := Or.inr (Or.inr (Or.inl h))
theorem inBl {N : Int → Int} {M : Int} {St : SsT} {Rw : RsT} {Z : ZS} {lv a : Int} {j k : Nat} {t : Int} {l : List ItZ} {q : Ps} (h : BlD Rw Z lv a j k t l q) : InD N M St Rw Z lv a j k t l q := Or.inr (Or.inr (Or.inr (Or.inl h)))
theorem inLa {N : Int → Int} {M : Int} {St : SsT} {Rw : RsT} {Z : ZS} {lv a : Int} {j k : Nat} {t : Int} {l : List ItZ} {q : Ps} (h : LaD St Z lv a j k t l q) : InD N M St Rw Z lv a j k t l q := Or.inr (Or.inr (Or.inr (Or.inr (Or.inl h))))
theorem inIf {N : Int → Int} {M : Int} {St : SsT} {Rw : RsT} {Z : ZS} {lv a : Int} {j k : Nat} {t : Int} {l : List ItZ} {q : Ps} (h : IfD St Z lv a j k t l q) : InD N M St Rw Z lv a j k t l q := Or.inr (Or.inr (Or.inr (Or.inr (Or.inr (Or.inl h)))))
theorem inWh {N : Int → Int} {M : Int} {St : SsT} {Rw : RsT} {Z : ZS} {lv a : Int} {j k : Nat} {t : Int} {l : List ItZ} {q : Ps} (h : WhD St Z lv a j k t l q) : InD N M St Rw Z lv a j k t l q := by sorry
theorem inDo {N : Int → Int} {M : Int} {St : SsT} {Rw : RsT} {Z : ZS} {lv a : Int} {j k : Nat} {t : Int} {l : List ItZ} {q : Ps} (h : DoD St Z lv a j k t l q) : InD N M St Rw Z lv a j k t l q := by sorry
theorem inFo {N : Int → Int} {M : Int} {St : SsT} {Rw : RsT} {Z : ZS} {lv a : Int} {j k : Nat} {t : Int} {l : List ItZ} {q : Ps} (h : FoD St Z lv a j k t l q) : InD N M St Rw Z lv a j k t l q := by sorry
theorem inSw {N : Int → Int} {M : Int} {St : SsT} {Rw : RsT} {Z : ZS} {lv a : Int} {j k : Nat} {t : Int} {l : List ItZ} {q : Ps} (h : SwD Rw Z lv a j k t l q) : InD N M St Rw Z lv a j k t l q := by sorry
theorem inTy {N : Int → Int} {M : Int} {St : SsT} {Rw : RsT} {Z : ZS} {lv a : Int} {j k : Nat} {t : Int} {l : List ItZ} {q : Ps} (h : TyD Rw Z lv a j k t l q) : InD N M St Rw Z lv a j k t l q := by sorry
theorem inJu {N : Int → Int} {M : Int} {St : SsT} {Rw : RsT} {Z : ZS} {lv a : Int} {j k : Nat} {t : Int} {l : List ItZ} {q : Ps} (h : JuD N Z lv a j k t l q) : InD N M St Rw Z lv a j k t l q := by sorry
theorem inGi {N : Int → Int} {M : Int} {St : SsT} {Rw : RsT} {Z : ZS} {lv a : Int} {j k : Nat} {t : Int} {l : List ItZ} {q : Ps} (h : GiD M Z lv a j k t l q) : InD N M St Rw Z lv a j k t l q := by sorry
/-- a case, a default -/
def CsD (Z : ZS) (lv : Int) (js : Nat) (a : Int) (p q : Ps) : Prop := (∃ t m r, ReD Z p.1 (62, t, lv, a) (-1, -1, -1, (xcZ m : Int) - 1, -1, p.2.1) ∧ ExX lv p.2.2 m r ∧ q = (p.1 + 1, p.2.1, cEy 38 js ((m.length : Int) - 1) t m :: m)) ∨ ∃ t, ReD Z p.1 (63, t, lv, a) (-1, -1, -1, -1, -1, p.2.1) ∧ q = (p.1 + 1, p.2.1, cIy 39 js 0 t :: p.2.2)
/-- a row -/
def RwD (St : SsT) (Z : ZS) (lv : Int) (sw : Int) (js : Nat) (a : Int) : List Nat → Ps → Ps → Prop
  | [], p, q => q = p
  | j :: L, p, q => j = p.1 ∧ njS Z j = hdI L ∧ ∃ p1, ((sw = 1 ∧ CsD Z lv js a p p1) ∨ St a p p1) ∧ RwD St Z lv sw js a L p1 q
/-- an S -/
def StD (N : Int → Int) (M : Int) (Z : ZS) : Nat → SsT
  | 0 => fun _ _ _ => False
  | n + 1 => fun a p q => ∃ (t : Int) (q1 : Ps), PgD (-1) p q ∧ (p.1 < q.1 ∧ 0 ≤ t ∧ t ≤ 500) ∧ InD N M (StD N M Z n) (RwD (StD N M Z n) Z (lvN n)) Z (lvN (n + 1)) a p.1 p.2.1 t (cIy 20 0 0 t :: p.2.2) q1 ∧ q = (q1.1, q1.2.1, cIy 45 p.2.2.length 0 t :: q1.2.2)
/-! what reading lays, S by S -/
/-- what a token's code is, how many methods there are: they stay -/
def KpY (s t : SpC) : Prop := LpY s t ∧ NpY s t ∧ GpY s t
theorem KpY.rf {s : SpC} : KpY s s := ⟨LpY.rf, NpY.rf, GpY.rf⟩
theorem KpY.tr {s t u : SpC} (h : KpY s t) (g : KpY t u) : KpY s u := ⟨h.1.tr g.1, h.2.1.tr g.2.1, h.2.2.tr g.2.2⟩
theorem KpY.k {s t : SpC} (h : KpY s t) : zK t = zK s := by sorry
theorem kp_acc {s : SpC} : KpY s (accY s) := ⟨gl_acc s, gn_acc s, gd_acc s⟩
theorem kp_rai {c : Int} {s : SpC} : KpY s (raiY c s) := ⟨gl_rai s, gn_rai s, gd_rai s⟩
theorem kp_xp {c : Int} {s : SpC} : KpY s (xpY c s) := ⟨gl_xp s, gn_xp s, gd_xp s⟩
theorem kp_typ {s : SpC} : KpY s (typY s) := ⟨gl_typ s, gn_typ s, gd_typ s⟩
theorem kp_dcl {ty f h : Int} {s : SpC} : KpY s (dclY ty f h s) := ⟨gl_dcl s, gn_dcl s, gd_dcl s⟩
theorem kp_e {N : Int → Int} {n : Nat} {z : ZS} : KpY z.1 (eM N n z).1 := by sorry
theorem kp_st {N : Int → Int} {n : Nat} {z : ZS} : KpY z.1 (stM N n z).1 := by sorry
theorem kp_rw {N : Int → Int} {n : Nat} {sw : Int} {js : Nat} {z : ZS} : KpY z.1 (rwM N n sw js z).1.1 := by sorry
theorem e_b {N : Int → Int} {n : Nat} {z : ZS} (h : zFt (eM N n z).1 = 0) : zFt z.1 = 0 := gf_z lf_e gd_e h
theorem st_b {N : Int → Int} {n : Nat} {z : ZS} (h : zFt (stM N n z).1 = 0) : zFt z.1 = 0 := gf_z lf_st gd_st h
theorem rw_b {N : Int → Int} {n : Nat} {sw : Int} {js : Nat} {z : ZS} (h : zFt (rwM N n sw js z).1.1 = 0) : zFt z.1 = 0 := by sorry
/-- in the midst of S number snM z: its record, what is laid, the S around -/
def Pz (z : ZS) (x : SrZ) (p : Ps) (a : Int) (w : ZS) : Prop := (∀ i, i < snM z → reS w i = reS z i) ∧ reS w (snM z) = x ∧ psM w = p ∧ w.2.2.2.1.2 = a ∧ KpY z.1 w.1
def bR (k : Int) (n : Nat) (z : ZS) : SrZ := ((k, zAt z.1, lvN n, z.2.2.2.1.2), z.2.2.2.1.1, (-1, -1, -1, -1, -1, -1, (tnM z : Int)))
section
variable {z w : ZS} {x : SrZ} {p : Ps} {a : Int} {N : Int → Int} {n : Nat}
theorem Pz.be {k : Int} : Pz z (bR k n z) (snM z + 1, tnM z, z.2.1) z.2.2.2.1.2 (beM k (lvN n) z) := by sorry
theorem Pz.bg {k : Int} : Pz z (bR k n z) (snM z + 1, tnM z, cIy 20 0 0 (zAt z.1) :: z.2.1) z.2.2.2.1.2 (bgM k n z) := ⟨Pz.be.1, Pz.be.2.1, rfl, rfl, KpY.rf⟩
theorem Pz.bh {k : Int} : Pz z (bR k n z) (snM z + 1, tnM z + 1, cIy 20 0 0 (zAt z.1) :: z.2.1) z.2.2.2.1.2 (bgH k n z) := ⟨Pz.be.1, Pz.be.2.1, rfl, rfl, KpY.rf⟩
theorem Pz.ac (h : Pz z x p a w) : Pz z x p a (accM w) := ⟨h.1, h.2.1, h.2.2.1, h.2.2.2.1, h.2.2.2.2.tr kp_acc⟩
theorem Pz.xp {c : Int} (h : Pz z x p a w) : Pz z x p a (xpM c w) := ⟨h.1, h.2.1, h.2.2.1, h.2.2.2.1, h.2.2.2.2.tr kp_xp⟩
theorem Pz.ra {c : Int} (h : Pz z x p a w) : Pz z x p a (raiM c w) := ⟨h.1, h.2.1, h.2.2.1, h.2.2.2.1, h.2.2.2.2.tr kp_rai⟩
theorem Pz.ty (h : Pz z x p a w) : Pz z x p a (typM w) := ⟨h.1, h.2.1, h.2.2.1, h.2.2.2.1, h.2.2.2.2.tr kp_typ⟩
theorem Pz.dc {ty f g : Int} (h : Pz z x p a w) : Pz z x p a (dcM N ty f g w) := ⟨h.1, h.2.1, h.2.2.1, h.2.2.2.1, h.2.2.2.2.tr kp_dcl⟩
theorem Pz.ve {t : Int} {o : List (Int × Int)} (h : Pz z x p a w) : Pz z x p a (veM t o w) := h
theorem Pz.ar {i : Int} (h : Pz z x p a w) : Pz z x p i (arM i w) := ⟨h.1, h.2.1, h.2.2.1, rfl, h.2.2.2.2⟩
theorem Pz.un (h : Pz z x p a w) : Pz z x p x.1.2.2.2 (unM (snM z) w) := by sorry
theorem Pz.fi (h : Pz z x p a w) : fiS w (snM z) = x.1.2.1 := by sorry
theorem Pz.l (h : Pz z x p a w) : w.2.1 = p.2.2 := congrArg (fun q : Ps => q.2.2) h.2.2.1
theorem Pz.sn (h : Pz z x p a w) : snM w = p.1 := congrArg (fun q : Ps => q.1) h.2.2.1
theorem Pz.tn (h : Pz z x p a w) : tnM w = p.2.1 := congrArg (fun q : Ps => q.2.1) h.2.2.1
theorem Pz.it {y : ItZ} (h : Pz z x p a w) : Pz z x (p.1, p.2.1, y :: p.2.2) a (w.1, y :: w.2.1, w.2.2) := by sorry
theorem Pz.co {o b c t : Int} (h : Pz z x p a w) : Pz z x (p.1, p.2.1, cIy o b c t :: p.2.2) a (coM o b c t w) := h.it
theorem Pz.cx {o b c t : Int} (h : Pz z x p a w) : Pz z x (p.1, p.2.1, cEy o b c t p.2.2 :: p.2.2) a (cxM o b c t w) := by sorry
theorem Pz.se {f : SrZ → SrZ} (h : Pz z x p a w) : Pz z (f x) p a (seM (snM z) f w) := by sorry
/-- another S's record -/
theorem Pz.so {j : Nat} {f : SrZ → SrZ} (h : Pz z x p a w) (q : snM z < j) : Pz z x p a (seM j f w) := by sorry
theorem Pz.en {c : Nat} (h : Pz z x p a w) : Pz z x (p.1, p.2.1, cIy 45 c 0 x.1.2.1 :: p.2.2) a (enM (snM z) c w) := by sorry
theorem Pz.ee (h : Pz z x p a w) (hf : zFt (eM N n w).1 = 0) : ∃ m r, ExX (lvN n) p.2.2 m r ∧ Pz z x (p.1, p.2.1, m) a (eM N n w) := by sorry
theorem Pz.ex (h : Pz z x p a w) (hf : zFt (exS N (snM z) n w).1 = 0) : ∃ m r, ExX (lvN n) p.2.2 m r ∧ Pz z (sEx ((xcZ m : Int) - 1) x) (p.1, p.2.1, m) a (exS N (snM z) n w) := by sorry
theorem Pz.cd (h : Pz z x p a w) (hf : zFt (cdM N (snM z) n w).1 = 0) : ∃ m r, ExX (lvN n) p.2.2 m r ∧ Pz z (sEx ((xcZ m : Int) - 1) x) (p.1, p.2.1, m) a (cdM N (snM z) n w) := by sorry
theorem Pz.po {r : XrZ} {m l : List ItZ} (h : Pz z x p a w) (e : p.2.2 = .inl r :: l) : Pz z x (p.1, p.2.1, cEy 21 (acZ r) 0 r.1.2.2.1 p.2.2 :: p.2.2) a (poM w) := by sorry
end
/-- Z is all that was read: what stood when z was read -/
def Cq (Z : ZS) (M : Int) (z : ZS) : Prop := (((zMs z.1).length : Int) - 1 = M ∧ zK Z.1 = zK z.1 ∧ 0 ≤ zAt z.1 ∧ zAt z.1 ≤ 500) ∧ z.2.2.2.1.2 < (snM z : Int) ∧ (∀ i, i < snM Z → paS Z i < (i : Int)) ∧ snM z ≤ snM Z ∧ ∀ i, i < snM z → (reS Z i).1 = (reS z i).1 ∧ thS Z i = thS z i ∧ (kjS z i = 6 → ljS Z i = ljS z i)
/-- Z's S's from j on are those of z, but for j's next -/
def AgN (Z z : ZS) (j : Nat) : Prop := snM z ≤ snM Z ∧ ((reS Z j).1 = (reS z j).1 ∧ (reS Z j).2.1 = (reS z j).2.1 ∧ (reS Z j).2.2.2 = (reS z j).2.2.2) ∧ ∀ i, j < i → i < snM z → reS Z i = reS z i
def AgF (Z z : ZS) (j : Nat) : Prop := snM z ≤ snM Z ∧ ∀ i, j ≤ i → i < snM z → reS Z i = reS z i
theorem AgF.n {Z z : ZS} {j : Nat} (h : AgF Z z j) (q : j < snM z) : AgN Z z j := by sorry
/-- from w on only j changes -/
def FwJ (j : Nat) (w z : ZS) : Prop := snM w ≤ snM z ∧ ∀ i, i < snM w → ¬ i = j → reS z i = reS w i
theorem Gu.fw {w z : ZS} {j m : Nat} {k0 js : Int} (h : Gu w (snM w) j k0 js m z) : FwJ j w z := ⟨h.2.2.1, h.2.2.2⟩
theorem AgN.f {Z z' w : ZS} {j i : Nat} (h : AgN Z z' j) (f : FwJ j w z') (q : j < i) : AgF Z w i := by sorry
theorem Cq.mid {Z z w z' : ZS} {M : Int} {x y : SrZ} {p q : Ps} {a b : Int} (C : Cq Z M z) (P : Pz z x p a w) (P' : Pz z y q b z') (ag : AgN Z z' (snM z)) (f : FwJ (snM z) w z') (ha : a < (p.1 : Int)) (hx : x.1 = y.1 ∧ x.2.2.2.2.2.2.2.2 = y.2.2.2.2.2.2.2.2) (hl : x.1.1 = 6 → x.2.2.2.2.2.2.2.1 = y.2.2.2.2.2.2.2.1) : Cq Z M w := by sorry
/-- what is shown of an S that was read -/
def SdQ (N : Int → Int) (n : Nat) (z z' : ZS) : Prop := snM z < snM z' ∧ njS z' (snM z) = -1 ∧ z'.2.2.2.1.2 = z.2.2.2.1.2 ∧ ∀ (Z : ZS) (M : Int), Cq Z M z → AgN Z z' (snM z) → StD N M Z n z.2.2.2.1.2 (psM z) (psM z')
def SdR (N : Int → Int) (n : Nat) (sw : Int) (js : Nat) (z : ZS) (r : ZS × Int) : Prop := ∃ L : List Nat, r.2 = hdI L ∧ r.1.2.2.2.1.2 = z.2.2.2.1.2 ∧ (∀ j L', L = j :: L' → j = snM z ∧ j < snM r.1 ∧ (sw = 1 → kjS r.1 j = 62 ∨ kjS r.1 j = 63)) ∧ ∀ (Z : ZS) (M : Int), Cq Z M z → AgF Z r.1 (snM z) → RwD (StD N M Z n) Z (lvN n) sw js z.2.2.2.1.2 L (psM z) (psM r.1)
abbrev SdS (N : Int → Int) (n : Nat) : Prop := ∀ z, zFt (stM N n z).1 = 0 → SdQ N n z (stM N n z)
abbrev SdW (N : Int → Int) (n : Nat) : Prop := ∀ sw js z, zFt (rwM N n sw js z).1.1 = 0 → SdR N n sw js z (rwM N n sw js z)
theorem pg_gu {z z' : ZS} {e : Nat} {js : Int} (h : Gu z (snM z) e (tnM z) js (tnM z) z') : PgD js (psM z) (psM z') := ⟨h.2.2.1, h.2.1.1, h.1⟩
/-- the end of it all, for an S -/
theorem SdQ.mk {N : Int → Int} {n : Nat} {z z' : ZS} {x : SrZ} {q : Ps} {e m : Nat} (P : Pz z x (q.1, q.2.1, cIy 45 z.2.1.length 0 (zAt z.1) :: q.2.2) z.2.2.2.1.2 z') (hq : snM z < q.1) (hx : x.2.2.1 = -1) (g : Gu z (snM z) e (tnM z) (-1) m z') (hm : tnM z ≤ m)
    (hI : ∀ (Z : ZS) (M : Int), Cq Z M z → AgN Z z' (snM z) → ReD Z (snM z) x.1 x.2.2.2 → InD N M (StD N M Z n) (RwD (StD N M Z n) Z (lvN n)) Z (lvN (n + 1)) z.2.2.2.1.2 (snM z) (tnM z) (zAt z.1) (cIy 20 0 0 (zAt z.1) :: z.2.1) q) : SdQ N (n + 1) z z' := by sorry
/-! what reading lays: one S of each kind -/
theorem FwJ.tr {j : Nat} {w x z : ZS} (h : FwJ j w x) (g : FwJ j x z) : FwJ j w z := by sorry
theorem fw_st {N : Int → Int} {n j : Nat} {w : ZS} : FwJ j w (stM N n w) := (gv_st w (snM w) j (tnM w) (-1) (tnM w) w Gu.rf).fw
theorem fw_rw {N : Int → Int} {n j js : Nat} {sw : Int} {w : ZS} : FwJ j w (rwM N n sw js w).1 := by sorry
section
variable {z w : ZS} {x : SrZ} {p : Ps} {a : Int} {N : Int → Int} {n : Nat}
theorem Pz.st (h : Pz z x p a w) (hp : snM z < p.1) (hf : zFt (stM N n w).1 = 0) (s : SdS N n) : Pz z x (psM (stM N n w)) a (stM N n w) := by sorry
theorem Pz.rw (h : Pz z x p a w) {sw : Int} {js : Nat} (hp : snM z < p.1) (hf : zFt (rwM N n sw js w).1.1 = 0) (s : SdW N n) : Pz z x (psM (rwM N n sw js w).1) a (rwM N n sw js w).1 := by sorry
/-- an S inside -/
theorem Pz.sd {z' : ZS} {y : SrZ} {q : Ps} {b : Int} {Z : ZS} {M : Int} (P : Pz z x p a w) (hp : snM z < p.1) (hf : zFt (stM N n w).1 = 0) (s : SdS N n) (C : Cq Z M z) (P' : Pz z y q b z') (ag : AgN Z z' (snM z)) (F : FwJ (snM z) (stM N n w) z') (ha : a < (p.1 : Int)) (hx : x.1 = y.1 ∧ x.2.2.2.2.2.2.2.2 = y.2.2.2.2.2.2.2.2) (hl : x.1.1 = 6 → x.2.2.2.2.2.2.2.1 = y.2.2.2.2.2.2.2.1) : StD N M Z n a p (psM (stM N n w)) := by sorry
/-- a row inside -/
theorem Pz.rd {z' : ZS} {y : SrZ} {q : Ps} {b : Int} (P : Pz z x p a w) {sw : Int} {js : Nat} (hp : snM z < p.1) (hf : zFt (rwM N n sw js w).1.1 = 0) (s : SdW N n) (P' : Pz z y q b z') (F : FwJ (snM z) (rwM N n sw js w).1 z') (ha : a < (p.1 : Int)) (hx : x.1 = y.1 ∧ x.2.2.2.2.2.2.2.2 = y.2.2.2.2.2.2.2.2) (hl : x.1.1 = 6 → x.2.2.2.2.2.2.2.1 = y.2.2.2.2.2.2.2.1) : ∃ L, (rwM N n sw js w).2 = hdI L ∧ ∀ (Z : ZS) (M : Int), Cq Z M z → AgN Z z' (snM z) → RwD (StD N M Z n) Z (lvN n) sw js a L p (psM (rwM N n sw js w).1) ∧ ∀ i L', L = i :: L' → sw = 1 → kjS Z i = 62 ∨ kjS Z i = 63 := by sorry
end
theorem lv_ar {z : ZS} {p : Ps} (h : snM z < p.1) : ((snM z : Nat) : Int) < (p.1 : Int) := by sorry
section
variable {z : ZS} {N : Int → Int} {n : Nat}
theorem sd_xs (h : zFt (xsM N (n + 1) z).1 = 0) : SdQ N (n + 1) z (xsM N (n + 1) z) := by sorry
theorem sd_em : SdQ N (n + 1) z (emM (n + 1) z) := by sorry
theorem Pz.va {w : ZS} {p : Ps} {a nx th : Int} {h : Int × Int × Int × Int} {kn : List (Int × Int)} (P : Pz z (h, kn, (nx, -1, -1, -1, -1, -1, th)) p a w) (hl : h.2.2.1 = lvN n) (hf : zFt (vaM N (snM z) n w).1 = 0) : ∃ m y, Pz z y (p.1, p.2.1, m) a (vaM N (snM z) n w) ∧ (y.1 = h ∧ y.2.1 = kn ∧ y.2.2.1 = nx) ∧ ∀ Z, ReD Z (snM z) y.1 y.2.2.2 → VaD Z (snM z) h th p.2.2 m := by sorry
theorem sd_to (h : zFt (toM N (n + 1) z).1 = 0) : SdQ N (n + 1) z (toM N (n + 1) z) := by sorry
theorem Pz.cof {w : ZS} {x : SrZ} {p : Ps} {a o b c f t : Int} (h : Pz z x p a w) (e : f = t) : Pz z x (p.1, p.2.1, cIy o b c t :: p.2.2) a (coM o b c f w) := e ▸ h.co
theorem Pz.cxf {w : ZS} {x : SrZ} {p : Ps} {a o b c f t : Int} (h : Pz z x p a w) (e : f = t) : Pz z x (p.1, p.2.1, cEy o b c t p.2.2 :: p.2.2) a (cxM o b c f w) := e ▸ h.cx
theorem lt_s1 : ((snM z : Nat) : Int) < ((snM z + 1 : Nat) : Int) := by sorry
theorem sd_la (s : SdS N n) (h : zFt (laM (n + 1) (stM N n) z).1 = 0) : SdQ N (n + 1) z (laM (n + 1) (stM N n) z) := by sorry
theorem sd_wh (s : SdS N n) (h : zFt (whM N (n + 1) (stM N n) z).1 = 0) : SdQ N (n + 1) z (whM N (n + 1) (stM N n) z) := by sorry
theorem sd_do (s : SdS N n) (h : zFt (doM N (n + 1) (stM N n) z).1 = 0) : SdQ N (n + 1) z (doM N (n + 1) (stM N n) z) := by sorry
theorem sd_if (s : SdS N n) (h : zFt (ifM N (n + 1) (stM N n) z).1 = 0) : SdQ N (n + 1) z (ifM N (n + 1) (stM N n) z) := by sorry
end
/-! what reading lays: blocks, switch, try, for, jumps -/
theorem Pz.ne {z w u : ZS} {x y : SrZ} {p q : Ps} {a b : Int} (P : Pz z x p a w) (Q : Pz w y q b u) (hp : snM z < p.1) : Pz z x q b u := by sorry
theorem fw_pz {z w u : ZS} {x y : SrZ} {q : Ps} {b : Int} (Q : Pz w y q b u) (hq : snM w ≤ q.1) {j : Nat} : FwJ j w u := ⟨by rw [Q.sn]; exact hq, fun i hi _ => Q.1 i hi⟩
/-- Z has the record of another S that was begun at w -/
theorem ag_re {Z z' w u : ZS} {j : Nat} {y : SrZ} {q : Ps} {b : Int} (ag : AgN Z z' j) (Q : Pz w y q b u) (F : FwJ j u z') (hj : j < snM w) (hq : snM w < q.1) : reS Z (snM w) = y := by sorry
section
variable {z : ZS} {N : Int → Int} {n : Nat}
theorem sd_bl (s : SdW N n) (h : zFt (blM (rwM N n) (n + 1) z).1 = 0) : SdQ N (n + 1) z (blM (rwM N n) (n + 1) z) := by sorry
theorem sd_sw (s : SdW N n) (h : zFt (swM N (n + 1) (rwM N n) z).1 = 0) : SdQ N (n + 1) z (swM N (n + 1) (rwM N n) z) := by sorry
/-- a block that is no S of its own -/
def SbQ (N : Int → Int) (n : Nat) (z z' : ZS) : Prop := (∃ x q, Pz z x q z.2.2.2.1.2 z' ∧ snM z < q.1) ∧ ∀ (Z : ZS) (M : Int), Cq Z M z → AgN Z z' (snM z) → BkD (RwD (StD N M Z n) Z (lvN n)) Z (lvN (n + 1)) z.2.2.2.1.2 (psM z) (psM z')
theorem sb_bo {out : List (Int × Int)} (s : SdW N n) (h : zFt (boM (rwM N n) (n + 1) out z).1 = 0) : SbQ N n z (boM (rwM N n) (n + 1) out z) := by sorry
theorem bo_b {out : List (Int × Int)} {m : Nat} (h : zFt (boM (rwM N n) m out z).1 = 0) : zFt z.1 = 0 := xp_b (rw_b (xp_b h))
/-- such a block inside -/
theorem Pz.bk {w z' : ZS} {x y : SrZ} {p q : Ps} {a b : Int} {out : List (Int × Int)} {Z : ZS} {M : Int} (P : Pz z x p a w) (hp : snM z < p.1) (hf : zFt (boM (rwM N n) (n + 1) out w).1 = 0) (s : SdW N n) (C : Cq Z M z) (P' : Pz z y q b z') (ag : AgN Z z' (snM z)) (F : FwJ (snM z) (boM (rwM N n) (n + 1) out w) z') (ha : a < (p.1 : Int)) (hx : x.1 = y.1 ∧ x.2.2.2.2.2.2.2.2 = y.2.2.2.2.2.2.2.2) (hl : x.1.1 = 6 → x.2.2.2.2.2.2.2.1 = y.2.2.2.2.2.2.2.1) : BkD (RwD (StD N M Z n) Z (lvN n)) Z (lvN (n + 1)) a p (psM (boM (rwM N n) (n + 1) out w)) := by sorry
theorem Pz.bo {w : ZS} {x : SrZ} {p : Ps} {a : Int} {out : List (Int × Int)} (P : Pz z x p a w) (hp : snM z < p.1) (hf : zFt (boM (rwM N n) (n + 1) out w).1 = 0) (s : SdW N n) : Pz z x (psM (boM (rwM N n) (n + 1) out w)) a (boM (rwM N n) (n + 1) out w) ∧ p.1 < snM (boM (rwM N n) (n + 1) out w) := by sorry
end
/-! what reading lays: try, for, jumps, return, throw -/
theorem fw_se {w : ZS} {j : Nat} {f : SrZ → SrZ} : FwJ j w (seM j f w) := ⟨Nat.le_refl _, fun i _ q => if_neg q⟩
theorem tr1_no {z : ZS} (h : zFt (tr1M z).1 = 0) : tr1M z = z ∧ (codY z.1 = 69 ∨ codY z.1 = 70) := by sorry
theorem vs_xa {c : Int} {s : SpC} (h : zFt (xpY c (accY s)) = 0) : zVs (xpY c (accY s)) = zVs s := by sorry
section
variable {z : ZS} {N : Int → Int} {n : Nat}
theorem tr2_q (s : SdW N n) {w : ZS} {p : Ps} {k : Nat} {h : Int × Int × Int × Int} {kn : List (Int × Int)} {nx b g th : Int} (P : Pz z (h, kn, (nx, b, -1, g, -1, -1, th)) p (snM z) w) (hp : snM z < p.1) (hf : zFt (tr2M N (rwM N n) (snM z) k (n + 1) w).1 = 0) (h6 : ¬ h.1 = 6) :
    ∃ (q2 : Ps) (o v : Int), Pz z (h, kn, (nx, b, o, g, -1, v, th)) q2 (snM z) (tr2M N (rwM N n) (snM z) k (n + 1) w) ∧ p.1 ≤ q2.1 ∧ (codY w.1 = 69 → 0 ≤ o) ∧ ∀ (Z : ZS) (M : Int) (z' : ZS) (y : SrZ) (q : Ps) (c : Int), Cq Z M z → Pz z y q c z' → AgN Z z' (snM z) → FwJ (snM z) (tr2M N (rwM N n) (snM z) k (n + 1) w) z' → (h = y.1 ∧ th = y.2.2.2.2.2.2.2.2) →
      ((o = -1 ∧ v = -1 ∧ q2 = p) ∨ (o = p.1 ∧ (0 ≤ v ∧ v < 60) ∧ ∃ t2, BkD (RwD (StD N M Z n) Z (lvN n)) Z (lvN (n + 1)) (snM z) (p.1, p.2.1, .inr (51, (k : Int), 0, t2, -2 - v) :: p.2.2) q2)) := by sorry
theorem tr3_q (s : SdW N n) {w : ZS} {p : Ps} {k : Nat} {h : Int × Int × Int × Int} {kn : List (Int × Int)} {nx b o v th : Int} (P : Pz z (h, kn, (nx, b, o, -1, -1, v, th)) p (snM z) w) (hp : snM z < p.1) (hf : zFt (tr3M (rwM N n) (snM z) k (n + 1) w).1 = 0) (h6 : ¬ h.1 = 6) :
    ∃ (q3 : Ps) (g : Int), Pz z (h, kn, (nx, b, o, g, -1, v, th)) q3 (snM z) (tr3M (rwM N n) (snM z) k (n + 1) w) ∧ p.1 ≤ q3.1 ∧ (codY w.1 = 70 → 0 ≤ g) ∧ ∀ (Z : ZS) (M : Int) (z' : ZS) (y : SrZ) (q : Ps) (c : Int), Cq Z M z → Pz z y q c z' → AgN Z z' (snM z) → FwJ (snM z) (tr3M (rwM N n) (snM z) k (n + 1) w) z' → (h = y.1 ∧ th = y.2.2.2.2.2.2.2.2) →
      ((g = -1 ∧ q3 = p) ∨ (g = p.1 ∧ ∃ t3, BkD (RwD (StD N M Z n) Z (lvN n)) Z (lvN (n + 1)) (snM z) (p.1, p.2.1, cIy 52 k 0 t3 :: p.2.2) q3)) := by sorry
theorem tr2_b {w : ZS} {j k m : Nat} (h : zFt (tr2M N (rwM N n) j k m w).1 = 0) : zFt w.1 = 0 := by sorry
theorem tr3_b {w : ZS} {j k m : Nat} (h : zFt (tr3M (rwM N n) j k m w).1 = 0) : zFt w.1 = 0 := by sorry
theorem sd_tr (s : SdW N n) (h : zFt (trM N (n + 1) (rwM N n) z).1 = 0) : SdQ N (n + 1) z (trM N (n + 1) (rwM N n) z) := by sorry
end
/-! what reading lays: for, jumps, return, throw -/
theorem sNx_id {x : SrZ} {v : Int} (h : x.2.2.1 = v) : sNx v x = x := by sorry
section
variable {z : ZS} {N : Int → Int} {n : Nat}
theorem fx1_q {w : ZS} (hf : zFt (fx1M N n w).1 = 0) : ∃ m r, ExX (lvN n) w.2.1 m r ∧ Pz w (sEx ((xcZ m : Int) - 1) (bR 94 n w)) (snM w + 1, tnM w, cEy 21 (acZ r) 0 r.1.2.2.1 m :: m) w.2.2.2.1.2 (fx1M N n w) := by sorry
theorem fxl_b {f i : Nat} {w : ZS} (h : zFt (fxlM N n f i w).1 = 0) : zFt w.1 = 0 := by sorry
theorem fxl_q : ∀ (f i : Nat) (w : ZS), i < snM w → njS w i = -1 → zFt (fxlM N n f i w).1 = 0 → ∃ L, FwJ i w (fxlM N n f i w) ∧ reS (fxlM N n f i w) i = sNx (hdI L) (reS w i) ∧ (fxlM N n f i w).2.2.2.1.2 = w.2.2.2.1.2 ∧ KpY w.1 (fxlM N n f i w).1 ∧ ∀ Z, AgF Z (fxlM N n f i w) (snM w) → FxD Z (lvN n) w.2.2.2.1.2 L (psM w) (psM (fxlM N n f i w)) := by sorry
theorem fx_q {w : ZS} (hf : zFt (fxM N n w).1 = 0) : ∃ L y q, (hdI L = (snM w : Int) ∧ ¬ L = []) ∧ Pz w y q w.2.2.2.1.2 (fxM N n w) ∧ snM w < q.1 ∧ ∀ Z, AgF Z (fxM N n w) (snM w) → FxD Z (lvN n) w.2.2.2.1.2 L (psM w) (psM (fxM N n w)) := by sorry
theorem va_b {w : ZS} {j : Nat} (h : zFt (vaM N j n w).1 = 0) : zFt w.1 = 0 := by sorry
theorem fo1_q {w : ZS} {p : Ps} {h : Int × Int × Int × Int} {kn : List (Int × Int)} {nx b g x lk th : Int} (P : Pz z (h, kn, (nx, b, -1, g, x, lk, th)) p (snM z) w) (hp : snM z < p.1) (hf : zFt (fo1M N (snM z) n w).1 = 0) :
    ∃ (q1 : Ps) (o : Int), Pz z (h, kn, (nx, b, o, g, x, lk, th)) q1 (snM z) (fo1M N (snM z) n w) ∧ p.1 ≤ q1.1 ∧ ∀ (Z z' : ZS), AgN Z z' (snM z) → FwJ (snM z) (fo1M N (snM z) n w) z' → FiD Z (lvN n) (snM z) o p q1 := by sorry
theorem fo3_q {w : ZS} {p : Ps} {h : Int × Int × Int × Int} {kn : List (Int × Int)} {nx b o x lk th : Int} (P : Pz z (h, kn, (nx, b, o, -1, x, lk, th)) p (snM z) w) (hp : snM z < p.1) (hf : zFt (fo3M N (snM z) n w).1 = 0) :
    ∃ (q1 : Ps) (g : Int), Pz z (h, kn, (nx, b, o, g, x, lk, th)) q1 (snM z) (fo3M N (snM z) n w) ∧ p.1 ≤ q1.1 ∧ ∀ (Z z' : ZS), AgN Z z' (snM z) → FwJ (snM z) (fo3M N (snM z) n w) z' → FuD Z (lvN n) (snM z) g p q1 := by sorry
end
/-! what reading lays: for, jumps, return, throw; rows; all S's -/
theorem tg_ag {N : Int → Int} {f g : Nat → SrZ} {on : Bool} {t : Int} {m : Nat} (hh : ∀ i, i < m → (f i).1 = (g i).1 ∧ ((g i).1.1 = 6 → (f i).2.2.2.2.2.2.2.1 = (g i).2.2.2.2.2.2.2.1)) (hp : ∀ i, i < m → (f i).1.2.2.2 < (i : Int)) : ∀ (k k' : Nat) (x : Int), x < (k : Int) → x < (k' : Int) → x + 1 < (m : Int) → tgZ N f on t k x = tgZ N g on t k' x ∧ tgZ N f on t k x < (m : Int) := by sorry
section
variable {z : ZS} {N : Int → Int} {n : Nat}
theorem fo2_q {w : ZS} {p : Ps} {k : Nat} {h : Int × Int × Int × Int} {kn : List (Int × Int)} {nx b o g lk th : Int} (P : Pz z (h, kn, (nx, b, o, g, -1, lk, th)) p (snM z) w) (hf : zFt (fo2M N (snM z) k n w).1 = 0) :
    ∃ (m : List ItZ) (x : Int), Pz z (h, kn, (nx, b, o, g, x, lk, th)) (p.1, p.2.1, m) (snM z) (fo2M N (snM z) k n w) ∧ FcD (lvN n) k h.2.1 x p.2.2 m := by sorry
theorem fo1_b {w : ZS} {j : Nat} (h : zFt (fo1M N j n w).1 = 0) : zFt w.1 = 0 := by sorry
theorem fo2_b {w : ZS} {j k : Nat} (h : zFt (fo2M N j k n w).1 = 0) : zFt w.1 = 0 := by sorry
theorem fo3_b {w : ZS} {j : Nat} (h : zFt (fo3M N j n w).1 = 0) : zFt w.1 = 0 := by sorry
theorem sd_fo (s : SdS N n) (h : zFt (foM2 N (n + 1) (stM N n) z).1 = 0) : SdQ N (n + 1) z (foM2 N (n + 1) (stM N n) z) := by sorry
theorem tq_d {Z : ZS} {M lk : Int} {j : Nat} {on : Bool} (C : Cq Z M z) (hz : snM z = j + 1) (ha : z.2.2.2.1.2 < (j : Int)) (hn : snM z ≤ snM Z) (h1 : kjS Z j = (if on = true then 65 else 64)) (h2 : ljS Z j = lk) (h3 : paS Z j = z.2.2.2.1.2) : tqM N on lk z = tqD N Z j := by sorry
theorem sd_ju {kd : Int} (hk : kd = 64 ∨ kd = 65) (hc : codY z.1 = kd) (h : zFt (juM N kd (n + 1) z).1 = 0) : SdQ N (n + 1) z (juM N kd (n + 1) z) := by sorry
end
/-! what reading lays: return, throw; rows; all S's -/
section
variable {z : ZS} {N : Int → Int} {n : Nat}
theorem sd_g6 (h : zFt (giM N 66 (n + 1) z).1 = 0) : SdQ N (n + 1) z (giM N 66 (n + 1) z) := by sorry
theorem gi_7x : giM N 67 (n + 1) z = enM (snM z) (cnM z) (xpM 4 (cxM 49 1 ((cnM (exS N (snM z) (n + 1) (accM (bgM 67 (n + 1) z))) : Int) - 1) (zAt z.1) (exS N (snM z) (n + 1) (accM (bgM 67 (n + 1) z))))) := by sorry
theorem sd_g7 (h : zFt (giM N 67 (n + 1) z).1 = 0) : SdQ N (n + 1) z (giM N 67 (n + 1) z) := by sorry
/-- an S -/
theorem sd_sm (s : SdS N n) (w : SdW N n) : SdS N (n + 1) := by sorry
/-- a part of a row -/
def SpQ (N : Int → Int) (n : Nat) (sw : Int) (js : Nat) (b : Int) (z z' : ZS) : Prop := snM z < snM z' ∧ njS z' (snM z) = -1 ∧ z'.2.2.2.1.2 = z.2.2.2.1.2 ∧ KpY z.1 z'.1 ∧ (∀ i, i < snM z → reS z' i = reS z i) ∧ (sw = 1 → b = 1 → kjS z' (snM z) = 62 ∨ kjS z' (snM z) = 63) ∧ ∀ (Z : ZS) (M : Int), Cq Z M z → AgN Z z' (snM z) → (sw = 1 ∧ CsD Z (lvN n) js z.2.2.2.1.2 (psM z) (psM z')) ∨ StD N M Z n z.2.2.2.1.2 (psM z) (psM z')
theorem sp_cs {js : Nat} {b : Int} (h : zFt (csM N js n z).1 = 0) (hc : codY z.1 = 62 ∨ codY z.1 = 63) : SpQ N n 1 js b z (csM N js n z) := by sorry
theorem kp_to : KpY z.1 (toM N n z).1 := by sorry
theorem sp_2 (s : SdS N (n + 1)) {sw : Int} {js : Nat} (h : zFt (rp2M N (n + 1) (stM N (n + 1)) z).1 = 0) : SpQ N (n + 1) sw js 0 z (rp2M N (n + 1) (stM N (n + 1)) z) := by sorry
theorem rp2_b (h : zFt (rp2M N n (stM N n) z).1 = 0) : zFt z.1 = 0 := by sorry
theorem sp_rp (s : SdS N (n + 1)) {sw b : Int} {js : Nat} (hb : b = 0 ∨ b = 1) (h : zFt (rpM N (n + 1) (stM N (n + 1)) sw js b z).1 = 0) : SpQ N (n + 1) sw js b z (rpM N (n + 1) (stM N (n + 1)) sw js b z) := by sorry
end
/-! what reading lays: rows, methods, the program -/
theorem rwl_bk {N : Int → Int} {n : Nat} {sw : Int} {js k : Nat} {f l : Int} {z : ZS} (h : zFt (rwlM N n (stM N n) sw js k f l z).1.1 = 0) : zFt z.1 = 0 := by sorry
theorem nx_e {l : Int} {j : Nat} {z : ZS} : (nxM l j z).1 = z.1 ∧ psM (nxM l j z) = psM z ∧ (nxM l j z).2.2.2.1.2 = z.2.2.2.1.2 ∧ (∀ i : Nat, ¬ (i : Int) = l → reS (nxM l j z) i = reS z i) ∧ (0 ≤ l → reS (nxM l j z) l.toNat = sNx j (reS z l.toNat)) := by sorry
theorem rwl_q {N : Int → Int} {n : Nat} (s : SdS N (n + 1)) {sw : Int} {js : Nat} : ∀ (k : Nat) (f l : Int) (z : ZS), l < (snM z : Int) → (0 ≤ l → njS z l.toNat = -1) → ((f = -1 ∧ l < 0) ∨ (0 ≤ f ∧ 0 ≤ l)) → ∀ r, rwlM N (n + 1) (stM N (n + 1)) sw js k f l z = r → zFt r.1.1 = 0 →
    ∃ L, (r.2 = if f < 0 then hdI L else f) ∧ r.1.2.2.2.1.2 = z.2.2.2.1.2 ∧ snM z ≤ snM r.1 ∧ (∀ i : Nat, i < snM z → ¬ (i : Int) = l → reS r.1 i = reS z i) ∧ (0 ≤ l → reS r.1 l.toNat = sNx (hdI L) (reS z l.toNat)) ∧ (∀ j L', L = j :: L' → j = snM z ∧ j < snM r.1 ∧ (sw = 1 → f < 0 → kjS r.1 j = 62 ∨ kjS r.1 j = 63)) ∧ ∀ (Z : ZS) (M : Int), Cq Z M z → AgF Z r.1 (snM z) → RwD (StD N M Z (n + 1)) Z (lvN (n + 1)) sw js z.2.2.2.1.2 L (psM z) (psM r.1) := by sorry
theorem sd_ls {N : Int → Int} : ∀ n, SdS N n ∧ SdW N n := by sorry
/-- a method; a program: the numbers of the bodies -/
def MeD (N : Int → Int) (Z : ZS) (M : Nat) (p q : Ps) : Prop := ∃ (q1 : Ps) (t : Int), BkD (RwD (StD N M Z 20) Z (lvN 20)) Z (lvN 21) (-1) (p.1, p.2.1 + 1, p.2.2) q1 ∧ q = (q1.1, q1.2.1, cIy 54 M 0 t :: q1.2.2)
def PrD (N : Int → Int) (Z : ZS) : List Nat → Nat → Ps → Ps → Prop
  | [], _, p, q => q = p
  | j :: L, M, p, q => j = p.1 ∧ ∃ p1, MeD N Z M p p1 ∧ PrD N Z L (M + 1) p1 q
/-- between methods -/
def Cp (Z z : ZS) : Prop := (zK Z.1 = zK z.1 ∧ 0 ≤ zAt z.1 ∧ zAt z.1 ≤ 500) ∧ (∀ i, i < snM Z → paS Z i < (i : Int)) ∧ snM z ≤ snM Z ∧ ∀ i, i < snM z → (reS Z i).1 = (reS z i).1 ∧ thS Z i = thS z i ∧ (kjS z i = 6 → ljS Z i = ljS z i)
section
variable {N : Int → Int} {z : ZS}
theorem pa2_e {i : Nat} {ty f : Int} : psM (pa2M N i ty f z) = psM z ∧ (pa2M N i ty f z).2.2.2.1.2 = z.2.2.2.1.2 ∧ ∀ j, reS (pa2M N i ty f z) j = reS z j := by sorry
theorem pa1_e {i : Nat} : psM (pa1M N i z) = psM z ∧ (pa1M N i z).2.2.2.1.2 = z.2.2.2.1.2 ∧ ∀ j, reS (pa1M N i z) j = reS z j := by sorry
end
theorem pal_e {N : Int → Int} : ∀ (f i : Nat) (z : ZS), psM (palM N f i z) = psM z ∧ (palM N f i z).2.2.2.1.2 = z.2.2.2.1.2 ∧ ∀ j, reS (palM N f i z) j = reS z j := by sorry
theorem pa_e {N : Int → Int} {z : ZS} : psM (paM N z) = psM z ∧ (paM N z).2.2.2.1.2 = z.2.2.2.1.2 ∧ ∀ j, reS (paM N z) j = reS z j := by sorry
theorem kp_pa {N : Int → Int} {z : ZS} : KpY z.1 (paM N z).1 := by sorry
/-! what reading lays: methods, the program -/
theorem me_q {N : Int → Int} {z : ZS} (h : zFt (meM N z).1 = 0) : (∀ i, i < snM z → reS (meM N z) i = reS z i) ∧ snM z < snM (meM N z) ∧ (zMs (meM N z).1).length = (zMs z.1).length + 1 ∧ NpY z.1 (meM N z).1 ∧ GpY z.1 (meM N z).1 ∧ ∀ Z, Cp Z z → AgF Z (meM N z) (snM z) → MeD N Z (zMs z.1).length (psM z) (psM (meM N z)) := by sorry
theorem pr_q {N : Int → Int} : ∀ (f : Nat) (z : ZS), zFt (prM N f z).1 = 0 → ∃ L : List Nat, (∀ i, i < snM z → reS (prM N f z) i = reS z i) ∧ snM z ≤ snM (prM N f z) ∧ (zMs (prM N f z).1).length = (zMs z.1).length + L.length ∧ NpY z.1 (prM N f z).1 ∧
    (∀ q : (Nat → Nat) × (Nat → Nat), (∀ k, k < (zMs z.1).length → (jfM N f z q).1 k = q.1 k) ∧ ∀ (i j : Nat), L[i]? = some j → (jfM N f z q).1 ((zMs z.1).length + i) = j) ∧ ∀ Z, Cp Z z → AgF Z (prM N f z) (snM z) → PrD N Z L (zMs z.1).length (psM z) (psM (prM N f z)) := by sorry
/-- all that is read, S by S -/
theorem pr_d {N : Int → Int} {f : Nat} {s : SpC} (h : zFt (prM N f (z0S s)).1 = 0) (hs : zAt s = 0 ∧ zMs s = []) : ∃ L : List Nat, L.length = (zMs (prM N f (z0S s)).1).length ∧ (∀ (q : (Nat → Nat) × (Nat → Nat)) (i j : Nat), L[i]? = some j → (jfM N f (z0S s) q).1 i = j) ∧ PrD N (prM N f (z0S s)) L 0 (0, 0, []) (psM (prM N f (z0S s))) := by sorry
/-! what each code asks is what its S asks: pieces -/
/-- all codes of S's that are laid from l to l' -/
def AlB (Φ : List ItZ → Int × Int × Int × Int × Int → Prop) (l l' : List ItZ) : Prop := ∀ y m, (.inr y :: m) <:+ l' → l.length ≤ m.length → Φ m y
section
variable {Φ : List ItZ → Int × Int × Int × Int × Int → Prop} {l l' l'' : List ItZ}
theorem alb_tr (h1 : l <:+ l') (h2 : l' <:+ l'') : AlB Φ l l'' ↔ AlB Φ l l' ∧ AlB Φ l' l'' := by sorry
theorem alb_rf : AlB Φ l l := by sorry
theorem alb_1 {y : Int × Int × Int × Int × Int} : AlB Φ l (.inr y :: l) ↔ Φ l y := by sorry
theorem alb_xs (h : XsR l l') : AlB Φ l l' := by sorry
theorem ExX.xs {r : XrZ} {lv : Int} (h : ExX lv l l' r) : XsR l l' := by sorry
theorem ExX.sf {r : XrZ} {lv : Int} (h : ExX lv l l' r) : l <:+ l' := h.xs.ig
theorem alb_ex {r : XrZ} {lv : Int} (h : ExX lv l l' r) : AlB Φ l l' := alb_xs h.xs
/-- one code, then more -/
theorem alb_c {y : Int × Int × Int × Int × Int} (h : (.inr y :: l) <:+ l') : AlB Φ l l' ↔ Φ l y ∧ AlB Φ (.inr y :: l) l' := by sorry
/-- the last code -/
theorem alb_e {y : Int × Int × Int × Int × Int} (h : l <:+ l') : AlB Φ l (.inr y :: l') ↔ AlB Φ l l' ∧ Φ l' y := by sorry
/-- an exp, then more -/
theorem alb_m {r : XrZ} {lv : Int} (h : ExX lv l l' r) (g : l' <:+ l'') : AlB Φ l l'' ↔ AlB Φ l' l'' := by sorry
end
/-- codes that ask nothing -/
abbrev TrO (o : Int) : Prop := o = 20 ∨ o = 22 ∨ (24 ≤ o ∧ o ≤ 26) ∨ (28 ≤ o ∧ o ≤ 30) ∨ o = 32 ∨ (34 ≤ o ∧ o ≤ 36) ∨ o = 40 ∨ o = 42 ∨ o = 45 ∨ (50 ≤ o ∧ o ≤ 54)
section
variable {C : CxT} {N : Int → Int} {T : TbT} {l : List ItZ} {a b t e : Int}
theorem ok_t {y : Int × Int × Int × Int × Int} (h : TrO y.1 ∨ (y.1 = 33 ∧ y.2.2.1 = 0)) : okS C N T l y := by sorry
theorem ok_21 : okS C N T l (21, a, b, t, e) ↔ ¬ a = 0 := by sorry
theorem ok_cd {o : Int} (ho : o = 23 ∨ o = 27 ∨ o = 31 ∨ (o = 33 ∧ ¬ b = 0)) : okS C N T l (o, a, b, t, e) ↔ (opT T e).1 = 0 := by sorry
theorem ok_37 : okS C N T l (37, a, b, t, e) ↔ 1 ≤ (opT T e).1 ∧ (opT T e).1 ≤ 3 := by sorry
theorem ok_38 : okS C N T l (38, a, b, t, e) ↔ (¬ (opT T e).2.1 = 0 ∧ ftT (opT T e) (opT T (swZ a l)).1) ∧ ∀ o x, itN l o = some (.inr x) → x.1 = 38 → x.2.1 = a → ¬ (opT T x.2.2.2.2).2.2.1 = (opT T e).2.2.1 := by sorry
theorem ok_39 : okS C N T l (39, a, b, t, e) ↔ dfZ a l < 0 := by sorry
theorem ok_41 : okS C N T l (41, a, b, t, e) ↔ ∀ p ∈ lbZ l, ¬ N p.2 = N t := by sorry
theorem ok_46 {o : Int} (ho : o = 46 ∨ o = 47) : okS C N T l (o, a, b, t, e) ↔ 0 ≤ a := by sorry
theorem ok_48 : okS C N T l (48, a, b, t, e) ↔ (a = 0 → mtyT C (mdZ l) = 5) ∧ (¬ a = 0 → ¬ mtyT C (mdZ l) = 5 ∧ ftT (opT T e) (mtyT C (mdZ l))) := by sorry
theorem ok_49 : okS C N T l (49, a, b, t, e) ↔ ftT (opT T e) 3 := by sorry
end
/-! what an S asks, by its kind -/
section
variable {N : Int → Int} {Z : ZS} {T : TbT} {ms : MfT} {j : Nat}
theorem skk_tr (h : kjS Z j = 2 ∨ kjS Z j = 4 ∨ kjS Z j = 68 ∨ (91 ≤ kjS Z j ∧ kjS Z j ≤ 93) ∨ kjS Z j = 62 ∨ kjS Z j = 63) : skT N Z T ms j := by sorry
theorem skk_90 (h : kjS Z j = 90 ∨ kjS Z j = 94) : skT N Z T ms j ↔ (0 ≤ xjS Z j → (xth Z (xjS Z j).toNat).1.1 = 9 ∨ (xth Z (xjS Z j).toNat).1.1 = 6 ∨ (xth Z (xjS Z j).toNat).1.1 = 10) := by sorry
theorem skk_cd (h : kjS Z j = 56 ∨ kjS Z j = 58 ∨ kjS Z j = 59 ∨ kjS Z j = 60) : skT N Z T ms j ↔ (0 ≤ xjS Z j → (T.1 (xjS Z j).toNat).1 = 0) := by sorry
theorem skk_61 (h : kjS Z j = 61) : skT N Z T ms j ↔ swP Z T j := by sorry
theorem skk_64 (h : kjS Z j = 64 ∨ kjS Z j = 65) : skT N Z T ms j ↔ 0 ≤ tjT N Z j := by sorry
theorem skk_66 (h : kjS Z j = 66) : skT N Z T ms j ↔ ∀ m, ms (ljS Z j).toNat = some m → rtT' Z T m j := by sorry
theorem skk_67 (h : kjS Z j = 67) : skT N Z T ms j ↔ (0 ≤ xjS Z j → ftT (T.1 (xjS Z j).toNat) 3) := by sorry
theorem skk_6 (h : kjS Z j = 6) : skT N Z T ms j ↔ lbT N Z (ljS Z j) (snM Z) (paS Z j) := by sorry
end
/-! records of an S -/
section
variable {Z : ZS} {j : Nat} {k t lv a b o g x lk th : Int}
theorem ReD.kj (h : ReD Z j (k, t, lv, a) (b, o, g, x, lk, th)) : kjS Z j = k := congrArg (fun v : Int × Int × Int × Int => v.1) h.1
theorem ReD.fi (h : ReD Z j (k, t, lv, a) (b, o, g, x, lk, th)) : fiS Z j = t := congrArg (fun v : Int × Int × Int × Int => v.2.1) h.1
theorem ReD.lev (h : ReD Z j (k, t, lv, a) (b, o, g, x, lk, th)) : lvS Z j = lv := congrArg (fun v : Int × Int × Int × Int => v.2.2.1) h.1
theorem ReD.pa (h : ReD Z j (k, t, lv, a) (b, o, g, x, lk, th)) : paS Z j = a := congrArg (fun v : Int × Int × Int × Int => v.2.2.2) h.1
theorem ReD.bj (h : ReD Z j (k, t, lv, a) (b, o, g, x, lk, th)) : bjS Z j = b := by sorry
theorem ReD.oj (h : ReD Z j (k, t, lv, a) (b, o, g, x, lk, th)) : ojS Z j = o := by sorry
theorem ReD.gj (h : ReD Z j (k, t, lv, a) (b, o, g, x, lk, th)) : gjS Z j = g := by sorry
theorem ReD.xj (h : ReD Z j (k, t, lv, a) (b, o, g, x, lk, th)) : xjS Z j = x := by sorry
theorem ReD.lj (h : ReD Z j (k, t, lv, a) (b, o, g, x, lk, th)) : ljS Z j = lk := by sorry
theorem ReD.thi (h : ReD Z j (k, t, lv, a) (b, o, g, x, lk, th)) : thS Z j = th := by sorry
end
/-- an exp's number -/
theorem ExX.nn {l m : List ItZ} {r : XrZ} {lv : Int} (h : ExX lv l m r) : ((xcZ m : Int) - 1).toNat = xcZ m - 1 ∧ 0 ≤ (xcZ m : Int) - 1 ∧ xcZ l ≤ xcZ m - 1 ∧ 1 ≤ xcZ m := by sorry
theorem ExX.at {l m L : List ItZ} {r : XrZ} {lv : Int} (h : ExX lv l m r) (g : m <:+ L) : xgZ L (xcZ m - 1) = r := by sorry
/-! what each code asks is what its S asks -/
/-- labels that stand open, methods that have ended: the same -/
def Nb (l l' : List ItZ) : Prop := l <:+ l' ∧ lbZ l' = lbZ l ∧ mdZ l' = mdZ l
theorem Nb.rf {l : List ItZ} : Nb l l := ⟨List.suffix_rfl, rfl, rfl⟩
theorem Nb.tr {l l' l'' : List ItZ} (h : Nb l l') (g : Nb l' l'') : Nb l l'' := ⟨h.1.trans g.1, g.2.1.trans h.2.1, g.2.2.trans h.2.2⟩
theorem nb_r {l : List ItZ} {y : Int × Int × Int × Int × Int} (h : ¬ y.1 = 41 ∧ ¬ y.1 = 42 ∧ ¬ y.1 = 54) : Nb l (.inr y :: l) := by sorry
theorem nb_ci {l : List ItZ} {o a b t : Int} (h : ¬ o = 41 ∧ ¬ o = 42 ∧ ¬ o = 54) : Nb l (cIy o a b t :: l) := nb_r h
theorem nb_ce {l m : List ItZ} {o a b t : Int} (h : ¬ o = 41 ∧ ¬ o = 42 ∧ ¬ o = 54) : Nb l (cEy o a b t m :: l) := nb_r h
theorem nb_l {l : List ItZ} {x : XrZ} : Nb l (.inl x :: l) := ⟨List.suffix_cons _ _, rfl, rfl⟩
theorem nb_xs {l l' : List ItZ} (h : XsR l l') : Nb l l' := by sorry
theorem ExX.nb {l l' : List ItZ} {r : XrZ} {lv : Int} (h : ExX lv l l' r) : Nb l l' := nb_xs h.xs
section
variable {C : CxT} {N : Int → Int} {T : TbT} {l l' m : List ItZ} {o a b t : Int}
theorem ok_ei (h : l <:+ l') (ho : TrO o) : AlB (okS C N T) l (cIy o a b t :: l') ↔ AlB (okS C N T) l l' := by sorry
theorem ok_ci (h : (cIy o a b t :: l) <:+ l') (ho : TrO o) : AlB (okS C N T) l l' ↔ AlB (okS C N T) (cIy o a b t :: l) l' := by sorry
/-- STEP, ENDS -/
theorem ok_wr {t' c : Int} (h : (cIy 20 0 0 t :: l) <:+ m) : AlB (okS C N T) l (cIy 45 c 0 t' :: m) ↔ AlB (okS C N T) (cIy 20 0 0 t :: l) m := by sorry
end
/-- S's from i to j -/
def SkB (N : Int → Int) (Z : ZS) (T : TbT) (ms : MfT) (i j : Nat) : Prop := ∀ k, i ≤ k → k < j → skT N Z T ms k
section
variable {N : Int → Int} {Z : ZS} {T : TbT} {ms : MfT} {i j k : Nat}
theorem skb_0 : SkB N Z T ms i i := fun k a b => by omega
theorem skb_c (h : i < j) : SkB N Z T ms i j ↔ skT N Z T ms i ∧ SkB N Z T ms (i + 1) j := by sorry
theorem skb_1 : SkB N Z T ms i (i + 1) ↔ skT N Z T ms i := by sorry
theorem skb_tr (h : i ≤ j) (g : j ≤ k) : SkB N Z T ms i k ↔ SkB N Z T ms i j ∧ SkB N Z T ms j k := by sorry
theorem lb_fu {t : Int} (hp : ∀ i, i < snM Z → paS Z i < (i : Int)) : ∀ (f g : Nat) (x : Int), x < (f : Int) → x < (g : Int) → x < (snM Z : Int) → (lbT N Z t f x ↔ lbT N Z t g x) := by sorry
end
/-- things that codes name are there -/
def ThB (l : List ItZ) (k : Nat) : Prop := ∀ y, Sum.inr y ∈ l → thO y.1 = true → y.2.1 < (k : Int)
theorem ThB.mo {l : List ItZ} {k k' : Nat} (h : ThB l k) (q : k ≤ k') : ThB l k' := fun y a b => by have := h y a b; omega
theorem ThB.r {l : List ItZ} {k : Nat} {y : Int × Int × Int × Int × Int} (h : ThB l k) (q : thO y.1 = true → y.2.1 < (k : Int)) : ThB (.inr y :: l) k := by sorry
theorem ThB.ci {l : List ItZ} {k : Nat} {o a b t : Int} (h : ThB l k) (q : thO o = true → a < (k : Int)) : ThB (cIy o a b t :: l) k := h.r q
theorem ThB.ce {l m : List ItZ} {k : Nat} {o a b t : Int} (h : ThB l k) (q : thO o = true → a < (k : Int)) : ThB (cEy o a b t m :: l) k := h.r q
theorem ThB.c0 {l : List ItZ} {k : Nat} {o a b t : Int} (h : ThB l k) (q : thO o = false) : ThB (cIy o a b t :: l) k := h.r (fun z => absurd (q.symm.trans z) (by decide))
theorem ThB.e0 {l m : List ItZ} {k : Nat} {o a b t : Int} (h : ThB l k) (q : thO o = false) : ThB (cEy o a b t m :: l) k := h.r (fun z => absurd (q.symm.trans z) (by decide))
theorem ThB.l {l : List ItZ} {k : Nat} {x : XrZ} (h : ThB l k) : ThB (.inl x :: l) k := by sorry
theorem ThB.xs {l l' : List ItZ} {k : Nat} (h : ThB l k) (q : XsR l l') : ThB l' k := by sorry
theorem ThB.ex {l l' : List ItZ} {k : Nat} {r : XrZ} (h : ThB l k) {lv : Int} (q : ExX lv l l' r) : ThB l' k := h.xs q.xs
theorem ThB.pg {js : Int} {p q : Ps} (h : ThB p.2.2 p.2.1) (g : PgD js p q) (hj : js < (q.2.1 : Int)) : ThB q.2.2 q.2.1 := by sorry
/-- what is fixed -/
def HxD (C : CxT) (Z : ZS) (ms : MfT) (M : Int) : Prop := (∀ i, i < snM Z → paS Z i < (i : Int)) ∧ (∃ m, ms M.toNat = some m) ∧ (∀ i, i < snM Z → 0 ≤ thS Z i) ∧ C.2.2.2 = ms
/-- what stands ahead of an S -/
def KxD (N : Int → Int) (Z : ZS) (M : Int) (a : Int) (p q : Ps) : Prop := q.2.2 <:+ Z.2.1 ∧ q.1 ≤ snM Z ∧ a < (p.1 : Int) ∧ (mdZ p.2.2 : Int) = M ∧ (∀ t, (∀ e ∈ lbZ p.2.2, ¬ N e.2 = N t) ↔ lbT N Z t (snM Z) a) ∧ ThB p.2.2 p.2.1
def RsD (C : CxT) (N : Int → Int) (Z : ZS) (T : TbT) (ms : MfT) (p q : Ps) : Prop := (AlB (okS C N T) p.2.2 q.2.2 ↔ SkB N Z T ms p.1 q.1) ∧ Nb p.2.2 q.2.2 ∧ p.1 ≤ q.1
theorem PgD.sf {js : Int} {p q : Ps} (h : PgD js p q) : p.2.2 <:+ q.2.2 := by sorry
theorem StD.pg {N : Int → Int} {M : Int} {Z : ZS} {n : Nat} {a : Int} {p q : Ps} (h : StD N M Z n a p q) : PgD (-1) p q ∧ p.1 < q.1 := by sorry
section
variable {N : Int → Int} {Z : ZS} {T : TbT} {ms : MfT} {C : CxT} {M a : Int}
/-- into an S that is no label: what stands there -/
theorem KxD.in_ {p q : Ps} {j : Nat} {p1 q1 : Ps} (H : HxD C Z ms M) (K : KxD N Z M a p q) (hj : j = p.1) (hk : ¬ kjS Z j = 6) (hpa : paS Z j = a) (h1 : q1.2.2 <:+ q.2.2) (h2 : q1.1 ≤ q.1) (h3 : j < p1.1) (h4 : Nb p.2.2 p1.2.2) (h5 : p.1 < q.1) (h7 : ThB p1.2.2 p1.2.1) : KxD N Z M j p1 q1 := by sorry
/-- into a label -/
theorem KxD.la {p q : Ps} {p1 q1 : Ps} {k t0 : Int} (H : HxD C Z ms M) (K : KxD N Z M a p q) (hk : kjS Z p.1 = 6) (hl : ljS Z p.1 = t0) (hpa : paS Z p.1 = a) (h1 : q1.2.2 <:+ q.2.2) (h2 : q1.1 ≤ q.1) (h3 : p.1 < p1.1) (h4 : lbZ p1.2.2 = (k, t0) :: lbZ p.2.2) (h6 : mdZ p1.2.2 = mdZ p.2.2) (h5 : p.1 < q.1) (h7 : ThB p1.2.2 p1.2.1) : KxD N Z M p.1 p1 q1 := by sorry
end
/-! what each code asks is what its S asks: by its kind -/
theorem acz_i {r : XrZ} : ¬ acZ r = 0 ↔ (r.1.1 = 9 ∨ r.1.1 = 6 ∨ r.1.1 = 10) := by sorry
/-- inside of an S -/
def RsI (C : CxT) (N : Int → Int) (Z : ZS) (T : TbT) (ms : MfT) (j : Nat) (l : List ItZ) (q : Ps) : Prop := (AlB (okS C N T) l q.2.2 ↔ SkB N Z T ms j q.1) ∧ Nb l q.2.2 ∧ j < q.1
abbrev StOk (C : CxT) (N : Int → Int) (Z : ZS) (T : TbT) (ms : MfT) (M : Int) (St : SsT) : Prop := ∀ a p q, St a p q → (PgD (-1) p q ∧ p.1 < q.1) ∧ (KxD N Z M a p q → RsD C N Z T ms p q)
abbrev RwOk (C : CxT) (N : Int → Int) (Z : ZS) (T : TbT) (ms : MfT) (M : Int) (Rw : RsT) : Prop := ∀ a L p q, Rw 0 0 a L p q → (p.2.2 <:+ q.2.2 ∧ p.1 ≤ q.1 ∧ PgD (-1) p q) ∧ (KxD N Z M a p q → RsD C N Z T ms p q)
section
variable {N : Int → Int} {Z : ZS} {T : TbT} {ms : MfT} {C : CxT} {M a lv t c : Int} {j k : Nat} {l : List ItZ} {q : Ps} {St : SsT} {Rw : RsT}
/-- an exp that is a condition -/
theorem cd_i {m l : List ItZ} {r : XrZ} {o b e d : Int} (hx : ExX lv l m r) (ho : o = 23 ∨ o = 27 ∨ o = 31 ∨ (o = 33 ∧ ¬ d = 0)) (hk : kjS Z j = 56 ∨ kjS Z j = 58 ∨ kjS Z j = 59 ∨ kjS Z j = 60) (hxj : xjS Z j = (xcZ m : Int) - 1) : okS C N T m (o, b, d, e, (xcZ m : Int) - 1) ↔ skT N Z T ms j := by sorry
theorem xs_i {m l : List ItZ} {r : XrZ} {b e : Int} (hx : ExX lv l m r) (hZ : m <:+ Z.2.1) (hk : kjS Z j = 90 ∨ kjS Z j = 94) (hxj : xjS Z j = (xcZ m : Int) - 1) : okS C N T m (21, acZ r, b, e, (xcZ m : Int) - 1) ↔ skT N Z T ms j := by sorry
theorem ri_xs (h : XsD Z lv a j k t l q) (hZ : q.2.2 <:+ Z.2.1) : RsI C N Z T ms j l q := by sorry
theorem va_i {h : Int × Int × Int × Int} {th : Int} {l m : List ItZ} (v : VaD Z j h th l m) : AlB (okS C N T) l m ∧ Nb l m ∧ (reS Z j).1 = h := by sorry
theorem ri_to (h : ToD Z lv a j k t l q) : RsI C N Z T ms j l q := by sorry
theorem ri_em (h : EmD Z lv a j k t l q) : RsI C N Z T ms j l q := by sorry
theorem ri_bl (hR : RwOk C N Z T ms M Rw) (H : HxD C Z ms M) (h : BlD Rw Z lv a j k t (cIy 20 0 0 t :: l) q) (K : KxD N Z M a (j, k, l) (q.1, q.2.1, cIy 45 c 0 t :: q.2.2)) : RsI C N Z T ms j (cIy 20 0 0 t :: l) q := by sorry
theorem ri_la (hS : StOk C N Z T ms M St) (H : HxD C Z ms M) (h : LaD St Z lv a j k t (cIy 20 0 0 t :: l) q) (K : KxD N Z M a (j, k, l) (q.1, q.2.1, cIy 45 c 0 t :: q.2.2)) : RsI C N Z T ms j (cIy 20 0 0 t :: l) q := by sorry
theorem ri_if (hS : StOk C N Z T ms M St) (H : HxD C Z ms M) (h : IfD St Z lv a j k t (cIy 20 0 0 t :: l) q) (K : KxD N Z M a (j, k, l) (q.1, q.2.1, cIy 45 c 0 t :: q.2.2)) : RsI C N Z T ms j (cIy 20 0 0 t :: l) q := by sorry
theorem ri_wh (hS : StOk C N Z T ms M St) (H : HxD C Z ms M) (h : WhD St Z lv a j k t (cIy 20 0 0 t :: l) q) (K : KxD N Z M a (j, k, l) (q.1, q.2.1, cIy 45 c 0 t :: q.2.2)) : RsI C N Z T ms j (cIy 20 0 0 t :: l) q := by sorry
theorem ri_do (hS : StOk C N Z T ms M St) (H : HxD C Z ms M) (h : DoD St Z lv a j k t (cIy 20 0 0 t :: l) q) (K : KxD N Z M a (j, k, l) (q.1, q.2.1, cIy 45 c 0 t :: q.2.2)) : RsI C N Z T ms j (cIy 20 0 0 t :: l) q := by sorry
end
/-! what each code asks is what its S asks: for, try, jumps, return, throw; rows -/
section
variable {N : Int → Int} {Z : ZS} {T : TbT} {ms : MfT} {C : CxT} {M a lv t c : Int} {j k : Nat} {l : List ItZ} {q : Ps} {St : SsT} {Rw : RsT}
theorem fx_sf {Z : ZS} {lv a : Int} : ∀ {L : List Nat} {p q : Ps}, FxD Z lv a L p q → Nb p.2.2 q.2.2 ∧ p.1 ≤ q.1 ∧ p.2.1 = q.2.1 ∧ XsR [] [] := by sorry
theorem fx_i {Z : ZS} {lv a : Int} : ∀ {L : List Nat} {p q : Ps}, FxD Z lv a L p q → q.2.2 <:+ Z.2.1 → (AlB (okS C N T) p.2.2 q.2.2 ↔ SkB N Z T ms p.1 q.1) := by sorry
theorem fx_th {Z : ZS} {lv a : Int} : ∀ {L : List Nat} {p q : Ps} {k : Nat}, FxD Z lv a L p q → ThB p.2.2 k → ThB q.2.2 k := by sorry
theorem va_th {h : Int × Int × Int × Int} {th : Int} {l m : List ItZ} {k : Nat} (v : VaD Z j h th l m) (g : ThB l k) : ThB m k := by sorry
theorem fi_i {o : Int} {p q : Ps} (h : FiD Z lv j o p q) (hZ : q.2.2 <:+ Z.2.1) : (AlB (okS C N T) p.2.2 q.2.2 ↔ SkB N Z T ms p.1 q.1) ∧ Nb p.2.2 q.2.2 ∧ p.1 ≤ q.1 ∧ p.2.1 = q.2.1 ∧ ∀ k, ThB p.2.2 k → ThB q.2.2 k := by sorry
theorem fc_i {x : Int} {l m : List ItZ} (h : FcD lv k t x l m) (hk : kjS Z j = 60) (hx : xjS Z j = x) : (AlB (okS C N T) l m ↔ skT N Z T ms j) ∧ Nb l m ∧ ∀ k', k < k' → ThB l k' → ThB m k' := by sorry
theorem ri_fo (hS : StOk C N Z T ms M St) (H : HxD C Z ms M) (h : FoD St Z lv a j k t (cIy 20 0 0 t :: l) q) (K : KxD N Z M a (j, k, l) (q.1, q.2.1, cIy 45 c 0 t :: q.2.2)) : RsI C N Z T ms j (cIy 20 0 0 t :: l) q := by sorry
theorem bk_i (hR : RwOk C N Z T ms M Rw) (H : HxD C Z ms M) {p q : Ps} (h : BkD Rw Z lv a p q) (K : KxD N Z M a p q) : RsD C N Z T ms p q ∧ p.1 < q.1 := by sorry
theorem bk_sf (hR : RwOk C N Z T ms M Rw) {p q : Ps} (h : BkD Rw Z lv a p q) : p.2.2 <:+ q.2.2 ∧ p.1 < q.1 := by sorry
end
/-! what each code asks is what its S asks: try, jumps, return, throw -/
section
variable {N : Int → Int} {Z : ZS} {T : TbT} {ms : MfT} {C : CxT} {M a lv t c : Int} {j k : Nat} {l : List ItZ} {q : Ps} {St : SsT} {Rw : RsT}
theorem bk_pg (hR : RwOk C N Z T ms M Rw) {p q : Ps} (h : BkD Rw Z lv a p q) : PgD (-1) p q := by sorry
/-- a block behind a code, or none -/
theorem op_i (hR : RwOk C N Z T ms M Rw) (H : HxD C Z ms M) {y : Int × Int × Int × Int × Int} {q1 q2 : Ps} (h : q2 = q1 ∨ BkD Rw Z lv j (q1.1, q1.2.1, .inr y :: q1.2.2) q2) (ho : TrO y.1 ∧ ¬ y.1 = 41 ∧ ¬ y.1 = 42 ∧ ¬ y.1 = 54) (hy : y.2.1 < (q1.2.1 : Int)) (th : ThB q1.2.2 q1.2.1) (hK : ∀ p1 : Ps, p1 = (q1.1, q1.2.1, .inr y :: q1.2.2) → p1.2.2 <:+ q2.2.2 → Nb q1.2.2 p1.2.2 → ThB p1.2.2 p1.2.1 → KxD N Z M j p1 q2) : (AlB (okS C N T) q1.2.2 q2.2.2 ↔ SkB N Z T ms q1.1 q2.1) ∧ Nb q1.2.2 q2.2.2 ∧ q1.1 ≤ q2.1 ∧ ThB q2.2.2 q2.2.1 ∧ q1.2.1 ≤ q2.2.1 := by sorry
theorem ri_ty (hR : RwOk C N Z T ms M Rw) (H : HxD C Z ms M) (h : TyD Rw Z lv a j k t (cIy 20 0 0 t :: l) q) (K : KxD N Z M a (j, k, l) (q.1, q.2.1, cIy 45 c 0 t :: q.2.2)) : RsI C N Z T ms j (cIy 20 0 0 t :: l) q := by sorry
theorem ri_ju (H : HxD C Z ms M) (h : JuD N Z lv a j k t l q) (hj : j < snM Z) (ha : a < (j : Int)) : RsI C N Z T ms j l q := by sorry
theorem mty_c (H : HxD C Z ms M) {d : Nat} (hd : (d : Int) = M) : ∃ m, ms M.toNat = some m ∧ mtyT C d = m.2.1 := by sorry
theorem ri_gi (H : HxD C Z ms M) (h : GiD M Z lv a j k t l q) (hM : (mdZ l : Int) = M) : RsI C N Z T ms j l q := by sorry
end
/-! what each code asks is what its S asks: rows, switches, all S's -/
theorem itN_m {x : ItZ} : ∀ {l : List ItZ}, (∃ o, itN l o = some x) ↔ x ∈ l := by sorry
theorem sw_ap {k : Int} {l : List ItZ} : ∀ {t : List ItZ}, (∀ y, Sum.inr y ∈ t → y.1 = 37 → ¬ y.2.1 = k) → swZ k (t ++ l) = swZ k l := by sorry
theorem df_ap {k : Int} {l : List ItZ} : ∀ {t : List ItZ}, (∀ y, Sum.inr y ∈ t → y.1 = 39 → ¬ y.2.1 = k) → dfZ k (t ++ l) = dfZ k l := by sorry
/-- cases and defaults of switch k that stand ahead; its exp x -/
def CsX (Z : ZS) (k : Nat) (x : Int) (ahd : List Nat) (l : List ItZ) : Prop := swZ k l = x ∧ (∀ y, Sum.inr y ∈ l → y.1 = 38 → y.2.1 = (k : Int) → ∃ u ∈ ahd, kjS Z u = 62 ∧ xjS Z u = y.2.2.2.2) ∧ (∀ u ∈ ahd, kjS Z u = 62 → 0 ≤ xjS Z u ∧ ∃ y, Sum.inr y ∈ l ∧ y.1 = 38 ∧ y.2.1 = (k : Int) ∧ y.2.2.2.2 = xjS Z u) ∧ (dfZ k l < 0 ↔ ∀ u ∈ ahd, ¬ kjS Z u = 63)
theorem CsX.ap {Z : ZS} {k : Nat} {x : Int} {ahd : List Nat} {l t : List ItZ} (h : CsX Z k x ahd l) (g : ∀ y, Sum.inr y ∈ t → thO y.1 = true → ¬ y.2.1 = (k : Int)) : CsX Z k x ahd (t ++ l) := by sorry
theorem CsX.xs {Z : ZS} {k : Nat} {x : Int} {ahd : List Nat} {l l' : List ItZ} (h : CsX Z k x ahd l) (g : XsR l l') : CsX Z k x ahd l' := by sorry
theorem CsX.pg {Z : ZS} {k : Nat} {x : Int} {ahd : List Nat} {p q : Ps} (h : CsX Z k x ahd p.2.2) (g : PgD (-1) p q) (hk : k < p.2.1) : CsX Z k x ahd q.2.2 := by sorry
/-- an S that is no case, no default -/
theorem CsX.no {Z : ZS} {k : Nat} {x : Int} {ahd : List Nat} {l : List ItZ} {j : Nat} (h : CsX Z k x ahd l) (h1 : ¬ kjS Z j = 62) (h2 : ¬ kjS Z j = 63) : CsX Z k x (ahd ++ [j]) l := by sorry
theorem CsX.cs {Z : ZS} {k : Nat} {x : Int} {ahd : List Nat} {l : List ItZ} {j : Nat} {b t e : Int} (h : CsX Z k x ahd l) (h1 : kjS Z j = 62) (h2 : xjS Z j = e) (h3 : 0 ≤ e) : CsX Z k x (ahd ++ [j]) (.inr (38, (k : Int), b, t, e) :: l) := by sorry
theorem CsX.df {Z : ZS} {k : Nat} {x : Int} {ahd : List Nat} {l : List ItZ} {j : Nat} {b t e : Int} (h : CsX Z k x ahd l) (h1 : kjS Z j = 63) : CsX Z k x (ahd ++ [j]) (.inr (39, (k : Int), b, t, e) :: l) := by sorry
section
variable {N : Int → Int} {Z : ZS} {T : TbT} {ms : MfT} {C : CxT} {M a lv : Int} {k : Nat} {x ty : Int} {St : SsT}
def CnX (Z : ZS) (T : TbT) (ahd : List Nat) : Prop := ∀ u ∈ ahd, kjS Z u = 62 → ¬ (T.1 (xjS Z u).toNat).2.1 = 0
theorem cs_i {ahd : List Nat} {m : List ItZ} {j : Nat} {b t e : Int} (hx : CsX Z k x ahd m) (hc : CnX Z T ahd) (ht : (opT T x).1 = ty) (h2 : xjS Z j = e) (h3 : 0 ≤ e) : okS C N T m (38, (k : Int), b, t, e) ↔ csT' Z T ty ahd j := by sorry
theorem rw_sf (hS : StOk C N Z T ms M St) {sw : Int} : ∀ {L : List Nat} {p q : Ps}, RwD St Z lv sw k a L p q → p.2.2 <:+ q.2.2 ∧ p.1 ≤ q.1 ∧ p.2.1 ≤ q.2.1 := by sorry
/-- one part behind another -/
theorem KxD.nx {p p1 q : Ps} (K : KxD N Z M a p q) (nb : Nb p.2.2 p1.2.2) (h1 : p.1 ≤ p1.1) (th : ThB p1.2.2 p1.2.1) : KxD N Z M a p1 q := by sorry
theorem KxD.hd {p p1 q : Ps} (K : KxD N Z M a p q) (h : p1.2.2 <:+ q.2.2) (h1 : p1.1 ≤ q.1) : KxD N Z M a p p1 := ⟨h.trans K.1, Nat.le_trans h1 K.2.1, K.2.2⟩
theorem rw_nb (hS : StOk C N Z T ms M St) {sw : Int} : ∀ {L : List Nat} {p q : Ps}, RwD St Z lv sw k a L p q → KxD N Z M a p q → (sw = 1 → k < p.2.1) → Nb p.2.2 q.2.2 ∧ ThB q.2.2 q.2.1 := by sorry
theorem rw1_i (hS : StOk C N Z T ms M St) (hk : ∀ a p q, St a p q → ¬ kjS Z p.1 = 62 ∧ ¬ kjS Z p.1 = 63) (ht : (opT T x).1 = ty) : ∀ {L : List Nat} {p q : Ps} {ahd : List Nat}, RwD St Z lv 1 k a L p q → KxD N Z M a p q → k < p.2.1 → CsX Z k x ahd p.2.2 → CnX Z T ahd → (AlB (okS C N T) p.2.2 q.2.2 ↔ swT' Z T ty ahd L ∧ SkB N Z T ms p.1 q.1) := by sorry
theorem rw_rz (hS : StOk C N Z T ms M St) {sw : Int} : ∀ {L : List Nat} {p q : Ps}, RwD St Z lv sw k a L p q → q.1 ≤ snM Z → RwZ Z (hdI L) L := by sorry
theorem ri_sw (hS : StOk C N Z T ms M St) (hk : ∀ a p q, St a p q → ¬ kjS Z p.1 = 62 ∧ ¬ kjS Z p.1 = 63) (H : HxD C Z ms M) {lv' t c : Int} {j : Nat} {l : List ItZ} {q : Ps} (h : SwD (RwD St Z lv') Z lv a j k t (cIy 20 0 0 t :: l) q) (K : KxD N Z M a (j, k, l) (q.1, q.2.1, cIy 45 c 0 t :: q.2.2)) : RsI C N Z T ms j (cIy 20 0 0 t :: l) q := by sorry
end
/-! what each code asks is what its S asks: all S's, methods, the program -/
section
variable {N : Int → Int} {Z : ZS} {T : TbT} {ms : MfT} {C : CxT} {M : Int}
theorem PgD.tr {p q r : Ps} (h : PgD (-1) p q) (g : PgD (-1) q r) : PgD (-1) p r := by sorry
theorem PgD.rf {js : Int} {p : Ps} : PgD js p p := by sorry
theorem rw0_i {St : SsT} {lv : Int} (hS : StOk C N Z T ms M St) : RwOk C N Z T ms M (RwD St Z lv) := by sorry
theorem st_kd {n : Nat} {a : Int} {p q : Ps} (h : StD N M Z n a p q) : ¬ kjS Z p.1 = 62 ∧ ¬ kjS Z p.1 = 63 := by sorry
/-- every S -/
theorem ok_st (H : HxD C Z ms M) : ∀ n, StOk C N Z T ms M (StD N M Z n) := by sorry
end
/-- the program: every code is fine iff every S is -/
theorem ok_pr {N : Int → Int} {Z : ZS} {T : TbT} {ms : MfT} {C : CxT} {nm : Nat} (hp : ∀ i, i < snM Z → paS Z i < (i : Int)) (hm : ∀ k, k < nm → ∃ m, ms k = some m) (ht : ∀ i, i < snM Z → 0 ≤ thS Z i) (hc : C.2.2.2 = ms) : ∀ (L : List Nat) (M : Nat) (p q : Ps), PrD N Z L M p q → M + L.length ≤ nm → q.2.2 <:+ Z.2.1 → q.1 ≤ snM Z → mdZ p.2.2 = M → lbZ p.2.2 = [] → ThB p.2.2 p.2.1 →
    (p.2.2 <:+ q.2.2 ∧ p.1 ≤ q.1) ∧ (AlB (okS C N T) p.2.2 q.2.2 ↔ SkB N Z T ms p.1 q.1) := by sorry
/-! REACHED and SURELY assigned together, purely: what an S does with the bits it begins with -/
/-- a jump: the S that it leads to, whether by continue, whether it gets there, its bits -/
abbrev JmZ : Type := Int × Bool × Bool × Int64
/-- ends, bits behind it, jumps that leave it; of each S inside: bits ahead of it, whether it ends -/
abbrev ReG : Type := Bool × Int64 × List JmZ × List (Nat × Int64 × Bool)
def cmB (k : Int) (on : Bool) : List JmZ → Int64
  | [] => allB
  | x :: J => if x.1 = k ∧ x.2.1 = on then x.2.2.2 &&& cmB k on J else cmB k on J
def cmA (k : Int) (on : Bool) : List JmZ → Bool
  | [] => false
  | x :: J => if x.1 = k ∧ x.2.1 = on then x.2.2.1 || cmA k on J else cmA k on J
def cmR (k : Int) (on : Bool) : List JmZ → List JmZ
  | [] => []
  | x :: J => if x.1 = k ∧ x.2.1 = on then cmR k on J else x :: cmR k on J
/-- through a finally: whether it ends, its bits -/
def fnJ (e : Bool) (b : Int64) (x : JmZ) : JmZ := (x.1, x.2.1, x.2.2.1 && e, if e = true then x.2.2.2 ||| b else allB)
/-- an exp, or none: when true, when false -/
def exD (z : ZS) (T : TbT) (x : Int) (m : Int64) : Option (Int64 × Int64) := if (bxW z T x m (m, m, [], false)).2.2.2 = true then none else some ((bxW z T x m (m, m, [], false)).1, (bxW z T x m (m, m, [], false)).2.1)
/-- rows; rows of a switch (bits of its exp, alive, bits, default told); S's -/
abbrev DzT : Type := (Int → Bool → Int64 → Option ReG) × (Int → Int64 → Bool → Int64 → Bool → Option (Bool × ReG)) × (Nat → Bool → Int64 → Option ReG)
def apG (r s : ReG) : ReG := (s.1, s.2.1, r.2.2.1 ++ s.2.2.1, r.2.2.2 ++ s.2.2.2)
def bdD (F : DzT) (z : ZS) (j : Nat) (a : Bool) (m : Int64) : Option ReG := if bjS z j < 0 then none else F.2.2 (bjS z j).toNat a m
def rwD' (F : DzT) (z : ZS) (j : Nat) (m : Int64) : Option ReG := F.1 (bjS z j) true m
def xsD' (z : ZS) (T : TbT) (j : Nat) (m : Int64) : Option ReG := (exD z T (xjS z j) m).map (fun e => (true, e.1 &&& e.2, [], []))
def tdD (z : ZS) (T : TbT) (j : Nat) (m : Int64) : Option ReG := if xjS z j < 0 then some (true, m &&& (lkBz z j ^^^ allB), [], []) else (exD z T (xjS z j) (m &&& (lkBz z j ^^^ allB))).map (fun e => (true, (e.1 &&& e.2) ||| lkBz z j, [], []))
def giD' (z : ZS) (T : TbT) (j : Nat) (m : Int64) : Option ReG := (exD z T (xjS z j) m).map (fun _ => (false, allB, [], []))
def juD' (N : Int → Int) (z : ZS) (j : Nat) (m : Int64) : Option ReG := some (false, allB, [(tjT N z j, decide (kjS z j = 65), true, m)], [])
def laD' (F : DzT) (z : ZS) (j : Nat) (m : Int64) : Option ReG := (bdD F z j true m).map (fun r => (r.1 || cmA j false r.2.2.1, r.2.1 &&& cmB j false r.2.2.1, cmR j false r.2.2.1, r.2.2.2))
def ifD' (F : DzT) (z : ZS) (T : TbT) (j : Nat) (m : Int64) : Option ReG := (exD z T (xjS z j) m).bind (fun e => (bdD F z j true e.1).bind (fun r => if ojS z j < 0 then some (true, r.2.1 &&& e.2, r.2.2.1, r.2.2.2) else (F.2.2 (ojS z j).toNat true e.2).map (fun s => (s.1 || r.1, r.2.1 &&& s.2.1, r.2.2.1 ++ s.2.2.1, r.2.2.2 ++ s.2.2.2))))
def doD' (F : DzT) (z : ZS) (T : TbT) (j : Nat) (m : Int64) : Option ReG := (bdD F z j true m).bind (fun r => (exD z T (xjS z j) (r.2.1 &&& cmB j true r.2.2.1)).map (fun e => (((r.1 || cmA j true r.2.2.1) && !(alwT z T j 1)) || cmA j false r.2.2.1, e.2 &&& cmB j false r.2.2.1, cmR j false (cmR j true r.2.2.1), r.2.2.2)))
def whD' (F : DzT) (z : ZS) (T : TbT) (j : Nat) (m : Int64) : Option ReG := (if kjS z j = 60 then F.1 (ojS z j) true m else some (true, m, [], [])).bind (fun i => (exD z T (xjS z j) i.2.1).bind (fun e => (bdD F z j (!(alwT z T j 0)) e.1).bind (fun r => (if kjS z j = 60 then F.1 (gjS z j) true (r.2.1 &&& cmB j true r.2.2.1) else some (true, m, [], [])).map (fun u => (!(alwT z T j 1) || cmA j false r.2.2.1, (if xjS z j < 0 then allB else e.2) &&& cmB j false r.2.2.1, cmR j false (cmR j true r.2.2.1), r.2.2.2)))))
def swD' (F : DzT) (z : ZS) (T : TbT) (j : Nat) (m : Int64) : Option ReG := (exD z T (xjS z j) m).bind (fun e => (F.2.1 (bjS z j) (e.1 &&& e.2) false allB false).map (fun q => ((q.2.1 || !q.1) || cmA j false q.2.2.2.1, (if q.1 = true then q.2.2.1 else q.2.2.1 &&& (e.1 &&& e.2)) &&& cmB j false q.2.2.2.1, cmR j false q.2.2.2.1, q.2.2.2.2)))
/-- a block of try -/
def bkD' (F : DzT) (z : ZS) (x : Int) (m : Int64) : Option ReG := if x < 0 then none else F.1 (bjS z x.toNat) true m
def tyD' (F : DzT) (z : ZS) (j : Nat) (m : Int64) : Option ReG := (bkD' F z (bjS z j) m).bind (fun a => (if ojS z j < 0 then some a else (bkD' F z (ojS z j) (if ljS z j < 0 then m else m ||| bitQ (ljS z j))).map (fun b => (a.1 || b.1, a.2.1 &&& b.2.1, a.2.2.1 ++ b.2.2.1, a.2.2.2 ++ b.2.2.2))).bind (fun c => if gjS z j < 0 then some c else (bkD' F z (gjS z j) m).map (fun d => (c.1 && d.1, c.2.1 ||| d.2.1, c.2.2.1.map (fnJ d.1 d.2.1) ++ d.2.2.1, c.2.2.2 ++ d.2.2.2))))
def inD' (F : DzT) (N : Int → Int) (z : ZS) (T : TbT) (j : Nat) (m : Int64) : Option ReG :=
  if kjS z j = 2 then rwD' F z j m
  else if kjS z j = 91 ∨ kjS z j = 93 then tdD z T j m
  else if kjS z j = 90 ∨ kjS z j = 94 then xsD' z T j m
  else if kjS z j = 66 ∨ kjS z j = 67 then giD' z T j m
  else if kjS z j = 64 ∨ kjS z j = 65 then juD' N z j m
  else if kjS z j = 6 then laD' F z j m
  else if kjS z j = 56 then ifD' F z T j m
  else if kjS z j = 59 then doD' F z T j m
  else if kjS z j = 58 ∨ kjS z j = 60 then whD' F z T j m
  else if kjS z j = 61 then swD' F z T j m
  else if kjS z j = 68 then tyD' F z j m
  else some (true, m, [], [])
def stD' (F : DzT) (N : Int → Int) (z : ZS) (T : TbT) (j : Nat) (a : Bool) (m : Int64) : Option ReG := if a = true then (inD' F N z T j m).map (fun r => (r.1, r.2.1, r.2.2.1, (j, m, r.1) :: r.2.2.2)) else none
def dF (N : Int → Int) (z : ZS) (T : TbT) : Nat → DzT
  | 0 => (fun _ a m => some (a, m, [], []), fun _ _ a m d => some (d, a, m, [], []), fun _ a m => some (a, m, [], []))
  | n + 1 => (fun x a m => if x < 0 then some (a, m, [], []) else ((dF N z T n).2.2 x.toNat a m).bind (fun r => ((dF N z T n).1 (njS z x.toNat) r.1 r.2.1).map (apG r)),
      fun x ch a m d => if x < 0 then some (d, a, m, [], []) else if kjS z x.toNat = 62 ∨ kjS z x.toNat = 63 then (dF N z T n).2.1 (njS z x.toNat) ch true (m &&& ch) (d || decide (kjS z x.toNat = 63)) else ((dF N z T n).2.2 x.toNat a m).bind (fun r => ((dF N z T n).2.1 (njS z x.toNat) ch r.1 r.2.1 d).map (fun s => (s.1, apG r s.2))),
      stD' (dF N z T n) N z T)
section
variable {N : Int → Int} {z : ZS} {T : TbT} {n j : Nat} {m ch : Int64} {a d : Bool} {x : Int}
theorem d_st : (dF N z T (n + 1)).2.2 = stD' (dF N z T n) N z T := rfl
theorem d_r0 (h : x < 0) : (dF N z T n).1 x a m = some (a, m, [], []) := by sorry
theorem d_r1 : (dF N z T (n + 1)).1 (j : Int) a m = ((dF N z T n).2.2 j a m).bind (fun r => ((dF N z T n).1 (njS z j) r.1 r.2.1).map (apG r)) := by sorry
theorem d_s0 (h : x < 0) : (dF N z T n).2.1 x ch a m d = some (d, a, m, [], []) := by sorry
theorem d_s1 (h : kjS z j = 62 ∨ kjS z j = 63) : (dF N z T (n + 1)).2.1 (j : Int) ch a m d = (dF N z T n).2.1 (njS z j) ch true (m &&& ch) (d || decide (kjS z j = 63)) := by sorry
theorem d_s2 (h : ¬ (kjS z j = 62 ∨ kjS z j = 63)) : (dF N z T (n + 1)).2.1 (j : Int) ch a m d = ((dF N z T n).2.2 j a m).bind (fun r => ((dF N z T n).2.1 (njS z j) ch r.1 r.2.1 d).map (fun s => (s.1, apG r s.2))) := by sorry
theorem d_f : stD' (dF N z T n) N z T j false m = none := if_neg (by decide)
theorem d_t : stD' (dF N z T n) N z T j true m = (inD' (dF N z T n) N z T j m).map (fun r => (r.1, r.2.1, r.2.2.1, (j, m, r.1) :: r.2.2.2)) := if_pos rfl
variable {F : DzT}
theorem i_2 (h : kjS z j = 2) : inD' F N z T j m = rwD' F z j m := by sorry
theorem i_91 (h : kjS z j = 91 ∨ kjS z j = 93) : inD' F N z T j m = tdD z T j m := by sorry
theorem i_90 (h : kjS z j = 90 ∨ kjS z j = 94) : inD' F N z T j m = xsD' z T j m := by sorry
theorem i_66 (h : kjS z j = 66 ∨ kjS z j = 67) : inD' F N z T j m = giD' z T j m := by sorry
theorem i_64 (h : kjS z j = 64 ∨ kjS z j = 65) : inD' F N z T j m = juD' N z j m := by sorry
theorem i_6 (h : kjS z j = 6) : inD' F N z T j m = laD' F z j m := by sorry
theorem i_56 (h : kjS z j = 56) : inD' F N z T j m = ifD' F z T j m := by sorry
theorem i_59 (h : kjS z j = 59) : inD' F N z T j m = doD' F z T j m := by sorry
theorem i_58 (h : kjS z j = 58 ∨ kjS z j = 60) : inD' F N z T j m = whD' F z T j m := by sorry
theorem i_61 (h : kjS z j = 61) : inD' F N z T j m = swD' F z T j m := by sorry
theorem i_68 (h : kjS z j = 68) : inD' F N z T j m = tyD' F z j m := by sorry
theorem i_4 (h : kjS z j = 4) : inD' F N z T j m = some (true, m, [], []) := by sorry
end
/-! jumps, together -/
section
variable {k i : Int} {on o : Bool}
theorem cmA_ap {J K : List JmZ} : cmA k on (J ++ K) = (cmA k on J || cmA k on K) := by sorry
theorem cmA_ne {J : List JmZ} (h : ¬ (i = k ∧ o = on)) : cmA i o (cmR k on J) = cmA i o J := by sorry
theorem cmA_fn {e : Bool} {b : Int64} {J : List JmZ} : cmA k on (J.map (fnJ e b)) = (cmA k on J && e) := by sorry
end
/-! REACHED, as the class goes, is what the function of y20 says: pieces -/
/-- finallys on the way from x outwards lie at hi or behind it -/
def FaC (z : ZS) (hi : Nat) : Nat → Int → Prop
  | 0, _ => True
  | k + 1, x => x < 0 ∨ ((hfA z x.toNat = true → (hi : Int) ≤ gjS z (paS z x.toNat).toNat) ∧ FaC z hi k (paS z x.toNat))
section
variable {z : ZS} {hi : Nat} {en en' : Nat → Bool} {tg : Int}
theorem FaC.mo {lo : Nat} (h : lo ≤ hi) : ∀ {k : Nat} {x : Int}, FaC z hi k x → FaC z lo k x := by sorry
theorem fac_in {j : Nat} {a : Int} (hk : ¬ kjS z j = 92) (hpa : paS z j = a) (h : ∀ k, FaC z hi k a) : ∀ k, FaC z hi k (j : Int) := by sorry
theorem fac_bk {j : Nat} {a : Int} (hpa : paS z j = a) (hg : 0 ≤ gjS z a.toNat → ¬ gjS z a.toNat = (j : Int) → (hi : Int) ≤ gjS z a.toNat) (h : ∀ k, FaC z hi k a) : ∀ k, FaC z hi k (j : Int) := by sorry
theorem mt_ag (he : ∀ i, hi ≤ i → en' i = en i) : ∀ {k : Nat} {x : Int}, FaC z hi k x → mtF z en' tg k x = mtF z en tg k x := by sorry
theorem mt_fu (hp : ∀ i, i < snM z → paS z i < (i : Int)) : ∀ (k k' : Nat) (x : Int), x < (k : Int) → x < (k' : Int) → x < (snM z : Int) → mtF z en tg k x = mtF z en tg k' x := by sorry
/-- whether a jump gets from x to where it leads -/
def mtP (z : ZS) (en : Nat → Bool) (tg x : Int) : Bool := mtF z en tg (snM z) x
theorem mtp_s (hp : ∀ i, i < snM z → paS z i < (i : Int)) {j : Nat} (hj : j < snM z) (h : ¬ (j : Int) = tg) : mtP z en tg (j : Int) = if (hfA z j && !(en (gjS z (paS z j).toNat).toNat)) = true then false else mtP z en tg (paS z j) := by sorry
theorem mtp_e : mtP z en tg tg = true := mt_eq rfl
theorem mtp_in (hp : ∀ i, i < snM z → paS z i < (i : Int)) {j : Nat} (hj : j < snM z) (h : ¬ (j : Int) = tg) (hk : ¬ kjS z j = 92) : mtP z en tg (j : Int) = mtP z en tg (paS z j) := by sorry
end
/-- between: which ends, jumps' targets change (only S's from lo on, below hi, but for where jumps lead to) -/
def UrD (z : ZS) (a : Int) (lo hi : Nat) (r r' : RR) (J : List JmZ) : Prop := (∀ i, ¬ (lo ≤ i ∧ i < hi) → r'.1 i = r.1 i) ∧ (∀ i, hi ≤ i → r'.2.1 i = r.2.1 i ∧ r'.2.2.1 i = r.2.2.1 i) ∧ (∀ i : Nat, i < lo → r'.2.1 i = (r.2.1 i || (cmA i false J && mtP z r.1 i a)) ∧ r'.2.2.1 i = (r.2.2.1 i || (cmA i true J && mtP z r.1 i a))) ∧ r'.2.2.2 = r.2.2.2
section
variable {z : ZS} {a : Int} {lo hi : Nat} {r r1 r2 : RR} {J K : List JmZ}
theorem UrD.rf : UrD z a lo hi r r [] := by sorry
theorem UrD.wd {lo' hi' : Nat} (h : UrD z a lo' hi' r r1 J) (h1 : lo ≤ lo') (h2 : hi' ≤ hi) : UrD z a lo hi r r1 J := by sorry
theorem UrD.tr (h : UrD z a lo hi r r1 J) (g : UrD z a lo hi r1 r2 K) (hf : ∀ k, FaC z hi k a) : UrD z a lo hi r r2 (J ++ K) := by sorry
/-- out of an S that is no block of try -/
theorem UrD.up {j : Nat} {e : Bool} (hp : ∀ i, i < snM z → paS z i < (i : Int)) (h : UrD z (j : Int) lo hi r r1 J) (hl : j < lo) (hh : lo ≤ hi) (hj : j < snM z) (hk : ¬ kjS z j = 92) (hpa : paS z j = a) (hJ : ∀ (i : Nat) (o : Bool), i < j → cmA i o K = cmA i o J) : UrD z a j hi r (rrE j e r1) K := by sorry
theorem UrD.ee {j : Nat} {e : Bool} (h : UrD z a lo hi r r1 J) (hj : lo ≤ j) (hj2 : j < hi) : UrD z a lo hi r (rrE j e r1) J := by sorry
/-- out of a block of try; en: whether what leaves it gets through the finally -/
theorem UrD.bk {j t : Nat} {e en : Bool} (hp : ∀ i, i < snM z → paS z i < (i : Int)) (h : UrD z (t : Int) lo hi r r1 J) (hl : t < lo) (hh : lo ≤ hi) (ht : t < snM z) (hpa : paS z t = (j : Int)) (hj : j < t) (hen : (hfA z t && !(r.1 (gjS z j).toNat)) = !en) (hJ : ∀ (i : Nat) (o : Bool), cmA i o K = (cmA i o J && en)) : UrD z (j : Int) (j + 1) hi r (rrE t e r1) K := by sorry
end
/-- S's whose ends, bits ahead are asked for -/
def StK (z : ZS) (i : Nat) : Prop := ¬ kjS z i = 92 ∧ ¬ kjS z i = 93 ∧ ¬ kjS z i = 94
def LgR (z : ZS) (lo hi : Nat) (r : RR) (G : List (Nat × Int64 × Bool)) : Prop := ∀ x ∈ G, (lo ≤ x.1 ∧ x.1 < hi) ∧ (StK z x.1 → r.1 x.1 = x.2.2)
def FrR (lo hi : Nat) (r : RR) : Prop := ∀ i, lo ≤ i → i < hi → r.2.1 i = false ∧ r.2.2.1 i = false
section
variable {z : ZS} {a : Int} {lo hi mi : Nat} {r r1 r2 : RR} {J : List JmZ} {G H : List (Nat × Int64 × Bool)}
theorem LgR.nil : LgR z lo hi r [] := fun _ h => absurd h List.not_mem_nil
theorem LgR.wd {lo' hi' : Nat} (h : LgR z lo' hi' r G) (h1 : lo ≤ lo') (h2 : hi' ≤ hi) : LgR z lo hi r G := fun x q => ⟨by have := (h x q).1; omega, (h x q).2⟩
theorem LgR.fr {lo' hi' : Nat} (h : LgR z lo' hi' r G) (e : ∀ i, lo' ≤ i → i < hi' → r1.1 i = r.1 i) : LgR z lo' hi' r1 G := by sorry
theorem LgR.ap (h : LgR z lo hi r G) (g : LgR z lo hi r H) : LgR z lo hi r (G ++ H) := fun x q => (List.mem_append.mp q).elim (h x) (g x)
theorem LgR.co {j : Nat} {e : Bool} {m : Int64} (h : LgR z (j + 1) hi r G) (hj : j < hi) : LgR z j hi (rrE j e r) ((j, m, e) :: G) := by sorry
theorem FrR.wd {lo' hi' : Nat} (h : FrR lo hi r) (h1 : lo ≤ lo') (h2 : hi' ≤ hi) : FrR lo' hi' r := fun i a b => h i (by omega) (by omega)
theorem FrR.nx {hi' : Nat} (h : FrR lo hi' r) (g : UrD z a lo hi r r1 J) (q : lo ≤ hi) : FrR hi hi' r1 := by sorry
theorem FrR.e {j : Nat} {e : Bool} (h : FrR lo hi r) : FrR lo hi (rrE j e r) := h
end
/-! REACHED, as the class goes, is what the function of y20 says: by kinds -/
def KrD (z : ZS) (a : Int) (j hi : Nat) : Prop := hi ≤ snM z ∧ a < (j : Int) ∧ j < hi ∧ (∀ k, FaC z hi k a) ∧ ∀ i, i < snM z → paS z i < (i : Int)
def RcO (N : Int → Int) (z : ZS) (T : TbT) (a : Int) (lo hi : Nat) (r : RR) (R : ReG) (o : Bool × RR) : Prop := o.1 = R.1 ∧ UrD z a lo hi r o.2 R.2.2.1 ∧ LgR z lo hi o.2 R.2.2.2
abbrev RcSo (N : Int → Int) (z : ZS) (T : TbT) (St : SsT) : Prop := ∀ a p q, St a p q → p.1 < q.1 ∧ ∀ (f : Nat) (r : RR) (m : Int64) (R : ReG), 2 * (q.1 - p.1) ≤ f + 1 → KrD z a p.1 q.1 → FrR p.1 q.1 r → (dF N z T f).2.2 p.1 true m = some R → RcO N z T a p.1 q.1 r R ((rcF N z T f).2.2 p.1 true r)
def KrW (z : ZS) (a : Int) (j hi : Nat) : Prop := hi ≤ snM z ∧ a < (j : Int) ∧ (∀ k, FaC z hi k a) ∧ ∀ i, i < snM z → paS z i < (i : Int)
abbrev RcRo (N : Int → Int) (z : ZS) (T : TbT) (Rw : RsT) : Prop := ∀ a L p q, Rw 0 0 a L p q → p.1 ≤ q.1 ∧ ∀ (f : Nat) (r : RR) (al : Bool) (m : Int64) (R : ReG), 2 * (q.1 - p.1) ≤ f → KrW z a p.1 q.1 → FrR p.1 q.1 r → (dF N z T f).1 (hdI L) al m = some R → RcO N z T a p.1 q.1 r R ((rcF N z T f).1 (hdI L) al r)
/-- inside of an S -/
def RcI (N : Int → Int) (z : ZS) (T : TbT) (a : Int) (j hi : Nat) : Prop := ∀ (f : Nat) (r : RR) (m : Int64) (R : ReG), 2 * (hi - j) ≤ f + 2 → KrD z a j hi → FrR j hi r → inD' (dF N z T f) N z T j m = some R → (inR (rcF N z T f) N z T j r).1 = R.1 ∧ UrD z a j hi r (rrE j R.1 (inR (rcF N z T f) N z T j r).2) R.2.2.1 ∧ LgR z (j + 1) hi (inR (rcF N z T f) N z T j r).2 R.2.2.2
section
variable {N : Int → Int} {z : ZS} {T : TbT} {a lv t : Int} {j k : Nat} {l : List ItZ} {q : Ps} {St : SsT} {Rw : RsT}
theorem KrD.w {hi : Nat} (K : KrD z a j hi) : KrW z a j hi := ⟨K.1, K.2.1, K.2.2.2⟩
theorem KrD.in_ {hi lo hi' : Nat} (K : KrD z a j hi) (hk : ¬ kjS z j = 92) (hpa : paS z j = a) (h1 : j < lo) (h2 : hi' ≤ hi) (h3 : lo < hi') : KrD z (j : Int) lo hi' := by sorry
theorem KrD.iw {hi lo hi' : Nat} (K : KrD z a j hi) (hk : ¬ kjS z j = 92) (hpa : paS z j = a) (h1 : j < lo) (h2 : hi' ≤ hi) : KrW z (j : Int) lo hi' := by sorry
theorem rrE_2 {e : Bool} {r : RR} : rrE j e (rrE j e r) = rrE j e r := by sorry
theorem ur_leaf {r : RR} {e : Bool} {hi : Nat} (h : j < hi) : UrD z a j hi r (rrE j e r) [] := UrD.ee UrD.rf (Nat.le_refl _) h
theorem omap {α β : Type} {o : Option α} {f : α → β} {y : β} (h : o.map f = some y) : ∃ x, o = some x ∧ f x = y := Option.map_eq_some_iff.mp h
theorem obind {α β : Type} {o : Option α} {f : α → Option β} {y : β} (h : o.bind f = some y) : ∃ x, o = some x ∧ f x = some y := Option.bind_eq_some_iff.mp h
/-- S's that neither lead anywhere nor hold others -/
theorem rc_lf (hk : kjS z j = 90 ∨ kjS z j = 94 ∨ kjS z j = 91 ∨ kjS z j = 93 ∨ kjS z j = 4 ∨ kjS z j = 66 ∨ kjS z j = 67) : RcI N z T a j (j + 1) := by sorry
theorem rc_ju (hk : kjS z j = 64 ∨ kjS z j = 65) (hpa : paS z j = a) (ht : tjT N z j ≤ (j : Int)) : RcI N z T a j (j + 1) := by sorry
theorem rc_bl (hR : RcRo N z T Rw) {L : List Nat} {p : Nat × List ItZ} (hr : Rw 0 0 j L (j + 1, p) q) (hk : kjS z j = 2) (hpa : paS z j = a) (hb : bjS z j = hdI L) : RcI N z T a j q.1 := by sorry
theorem bdR_e {F : RcT} {b : Nat} {al : Bool} {r : RR} (h : bjS z j = (b : Int)) : bdR F z j al r = F.2.2 b al r := by sorry
theorem bdD_e {F : DzT} {b : Nat} {al : Bool} {m : Int64} (h : bjS z j = (b : Int)) : bdD F z j al m = F.2.2 b al m := by sorry
/-- a jump to j itself: gets there -/
theorem ur_j {lo hi : Nat} {r r1 : RR} {J : List JmZ} (h : UrD z (j : Int) lo hi r r1 J) (hl : j < lo) (hF : r.2.1 j = false ∧ r.2.2.1 j = false) : r1.2.1 j = cmA j false J ∧ r1.2.2.1 j = cmA j true J := by sorry
theorem rc_la (hS : RcSo N z T St) {p : Nat × List ItZ} {q1 : Ps} (hs : St j (j + 1, p) q1) (hk : kjS z j = 6) (hpa : paS z j = a) (hb : bjS z j = ((j + 1 : Nat) : Int)) : RcI N z T a j q1.1 := by sorry
theorem rc_if1 (hS : RcSo N z T St) {p : Nat × List ItZ} {q1 : Ps} (hs : St j (j + 1, p) q1) (hk : kjS z j = 56) (hpa : paS z j = a) (hb : bjS z j = ((j + 1 : Nat) : Int)) (ho : ojS z j = -1) : RcI N z T a j q1.1 := by sorry
theorem rc_if2 (hS : RcSo N z T St) {p : Nat × List ItZ} {q1 q2 : Ps} {p2 : Nat × List ItZ} (hs : St j (j + 1, p) q1) (hs2 : St j (q1.1, p2) q2) (hk : kjS z j = 56) (hpa : paS z j = a) (hb : bjS z j = ((j + 1 : Nat) : Int)) (ho : ojS z j = (q1.1 : Int)) : RcI N z T a j q2.1 := by sorry
end
/-! REACHED, as the class goes, is what the function of y20 says: loops, switch, try; all S's -/
theorem d_fa {N : Int → Int} {z : ZS} {T : TbT} {f j : Nat} {m : Int64} (h : 1 ≤ f) : (dF N z T f).2.2 j false m = none := by sorry
section
variable {N : Int → Int} {z : ZS} {T : TbT} {a lv t : Int} {j k : Nat} {l : List ItZ} {q : Ps} {St : SsT} {Rw : RsT}
theorem UrD.cg {lo hi : Nat} {r r1 : RR} {J K : List JmZ} (h : UrD z a lo hi r r1 J) (e : ∀ (i : Nat) (o : Bool), i < lo → cmA i o K = cmA i o J) : UrD z a lo hi r r1 K := by sorry
theorem rc_wh (hS : RcSo N z T St) {b : Nat} {p : Nat × List ItZ} {q1 : Ps} (hs : St j (b, p) q1) (hjb : j < b) (hk : kjS z j = 58 ∨ kjS z j = 60) (hpa : paS z j = a) (hb : bjS z j = (b : Int)) : RcI N z T a j q1.1 := by sorry
theorem rc_do (hS : RcSo N z T St) {p : Nat × List ItZ} {q1 : Ps} (hs : St j (j + 1, p) q1) (hk : kjS z j = 59) (hpa : paS z j = a) (hb : bjS z j = ((j + 1 : Nat) : Int)) : RcI N z T a j q1.1 := by sorry
theorem KrW.hd {lo hi hi' : Nat} (K : KrW z a lo hi) (h : hi' ≤ hi) (h2 : lo < hi') : KrD z a lo hi' := by sorry
theorem KrW.nx {lo lo' hi : Nat} (K : KrW z a lo hi) (h : lo ≤ lo') : KrW z a lo' hi := ⟨K.1, by have := K.2.1; omega, K.2.2⟩
/-- rows -/
theorem rc_row (hS : RcSo N z T St) : RcRo N z T (RwD St z lv) := by sorry
/-- rows of a switch -/
theorem rc_srow (hS : RcSo N z T St) (hkd : ∀ a p q, St a p q → ¬ kjS z p.1 = 62 ∧ ¬ kjS z p.1 = 63) : ∀ (L : List Nat) (p q : Ps), RwD St z lv 1 k a L p q → p.1 ≤ q.1 ∧ ∀ (f : Nat) (r : RR) (al d : Bool) (m ch : Int64) (R : Bool × ReG), 2 * (q.1 - p.1) ≤ f → KrW z a p.1 q.1 → FrR p.1 q.1 r → (dF N z T f).2.1 (hdI L) ch al m d = some R → ((rcF N z T f).2.1 (hdI L) al d r).1 = R.2.1 ∧ ((rcF N z T f).2.1 (hdI L) al d r).2.1 = R.1 ∧ UrD z a p.1 q.1 r ((rcF N z T f).2.1 (hdI L) al d r).2.2 R.2.2.2.1 ∧ LgR z p.1 q.1 ((rcF N z T f).2.1 (hdI L) al d r).2.2 R.2.2.2.2 := by sorry
theorem rc_sw (hS : RcSo N z T St) (hkd : ∀ a p q, St a p q → ¬ kjS z p.1 = 62 ∧ ¬ kjS z p.1 = 63) {L : List Nat} {p : Nat × List ItZ} {q1 : Ps} (hr : RwD St z lv 1 k j L (j + 1, p) q1) (hk : kjS z j = 61) (hpa : paS z j = a) (hb : bjS z j = hdI L) : RcI N z T a j q1.1 := by sorry
end
/-! jumps lead to S's around -/
abbrev LpK (k : Int) : Prop := k = 58 ∨ k = 59 ∨ k = 60
def ChO (z : ZS) (on : Bool) : Nat → Int → Int → Prop
  | 0, _, _ => False
  | k + 1, a, x => 0 ≤ a ∧ ((x = a ∧ (LpK (kjS z a.toNat) ∨ (on = false ∧ (kjS z a.toNat = 61 ∨ kjS z a.toNat = 6)))) ∨ (x = a + 1 ∧ kjS z a.toNat = 6 ∧ on = true ∧ LpK (kjS z (a.toNat + 1))) ∨ ChO z on k (paS z a.toNat) x)
def JtO (z : ZS) (a : Int) (J : List JmZ) : Prop := ∀ x ∈ J, x.1 < 0 ∨ ∃ k, ChO z x.2.1 k a x.1
section
variable {N : Int → Int} {z : ZS} {T : TbT} {a lv t : Int} {j : Nat} {J K : List JmZ}
theorem tg_ch {on : Bool} {lk : Int} : ∀ (k : Nat) (x : Int), tgZ N z.2.2.1.2 on lk k x < 0 ∨ ChO z on k x (tgZ N z.2.2.1.2 on lk k x) := by sorry
theorem JtO.nil : JtO z a [] := fun _ h => absurd h List.not_mem_nil
theorem JtO.ap (h : JtO z a J) (g : JtO z a K) : JtO z a (J ++ K) := fun x q => (List.mem_append.mp q).elim (h x) (g x)
theorem cmR_m {k : Int} {on : Bool} {x : JmZ} : ∀ {J : List JmZ}, x ∈ cmR k on J → x ∈ J ∧ ¬ (x.1 = k ∧ x.2.1 = on) := by sorry
/-- out of an S -/
theorem jt_up (h : JtO z (j : Int) J) (hpa : paS z j = a) (hK : ∀ x ∈ K, x ∈ J ∧ ¬ x.1 = (j : Int) ∧ (kjS z j = 6 → ¬ x.1 = (j : Int) + 1)) : JtO z a K := by sorry
theorem ch_le (hp : ∀ i, i < snM z → paS z i < (i : Int)) {on : Bool} : ∀ {k : Nat} {a x : Int}, ChO z on k a x → a < (snM z : Int) → x ≤ a + 1 ∧ (x = a + 1 → LpK (kjS z (a.toNat + 1))) := by sorry
/-- no jump from around leads to an S that is no loop -/
theorem ch_ne (hp : ∀ i, i < snM z → paS z i < (i : Int)) {on : Bool} {k : Nat} (h : ChO z on k a (j : Int)) (ha : a < (j : Int)) (hj : j < snM z) : LpK (kjS z j) := by sorry
/-- jumps inside an S that lead to it -/
theorem jt_self (hp : ∀ i, i < snM z → paS z i < (i : Int)) (h : JtO z (j : Int) J) (hj : j < snM z) {x : JmZ} (hx : x ∈ J) (e : x.1 = (j : Int)) : LpK (kjS z j) ∨ (x.2.1 = false ∧ (kjS z j = 61 ∨ kjS z j = 6)) := by sorry
/-- from an S that no jump leads to: outwards -/
theorem jt_out (h : JtO z (j : Int) J) (hk : ¬ (LpK (kjS z j) ∨ kjS z j = 61 ∨ kjS z j = 6)) (hpa : paS z j = a) : JtO z a J := by sorry
end
/-- no jump of an S leads to itself -/
def JtS (z : ZS) (a : Int) (j : Nat) (J : List JmZ) : Prop := JtO z a J ∧ ∀ x ∈ J, ¬ x.1 = (j : Int)
abbrev JtSo (N : Int → Int) (z : ZS) (T : TbT) (St : SsT) : Prop := ∀ a p q, St a p q → p.1 < q.1 ∧ ∀ (f : Nat) (m : Int64) (R : ReG), 2 * (q.1 - p.1) ≤ f + 1 → a < (p.1 : Int) → q.1 ≤ snM z → (dF N z T f).2.2 p.1 true m = some R → JtS z a p.1 R.2.2.1
abbrev JtRo (N : Int → Int) (z : ZS) (T : TbT) (Rw : RsT) : Prop := ∀ sw k a L p q, Rw sw k a L p q → p.1 ≤ q.1 ∧ ∀ (f : Nat) (al : Bool) (m : Int64), 2 * (q.1 - p.1) ≤ f → a < (p.1 : Int) → q.1 ≤ snM z → (sw = 0 → ∀ R : ReG, (dF N z T f).1 (hdI L) al m = some R → JtO z a R.2.2.1) ∧ (sw = 1 → ∀ (ch : Int64) (d : Bool) (R : Bool × ReG), (dF N z T f).2.1 (hdI L) ch al m d = some R → JtO z a R.2.2.2.1)
def JtI (N : Int → Int) (z : ZS) (T : TbT) (a : Int) (j hi : Nat) : Prop := ∀ (f : Nat) (m : Int64) (R : ReG), 2 * (hi - j) ≤ f + 2 → a < (j : Int) → hi ≤ snM z → inD' (dF N z T f) N z T j m = some R → JtS z a j R.2.2.1
section
variable {N : Int → Int} {z : ZS} {T : TbT} {a lv t : Int} {j k : Nat} {q : Ps} {St : SsT} {Rw : RsT}
theorem bkD_e {F : DzT} {b : Nat} {x : Int} {m : Int64} (h : x = (b : Int)) : bkD' F z x m = F.1 (bjS z b) true m := by sorry
theorem jts_nil : JtS z a j [] := ⟨JtO.nil, fun _ h => absurd h List.not_mem_nil⟩
theorem jt_lf {hi : Nat} (hk : kjS z j = 90 ∨ kjS z j = 94 ∨ kjS z j = 91 ∨ kjS z j = 93 ∨ kjS z j = 4 ∨ kjS z j = 66 ∨ kjS z j = 67) : JtI N z T a j hi := by sorry
theorem jt_ju {hi : Nat} (hk : kjS z j = 64 ∨ kjS z j = 65) (hpa : paS z j = a) (hp : ∀ i, i < snM z → paS z i < (i : Int)) (hj : j < hi) : JtI N z T a j hi := by sorry
theorem jts_pl (hp : ∀ i, i < snM z → paS z i < (i : Int)) {J : List JmZ} (h : JtO z (j : Int) J) (hj : j < snM z) (hk : ¬ (LpK (kjS z j) ∨ kjS z j = 61 ∨ kjS z j = 6)) (hpa : paS z j = a) : JtS z a j J := by sorry
theorem jt_bl (hp : ∀ i, i < snM z → paS z i < (i : Int)) (hR : JtRo N z T Rw) {L : List Nat} {p : Nat × List ItZ} (hr : Rw 0 0 j L (j + 1, p) q) (hk : kjS z j = 2) (hpa : paS z j = a) (hb : bjS z j = hdI L) : JtI N z T a j q.1 := by sorry
theorem jt_la (hp : ∀ i, i < snM z → paS z i < (i : Int)) (hS : JtSo N z T St) {p : Nat × List ItZ} {q1 : Ps} (hs : St j (j + 1, p) q1) (hk : kjS z j = 6) (hpa : paS z j = a) (hb : bjS z j = ((j + 1 : Nat) : Int)) : JtI N z T a j q1.1 := by sorry
theorem jt_if1 (hp : ∀ i, i < snM z → paS z i < (i : Int)) (hS : JtSo N z T St) {p : Nat × List ItZ} {q1 : Ps} (hs : St j (j + 1, p) q1) (hk : kjS z j = 56) (hpa : paS z j = a) (hb : bjS z j = ((j + 1 : Nat) : Int)) (ho : ojS z j = -1) : JtI N z T a j q1.1 := by sorry
theorem jt_if2 (hp : ∀ i, i < snM z → paS z i < (i : Int)) (hS : JtSo N z T St) {p : Nat × List ItZ} {q1 q2 : Ps} {p2 : Nat × List ItZ} (hs : St j (j + 1, p) q1) (hs2 : St j (q1.1, p2) q2) (hk : kjS z j = 56) (hpa : paS z j = a) (hb : bjS z j = ((j + 1 : Nat) : Int)) (ho : ojS z j = (q1.1 : Int)) : JtI N z T a j q2.1 := by sorry
theorem jts_lp {J : List JmZ} (h : JtO z (j : Int) J) (hk : LpK (kjS z j)) (hpa : paS z j = a) : JtS z a j (cmR j false (cmR j true J)) := by sorry
theorem jt_wh (hS : JtSo N z T St) {b : Nat} {p : Nat × List ItZ} {q1 : Ps} (hs : St j (b, p) q1) (hjb : j < b) (hk : kjS z j = 58 ∨ kjS z j = 60) (hpa : paS z j = a) (hb : bjS z j = (b : Int)) : JtI N z T a j q1.1 := by sorry
theorem jt_do (hS : JtSo N z T St) {p : Nat × List ItZ} {q1 : Ps} (hs : St j (j + 1, p) q1) (hk : kjS z j = 59) (hpa : paS z j = a) (hb : bjS z j = ((j + 1 : Nat) : Int)) : JtI N z T a j q1.1 := by sorry
theorem jt_row (hS : JtSo N z T St) (hkd : ∀ a p q, St a p q → ¬ kjS z p.1 = 62 ∧ ¬ kjS z p.1 = 63) : JtRo N z T (RwD St z lv) := by sorry
theorem jt_sw (hp : ∀ i, i < snM z → paS z i < (i : Int)) (hR : JtRo N z T Rw) {L : List Nat} {p : Nat × List ItZ} {q1 : Ps} (hr : Rw 1 k j L (j + 1, p) q1) (hk : kjS z j = 61) (hpa : paS z j = a) (hb : bjS z j = hdI L) : JtI N z T a j q1.1 := by sorry
theorem jt_fn {J : List JmZ} {e : Bool} {b : Int64} (h : JtO z a J) : JtO z a (J.map (fnJ e b)) := by sorry
theorem jt_bk (hR : JtRo N z T Rw) {p q : Ps} (hB : BkD Rw z lv (j : Int) p q) {f : Nat} {m : Int64} {R : ReG} (hf : 2 * (q.1 - p.1) ≤ f + 2) (hz : q.1 ≤ snM z) (h : (dF N z T f).1 (bjS z p.1) true m = some R) : JtO z (j : Int) R.2.2.1 ∧ p.1 < q.1 := by sorry
theorem jt_ty (hp : ∀ i, i < snM z → paS z i < (i : Int)) (hR : JtRo N z T Rw) {p : Nat × List ItZ} {q1 q2 q3 : Ps} {o g : Int} (B1 : BkD Rw z lv (j : Int) (j + 1, p) q1) (B2 : (o = -1 ∧ q2.1 = q1.1) ∨ (o = (q1.1 : Int) ∧ ∃ p2, BkD Rw z lv (j : Int) (q1.1, p2) q2)) (B3 : (g = -1 ∧ q3.1 = q2.1) ∨ (g = (q2.1 : Int) ∧ ∃ p3, BkD Rw z lv (j : Int) (q2.1, p3) q3)) (hk : kjS z j = 68) (hpa : paS z j = a) (hb : bjS z j = ((j + 1 : Nat) : Int)) (ho : ojS z j = o) (hg : gjS z j = g) : JtI N z T a j q3.1 := by sorry
end
/-! REACHED, as the class goes, is what the function of y20 says: try; all S's -/
section
variable {N : Int → Int} {z : ZS} {T : TbT} {a lv t : Int} {j k : Nat} {l : List ItZ} {q : Ps} {St : SsT} {Rw : RsT}
theorem hfa_t {b : Nat} (hk : kjS z b = 92) (hpa : paS z b = (j : Int)) : hfA z b = (decide (0 ≤ gjS z j) && !decide (gjS z j = (b : Int))) := by sorry
theorem cmA_0 {i : Int} {o : Bool} : ∀ {J : List JmZ}, (∀ x ∈ J, ¬ x.1 = i) → cmA i o J = false := by sorry
/-- no jump from around j leads behind j, where j + 1 is no loop -/
theorem jt_gt (hp : ∀ i, i < snM z → paS z i < (i : Int)) (hj : j < snM z) {J : List JmZ} (h : JtO z (j : Int) J) (hk : ¬ LpK (kjS z (j + 1))) (i : Nat) (hi : j < i) : ∀ x ∈ J, ¬ x.1 = (i : Int) := by sorry
/-- a block of try -/
theorem rc_bk (hp : ∀ i, i < snM z → paS z i < (i : Int)) (hR : RcRo N z T Rw) (hT : JtRo N z T Rw) {p q : Ps} (hB : BkD Rw z lv (j : Int) p q) {hi : Nat} (hpj : j < p.1) (hq : q.1 ≤ hi) (K : KrD z a j hi) (hk : ¬ kjS z j = 92) (hk1 : ¬ LpK (kjS z (j + 1))) (hpa : paS z j = a) (hg : 0 ≤ gjS z j → ¬ gjS z j = (p.1 : Int) → (q.1 : Int) ≤ gjS z j) {f : Nat} {r : RR} {m : Int64} {R : ReG} (hf : 2 * (q.1 - p.1) ≤ f + 2) (hF : FrR p.1 q.1 r) (h : (dF N z T f).1 (bjS z p.1) true m = some R) {en : Bool} (hen : (hfA z p.1 && !(r.1 (gjS z j).toNat)) = !en) :
    p.1 < q.1 ∧ (rwR (rcF N z T f) z p.1 r).1 = R.1 ∧ UrD z (j : Int) (j + 1) q.1 r (rwR (rcF N z T f) z p.1 r).2 (R.2.2.1.map (fnJ en 0)) ∧ LgR z p.1 q.1 (rwR (rcF N z T f) z p.1 r).2 R.2.2.2 ∧ (rwR (rcF N z T f) z p.1 r).2.1 p.1 = R.1 ∧ ∀ i, ¬ (p.1 ≤ i ∧ i < q.1) → (rwR (rcF N z T f) z p.1 r).2.1 i = r.1 i ∧ (j < i → (rwR (rcF N z T f) z p.1 r).2.2.1 i = r.2.1 i ∧ (rwR (rcF N z T f) z p.1 r).2.2.2.1 i = r.2.2.1 i) := by sorry
theorem rc_ty (hp : ∀ i, i < snM z → paS z i < (i : Int)) (hR : RcRo N z T Rw) (hT : JtRo N z T Rw) {p : Nat × List ItZ} {q1 q2 q3 : Ps} {o g : Int} (B1 : BkD Rw z lv (j : Int) (j + 1, p) q1) (B2 : (o = -1 ∧ q2.1 = q1.1) ∨ (o = (q1.1 : Int) ∧ ∃ p2, BkD Rw z lv (j : Int) (q1.1, p2) q2)) (B3 : (g = -1 ∧ q3.1 = q2.1) ∨ (g = (q2.1 : Int) ∧ ∃ p3, BkD Rw z lv (j : Int) (q2.1, p3) q3)) (hk : kjS z j = 68) (hpa : paS z j = a) (hb : bjS z j = ((j + 1 : Nat) : Int)) (ho : ojS z j = o) (hg : gjS z j = g) : RcI N z T a j q3.1 := by sorry
end
theorem fx_le {Z : ZS} {lv a : Int} : ∀ {L : List Nat} {p q : Ps}, FxD Z lv a L p q → p.1 ≤ q.1 := fun h => (fx_sf h).2.1
theorem fi_le {Z : ZS} {lv : Int} {j : Nat} {o : Int} {p q : Ps} (h : FiD Z lv j o p q) : p.1 ≤ q.1 := by sorry
/-- every S -/
theorem rc_jt {N : Int → Int} {M : Int} {z : ZS} {T : TbT} (hp : ∀ i, i < snM z → paS z i < (i : Int)) : ∀ n, JtSo N z T (StD N M z n) ∧ RcSo N z T (StD N M z n) := by sorry
/-! SURELY assigned, as the class goes, is what the function of y20 says: pieces -/
theorem b64_e {a b : Int64} (h : ∀ i, i < 64 → a.toBitVec.getLsbD i = b.toBitVec.getLsbD i) : a = b := Int64.toBitVec_inj.mp (BitVec.eq_of_getLsbD_eq h)
theorem allB_g {i : Nat} (h : i < 64) : allB.toBitVec.getLsbD i = true := by sorry
theorem b64_and {a b : Int64} {i : Nat} : (a &&& b).toBitVec.getLsbD i = (a.toBitVec.getLsbD i && b.toBitVec.getLsbD i) := by sorry
theorem b64_or {a b : Int64} {i : Nat} : (a ||| b).toBitVec.getLsbD i = (a.toBitVec.getLsbD i || b.toBitVec.getLsbD i) := by sorry
theorem an_as {a b c : Int64} : (a &&& b) &&& c = a &&& (b &&& c) := by sorry
theorem an_co {a b : Int64} : a &&& b = b &&& a := b64_e (fun i _ => by rw [b64_and, b64_and, Bool.and_comm])
theorem an_al {a : Int64} : a &&& allB = a := b64_e (fun i h => by rw [b64_and, allB_g h, Bool.and_true])
theorem al_an {a : Int64} : allB &&& a = a := by sorry
theorem or_al {a : Int64} : a ||| allB = allB := b64_e (fun i h => by rw [b64_or, allB_g h, Bool.or_true])
theorem al_or {a : Int64} : allB ||| a = allB := b64_e (fun i h => by rw [b64_or, allB_g h, Bool.true_or])
theorem or_ze {a : Int64} : a ||| zerB = a := by sorry
theorem or_co {a b : Int64} : a ||| b = b ||| a := b64_e (fun i _ => by rw [b64_or, b64_or, Bool.or_comm])
theorem an_id {a : Int64} : a &&& a = a := b64_e (fun i _ => by rw [b64_and, Bool.and_self])
/-! what an exp makes does not look at whether an ERROR is told -/
def weq (w v : WzS) (b : Bool) : Prop := w.1 = v.1 ∧ w.2.1 = v.2.1 ∧ w.2.2.1 = v.2.2.1 ∧ w.2.2.2 = (b || v.2.2.2)
section
variable {w v : WzS} {b : Bool} {t : TvT} {m n : Int64}
theorem weq.er (h : weq w v b) : weq (erW w) (erW v) b := by sorry
theorem weq.jn (h : weq w v b) : weq (jnT t m w) (jnT t m v) b := by sorry
theorem weq.tk {lk : Int} (h : weq w v b) : weq (tkW t lk w) (tkW t lk v) b := by sorry
theorem weq.to (h : weq w v b) : weq (toA m w) (toA m v) b := by sorry
theorem weq.fr (h : weq w v b) : (frA w).1 = (frA v).1 ∧ weq (frA w).2 (frA v).2 b := by sorry
theorem weq.be (h : weq w v b) : weq (beW m w) (beW m v) b := ⟨rfl, rfl, h.2.2⟩
theorem weq.fk (h : weq w v b) (e1 : m = n) : weq (fkW m w.1 w) (fkW n v.1 v) b := by sorry
theorem weq.fk2 (h : weq w v b) (e1 : m = n) : weq (fkW m w.2.1 w) (fkW n v.2.1 v) b := by sorry
theorem weq.el (h : weq w v b) : weq (elW w) (elW v) b := by sorry
theorem weq.af (h : weq w v b) : weq (andF w) (andF v) b := by sorry
theorem weq.at (h : weq w v b) : weq (andT w) (andT v) b := by sorry
theorem weq.pa {x : XrZ} (h : weq w v b) : weq (paW x t w) (paW x t v) b := by sorry
end
theorem bxl_w {z : ZS} {T : TbT} {b : Bool} : ∀ (n k : Nat) (w v : WzS), weq w v b → weq (bxL z T n k w) (bxL z T n k v) b := by sorry
/-- an exp by its number: with whatever was told before -/
theorem bx_e {z : ZS} {T : TbT} {x : Int} {m : Int64} {w : WzS} : weq (bxW z T x m w) (bxW z T x m (m, m, [], false)) w.2.2.2 := by sorry
theorem ex_some {z : ZS} {T : TbT} {x : Int} {m : Int64} {w : WzS} {e : Int64 × Int64} (h : exD z T x m = some e) : (bxW z T x m w).1 = e.1 ∧ (bxW z T x m w).2.1 = e.2 ∧ (bxW z T x m w).2.2.2 = w.2.2.2 := by sorry
theorem ex_none {z : ZS} {T : TbT} {x : Int} {m : Int64} {w : WzS} (h : exD z T x m = none) : (bxW z T x m w).2.2.2 = true := by sorry
theorem ex_stk {z : ZS} {T : TbT} {x : Int} {m : Int64} {w : WzS} (h : w.2.2.2 = true) : (bxW z T x m w).2.2.2 = true := by sorry
/-! what a jump takes along -/
section
variable {z : ZS} {hi : Nat} {bh bh' : Nat → Int64} {tg : Int}
theorem lt_ag (he : ∀ i, hi ≤ i → bh' i = bh i) : ∀ {k : Nat} {x : Int} {m : Int64}, FaC z hi k x → ltM z bh' tg k x m = ltM z bh tg k x m := by sorry
theorem lt_fu (hp : ∀ i, i < snM z → paS z i < (i : Int)) : ∀ (k k' : Nat) (x : Int) (m : Int64), x < (k : Int) → x < (k' : Int) → x < (snM z : Int) → ltM z bh tg k x m = ltM z bh tg k' x m := by sorry
def ltP (z : ZS) (bh : Nat → Int64) (tg x : Int) (m : Int64) : Int64 := ltM z bh tg (snM z) x m
theorem ltp_s (hp : ∀ i, i < snM z → paS z i < (i : Int)) {j : Nat} {m : Int64} (hj : j < snM z) (h : ¬ (j : Int) = tg) : ltP z bh tg (j : Int) m = ltP z bh tg (paS z j) (if hfA z j = true then m ||| bh (gjS z (paS z j).toNat).toNat else m) := by sorry
theorem ltp_e {m : Int64} : ltP z bh tg tg m = m := ltx_eq rfl
theorem ltp_in (hp : ∀ i, i < snM z → paS z i < (i : Int)) {j : Nat} {m : Int64} (hj : j < snM z) (h : ¬ (j : Int) = tg) (hk : ¬ kjS z j = 92) : ltP z bh tg (j : Int) m = ltP z bh tg (paS z j) m := by sorry
def cmP (z : ZS) (bh : Nat → Int64) (tg : Int) (on : Bool) (a : Int) : List JmZ → Int64
  | [] => allB
  | x :: J => if x.1 = tg ∧ x.2.1 = on then ltP z bh tg a x.2.2.2 &&& cmP z bh tg on a J else cmP z bh tg on a J
theorem cmP_ap {on : Bool} {a : Int} {J K : List JmZ} : cmP z bh tg on a (J ++ K) = cmP z bh tg on a J &&& cmP z bh tg on a K := by sorry
theorem cmP_e {on : Bool} {J : List JmZ} : cmP z bh tg on tg J = cmB tg on J := by sorry
theorem cmP_f {on : Bool} {a b : Int} {J : List JmZ} {g : Int64 → Int64} (h : ∀ m, ltP z bh' tg b m = ltP z bh tg a (g m)) : cmP z bh' tg on b J = cmP z bh tg on a (J.map (fun x => (x.1, x.2.1, x.2.2.1, g x.2.2.2))) := by sorry
theorem cmP_g {on : Bool} {a b : Int} {J : List JmZ} (h : ∀ m, ltP z bh' tg b m = ltP z bh tg a m) : cmP z bh' tg on b J = cmP z bh tg on a J := by sorry
theorem cmP_ne {k a : Int} {on o : Bool} {J : List JmZ} (h : ¬ (tg = k ∧ o = on)) : cmP z bh tg o a (cmR k on J) = cmP z bh tg o a J := by sorry
theorem cmP_0 {a : Int} {o : Bool} : ∀ {J : List JmZ}, (∀ x ∈ J, ¬ x.1 = tg) → cmP z bh tg o a J = allB := by sorry
end
/-! SURELY assigned, as the class goes, is what the function of y20 says: between -/
def UaD (z : ZS) (a : Int) (lo hi : Nat) (g g' : GzA) (J : List JmZ) : Prop := (∀ i, ¬ (lo ≤ i ∧ i < hi) → g'.1 i = g.1 i ∧ g'.2.1 i = g.2.1 i) ∧ (∀ i, hi ≤ i → g'.2.2.1 i = g.2.2.1 i ∧ g'.2.2.2.1 i = g.2.2.2.1 i) ∧ (∀ i : Nat, i < lo → g'.2.2.1 i = g.2.2.1 i &&& cmP z g.2.1 i false a J ∧ g'.2.2.2.1 i = g.2.2.2.1 i &&& cmP z g.2.1 i true a J) ∧ g'.2.2.2.2.2.2.2 = g.2.2.2.2.2.2.2
section
variable {z : ZS} {a : Int} {lo hi : Nat} {g g1 g2 : GzA} {J K : List JmZ}
theorem UaD.rf : UaD z a lo hi g g [] := by sorry
theorem UaD.wd {lo' hi' : Nat} (h : UaD z a lo' hi' g g1 J) (h1 : lo ≤ lo') (h2 : hi' ≤ hi) : UaD z a lo hi g g1 J := by sorry
theorem UaD.tr (h : UaD z a lo hi g g1 J) (g' : UaD z a lo hi g1 g2 K) (hf : ∀ k, FaC z hi k a) : UaD z a lo hi g g2 (J ++ K) := by sorry
/-- exps change nothing of it -/
theorem UaD.w {w : WzS} (h : UaD z a lo hi g g1 J) (hw : w.2.2.2 = g1.2.2.2.2.2.2.2) : UaD z a lo hi g (gaW w g1) J := ⟨h.1, h.2.1, h.2.2.1, hw.trans h.2.2.2⟩
theorem UaD.b {j : Nat} {m : Int64} (h : UaD z a lo hi g g1 J) (h1 : lo ≤ j) (h2 : j < hi) : UaD z a lo hi g (gaB j m g1) J := by sorry
theorem UaD.h {j : Nat} {m : Int64} (h : UaD z a lo hi g g1 J) (h1 : lo ≤ j) (h2 : j < hi) : UaD z a lo hi g (gaH j m g1) J := by sorry
/-- begun with an S's own bits -/
theorem UaD.pb {j : Nat} {m : Int64} (hf : ∀ k, FaC z hi k a) (hj : lo ≤ j) (hj2 : j < hi) (h : UaD z a lo hi (gaB j m g) g1 J) : UaD z a lo hi g g1 J := by sorry
/-- out of an S that is no block of try -/
theorem UaD.up {j : Nat} {m e : Int64} (hp : ∀ i, i < snM z → paS z i < (i : Int)) (h : UaD z (j : Int) lo hi (gaB j m g) g1 J) (hl : j < lo) (hh : lo ≤ hi) (hj : j < snM z) (hk : ¬ kjS z j = 92) (hpa : paS z j = a) (hJ : ∀ (i : Nat) (o : Bool), i < j → cmP z g.2.1 i o a K = cmP z g.2.1 i o a J) : UaD z a j hi g (gaH j e g1) K := by sorry
/-- out of a block of try: fb: bits of the finally that what leaves it goes through -/
theorem UaD.bk {j t : Nat} {m e : Int64} {f : Int64 → Int64} (hp : ∀ i, i < snM z → paS z i < (i : Int)) (h : UaD z (t : Int) lo hi (gaB t m g) g1 J) (hl : t < lo) (hh : lo ≤ hi) (ht : t < snM z) (hpa : paS z t = (j : Int)) (hj : j < t) (hen : ∀ m : Int64, (if hfA z t = true then m ||| g.2.1 (gjS z j).toNat else m) = f m) : UaD z (j : Int) (j + 1) hi g (gaH t e g1) (J.map (fun x => (x.1, x.2.1, x.2.2.1, f x.2.2.2))) := by sorry
end
def LgA (z : ZS) (lo hi : Nat) (g : GzA) (G : List (Nat × Int64 × Bool)) : Prop := ∀ x ∈ G, (lo ≤ x.1 ∧ x.1 < hi) ∧ g.1 x.1 = x.2.1
def FrAd (lo hi : Nat) (g : GzA) : Prop := ∀ i, lo ≤ i → i < hi → g.2.2.1 i = allB ∧ g.2.2.2.1 i = allB
section
variable {z : ZS} {a : Int} {lo hi mi : Nat} {g g1 g2 : GzA} {J : List JmZ} {G H : List (Nat × Int64 × Bool)}
theorem LgA.nil : LgA z lo hi g [] := fun _ h => absurd h List.not_mem_nil
theorem LgA.wd {lo' hi' : Nat} (h : LgA z lo' hi' g G) (h1 : lo ≤ lo') (h2 : hi' ≤ hi) : LgA z lo hi g G := fun x q => ⟨by have := (h x q).1; omega, (h x q).2⟩
theorem LgA.fr {lo' hi' : Nat} (h : LgA z lo' hi' g G) (e : ∀ i, lo' ≤ i → i < hi' → g1.1 i = g.1 i) : LgA z lo' hi' g1 G := by sorry
theorem LgA.ap (h : LgA z lo hi g G) (k : LgA z lo hi g H) : LgA z lo hi g (G ++ H) := fun x q => (List.mem_append.mp q).elim (h x) (k x)
theorem LgA.co {j : Nat} {e : Bool} {m : Int64} (h : LgA z (j + 1) hi g G) (hj : j < hi) (hb : g.1 j = m) : LgA z j hi g ((j, m, e) :: G) := by sorry
theorem FrAd.wd {lo' hi' : Nat} (h : FrAd lo hi g) (h1 : lo ≤ lo') (h2 : hi' ≤ hi) : FrAd lo' hi' g := fun i a b => h i (by omega) (by omega)
theorem FrAd.nx {hi' : Nat} (h : FrAd lo hi' g) (k : UaD z a lo hi g g1 J) (q : lo ≤ hi) : FrAd hi hi' g1 := by sorry
theorem FrAd.b {j : Nat} {m : Int64} (h : FrAd lo hi g) : FrAd lo hi (gaB j m g) := h
theorem FrAd.w {w : WzS} (h : FrAd lo hi g) : FrAd lo hi (gaW w g) := h
/-- a jump to j itself -/
theorem ua_j {j : Nat} (h : UaD z (j : Int) lo hi g g1 J) (hl : j < lo) (hF : g.2.2.1 j = allB ∧ g.2.2.2.1 j = allB) : g1.2.2.1 j = cmB j false J ∧ g1.2.2.2.1 j = cmB j true J := by sorry
end
/-! SURELY assigned, as the class goes, is what the function of y20 says: by kinds -/
def AsO (z : ZS) (a : Int) (lo hi : Nat) (g : GzA) (R : ReG) (o : Int64 × GzA) : Prop := o.1 = R.2.1 ∧ UaD z a lo hi g o.2 R.2.2.1 ∧ LgA z lo hi o.2 R.2.2.2
abbrev AsSo (N : Int → Int) (z : ZS) (T : TbT) (St : SsT) : Prop := ∀ a p q, St a p q → p.1 < q.1 ∧ ∀ (f f' : Nat) (g : GzA) (m : Int64) (R : ReG), 2 * (q.1 - p.1) ≤ f + 1 → 2 * (q.1 - p.1) ≤ f' + 1 → KrD z a p.1 q.1 → FrAd p.1 q.1 g → (dF N z T f).2.2 p.1 true m = some R → AsO z a p.1 q.1 g R ((asF N z T f').2.2 p.1 m g)
abbrev AsRo (N : Int → Int) (z : ZS) (T : TbT) (Rw : RsT) : Prop := ∀ a L p q, Rw 0 0 a L p q → p.1 ≤ q.1 ∧ ∀ (f f' : Nat) (g : GzA) (al : Bool) (m : Int64) (R : ReG), 2 * (q.1 - p.1) ≤ f → 2 * (q.1 - p.1) ≤ f' → KrW z a p.1 q.1 → FrAd p.1 q.1 g → (dF N z T f).1 (hdI L) al m = some R → AsO z a p.1 q.1 g R ((asF N z T f').1 (hdI L) m g)
def AsI (N : Int → Int) (z : ZS) (T : TbT) (a : Int) (j hi : Nat) : Prop := ∀ (f f' : Nat) (g : GzA) (m : Int64) (R : ReG), 2 * (hi - j) ≤ f + 2 → 2 * (hi - j) ≤ f' + 2 → KrD z a j hi → FrAd j hi g → inD' (dF N z T f) N z T j m = some R → (inA (asF N z T f') N z T j m (gaB j m g)).1 = R.2.1 ∧ UaD z a j hi g (gaH j R.2.1 (inA (asF N z T f') N z T j m (gaB j m g)).2) R.2.2.1 ∧ LgA z (j + 1) hi (inA (asF N z T f') N z T j m (gaB j m g)).2 R.2.2.2 ∧ (inA (asF N z T f') N z T j m (gaB j m g)).2.1 j = m
section
variable {N : Int → Int} {z : ZS} {T : TbT} {F : AsT} {j : Nat} {m : Int64} {g : GzA}
theorem ia_2 (h : kjS z j = 2 ∨ kjS z j = 92) : inA F N z T j m g = F.1 (bjS z j) m g := by sorry
theorem ia_91 (h : kjS z j = 91 ∨ kjS z j = 93) : inA F N z T j m g = tdA z T j m g := by sorry
theorem ia_90 (h : kjS z j = 90 ∨ kjS z j = 94) : inA F N z T j m g = exB z T (xjS z j) m g := by sorry
theorem ia_66 (h : kjS z j = 66 ∨ kjS z j = 67) : inA F N z T j m g = (allB, (exB z T (xjS z j) m g).2) := by sorry
theorem ia_64 (h : kjS z j = 64 ∨ kjS z j = 65) : inA F N z T j m g = (allB, ldT N z j m g) := by sorry
theorem ia_6 (h : kjS z j = 6) : inA F N z T j m g = laA F z j m g := by sorry
theorem ia_56 (h : kjS z j = 56) : inA F N z T j m g = ifA F z T j m g := by sorry
theorem ia_59 (h : kjS z j = 59) : inA F N z T j m g = doA F z T j m g := by sorry
theorem ia_58 (h : kjS z j = 58 ∨ kjS z j = 60) : inA F N z T j m g = whA F z T j m g := by sorry
theorem ia_61 (h : kjS z j = 61) : inA F N z T j m g = swA F z T j m g := by sorry
theorem ia_68 (h : kjS z j = 68) : inA F N z T j m g = tyA F z j m g := by sorry
theorem ia_4 (h : kjS z j = 4) : inA F N z T j m g = (m, g) := by sorry
/-- an exp -/
theorem exb_s {x : Int} {e : Int64 × Int64} (h : exD z T x m = some e) : (exB z T x m g).1 = e.1 &&& e.2 ∧ (exB z T x m g).2.2.2.2.2.1 = e.1 ∧ (exB z T x m g).2.2.2.2.2.2.1 = e.2 ∧ (exB z T x m g).2 = gaW (bxW z T x m g.2.2.2.2) g ∧ (bxW z T x m g.2.2.2.2).2.2.2 = g.2.2.2.2.2.2.2 := by sorry
theorem ga_bj : (gaB j m g).1 j = m := if_pos rfl
end
section
variable {N : Int → Int} {z : ZS} {T : TbT} {a lv t : Int} {j k : Nat} {l : List ItZ} {q : Ps} {St : SsT} {Rw : RsT}
theorem ua_leaf {g : GzA} {m e : Int64} {w : WzS} (hw : w.2.2.2 = g.2.2.2.2.2.2.2) : UaD z a j (j + 1) g (gaH j e (gaW w (gaB j m g))) [] := by sorry
theorem ua_leaf0 {g : GzA} {m e : Int64} : UaD z a j (j + 1) g (gaH j e (gaB j m g)) [] := by sorry
theorem as_lf (hk : kjS z j = 90 ∨ kjS z j = 94 ∨ kjS z j = 91 ∨ kjS z j = 93 ∨ kjS z j = 4 ∨ kjS z j = 66 ∨ kjS z j = 67) : AsI N z T a j (j + 1) := by sorry
theorem as_ju (hk : kjS z j = 64 ∨ kjS z j = 65) (hpa : paS z j = a) (ht : tjT N z j ≤ (j : Int)) : AsI N z T a j (j + 1) := by sorry
theorem as_bl (hR : AsRo N z T Rw) {L : List Nat} {p : Nat × List ItZ} (hr : Rw 0 0 j L (j + 1, p) q) (hk : kjS z j = 2) (hpa : paS z j = a) (hb : bjS z j = hdI L) : AsI N z T a j q.1 := by sorry
theorem bdA_e {F : AsT} {b : Nat} {m : Int64} {g : GzA} (h : bjS z j = (b : Int)) : bdA F z j m g = F.2.2 b m g := by sorry
theorem as_la (hS : AsSo N z T St) {p : Nat × List ItZ} {q1 : Ps} (hs : St j (j + 1, p) q1) (hk : kjS z j = 6) (hpa : paS z j = a) (hb : bjS z j = ((j + 1 : Nat) : Int)) : AsI N z T a j q1.1 := by sorry
/-- an exp first -/
theorem as_ex {g : GzA} {m : Int64} {x : Int} {e : Int64 × Int64} (h : exD z T x m = some e) : ∃ g0, exB z T x m g = (e.1 &&& e.2, g0) ∧ g0.2.2.2.2.1 = e.1 ∧ g0.2.2.2.2.2.1 = e.2 ∧ (∀ (a : Int) (lo hi : Nat), UaD z a lo hi g g0 []) ∧ g0.1 = g.1 ∧ g0.2.2.1 = g.2.2.1 ∧ g0.2.2.2.1 = g.2.2.2.1 := by sorry
theorem FrAd.c {lo hi : Nat} {g g0 : GzA} (h : FrAd lo hi g) (e1 : g0.2.2.1 = g.2.2.1) (e2 : g0.2.2.2.1 = g.2.2.2.1) : FrAd lo hi g0 := fun i a b => by rw [e1, e2]; exact h i a b
theorem as_if1 (hS : AsSo N z T St) {p : Nat × List ItZ} {q1 : Ps} (hs : St j (j + 1, p) q1) (hk : kjS z j = 56) (hpa : paS z j = a) (hb : bjS z j = ((j + 1 : Nat) : Int)) (ho : ojS z j = -1) : AsI N z T a j q1.1 := by sorry
theorem as_if2 (hS : AsSo N z T St) {p : Nat × List ItZ} {q1 q2 : Ps} {p2 : Nat × List ItZ} (hs : St j (j + 1, p) q1) (hs2 : St j (q1.1, p2) q2) (hk : kjS z j = 56) (hpa : paS z j = a) (hb : bjS z j = ((j + 1 : Nat) : Int)) (ho : ojS z j = (q1.1 : Int)) : AsI N z T a j q2.1 := by sorry
theorem as_do (hS : AsSo N z T St) {p : Nat × List ItZ} {q1 : Ps} (hs : St j (j + 1, p) q1) (hk : kjS z j = 59) (hpa : paS z j = a) (hb : bjS z j = ((j + 1 : Nat) : Int)) : AsI N z T a j q1.1 := by sorry
end
/-! SURELY assigned, as the class goes, is what the function of y20 says: rows, loops, switch, try -/
section
variable {N : Int → Int} {z : ZS} {T : TbT} {a lv t : Int} {j k : Nat} {l : List ItZ} {q : Ps} {St : SsT} {Rw : RsT}
/-- an S, out of its inside -/
theorem as_S {hi : Nat} (h : AsI N z T a j hi) (hl : lvS z j ≤ 20) (hj : j < hi) {f f' : Nat} {g : GzA} {m : Int64} {R : ReG} (hf : 2 * (hi - j) ≤ f + 1) (hf' : 2 * (hi - j) ≤ f' + 1) (K : KrD z a j hi) (hF : FrAd j hi g) (hd : (dF N z T f).2.2 j true m = some R) : AsO z a j hi g R ((asF N z T f').2.2 j m g) ∧ ((asF N z T f').2.2 j m g).2.2.1 j = R.2.1 := by sorry
/-- one more in front of a row -/
theorem as_cons {p1 hi : Nat} {L : List Nat} (e2 : njS z j = hdI L) (s1 : j < p1) (i1 : p1 ≤ hi) (K : KrW z a j hi) {f f' : Nat} {g : GzA} {al : Bool} {m : Int64} {R : ReG} (hf : 2 * (hi - j) ≤ f) (hf' : 2 * (hi - j) ≤ f') (h : (dF N z T f).1 ((j : Nat) : Int) al m = some R)
    (hS : ∀ (f f' : Nat) (R1 : ReG), 2 * (p1 - j) ≤ f + 1 → 2 * (p1 - j) ≤ f' + 1 → (dF N z T f).2.2 j true m = some R1 → AsO z a j p1 g R1 ((asF N z T f').2.2 j m g))
    (hL : ∀ (f f' : Nat) (g' : GzA) (al : Bool) (m' : Int64) (R2 : ReG) (J : List JmZ), UaD z a j p1 g g' J → 2 * (hi - p1) ≤ f → 2 * (hi - p1) ≤ f' → (dF N z T f).1 (hdI L) al m' = some R2 → AsO z a p1 hi g' R2 ((asF N z T f').1 (hdI L) m' g')) : AsO z a j hi g R ((asF N z T f').1 ((j : Nat) : Int) m g) := by sorry
theorem as_nil {lo hi : Nat} {f f' : Nat} {g : GzA} {al : Bool} {m : Int64} {R : ReG} (h : (dF N z T f).1 (-1) al m = some R) : AsO z a lo hi g R ((asF N z T f').1 (-1) m g) := by sorry
/-- rows -/
theorem as_row (hS : AsSo N z T St) : AsRo N z T (RwD St z lv) := by sorry
/-- exps of for -/
theorem as_fx (hl : lv ≤ 20) : ∀ (L : List Nat) (p q : Ps), FxD z lv a L p q → p.1 ≤ q.1 ∧ ∀ (f f' : Nat) (g : GzA) (al : Bool) (m : Int64) (R : ReG), 2 * (q.1 - p.1) ≤ f → 2 * (q.1 - p.1) ≤ f' → KrW z a p.1 q.1 → FrAd p.1 q.1 g → (dF N z T f).1 (hdI L) al m = some R → AsO z a p.1 q.1 g R ((asF N z T f').1 (hdI L) m g) ∧ R.2.2.1 = [] := by sorry
/-- what stands ahead in for -/
theorem as_fi (hl : lv ≤ 20) {o : Int} {p q : Ps} (h : FiD z lv j o p q) {f f' : Nat} {g : GzA} {m : Int64} {R : ReG} (hf : 2 * (q.1 - p.1) ≤ f) (hf' : 2 * (q.1 - p.1) ≤ f') (K : KrW z (j : Int) p.1 q.1) (hF : FrAd p.1 q.1 g) (hd : (dF N z T f).1 o true m = some R) : AsO z (j : Int) p.1 q.1 g R ((asF N z T f').1 o m g) ∧ R.2.2.1 = [] := by sorry
theorem as_wh (hS : AsSo N z T St) {p : Nat × List ItZ} {q1 : Ps} (hs : St j (j + 1, p) q1) (hk : kjS z j = 58) (hpa : paS z j = a) (hb : bjS z j = ((j + 1 : Nat) : Int)) : AsI N z T a j q1.1 := by sorry
theorem fx_kd : ∀ {L : List Nat} {p q : Ps}, FxD z lv a L p q → ∀ i, p.1 ≤ i → i < q.1 → kjS z i = 94 := by sorry
theorem as_fo (hp : ∀ i, i < snM z → paS z i < (i : Int)) (hS : AsSo N z T St) (hT : JtSo N z T St) (hl : lv ≤ 20) {p1 : Nat × List ItZ} {q1 q3 q4 : Ps} {p3 p4 : Nat × List ItZ} {o gg : Int} {L : List Nat} (h1 : FiD z lv j o (j + 1, p1) q1) (h3 : FxD z lv (j : Int) L (q1.1, p3) q3) (hs : St j (q3.1, p4) q4) (hgL : gg = hdI L) (hk : kjS z j = 60) (hpa : paS z j = a) (hb : bjS z j = (q3.1 : Int)) (ho : ojS z j = o) (hg : gjS z j = gg) : AsI N z T a j q4.1 := by sorry
end
/-! SURELY assigned, as the class goes, is what the function of y20 says: switch, try; all S's -/
/-- a row that does not end: all holds behind it -/
abbrev DaRo (N : Int → Int) (z : ZS) (T : TbT) (Rw : RsT) : Prop := ∀ a L p q, Rw 0 0 a L p q → ∀ (f : Nat) (m : Int64) (R : ReG), 2 * (q.1 - p.1) ≤ f → (dF N z T f).1 (hdI L) true m = some R → R.1 = false → R.2.1 = allB
section
variable {N : Int → Int} {z : ZS} {T : TbT} {a lv t : Int} {j k : Nat} {l : List ItZ} {q : Ps} {St : SsT} {Rw : RsT}
theorem as_srow (hS : AsSo N z T St) (hkd : ∀ a p q, St a p q → ¬ kjS z p.1 = 62 ∧ ¬ kjS z p.1 = 63) : ∀ (L : List Nat) (p q : Ps), RwD St z lv 1 k a L p q → p.1 ≤ q.1 ∧ ∀ (f f' : Nat) (g : GzA) (al d : Bool) (m ch : Int64) (R : Bool × ReG), 2 * (q.1 - p.1) ≤ f → 2 * (q.1 - p.1) ≤ f' → KrW z a p.1 q.1 → FrAd p.1 q.1 g → (dF N z T f).2.1 (hdI L) ch al m d = some R → ((asF N z T f').2.1 (hdI L) ch m d g).1 = R.2.2.1 ∧ ((asF N z T f').2.1 (hdI L) ch m d g).2.1 = R.1 ∧ UaD z a p.1 q.1 g ((asF N z T f').2.1 (hdI L) ch m d g).2.2 R.2.2.2.1 ∧ LgA z p.1 q.1 ((asF N z T f').2.1 (hdI L) ch m d g).2.2 R.2.2.2.2 := by sorry
theorem as_sw (hS : AsSo N z T St) (hkd : ∀ a p q, St a p q → ¬ kjS z p.1 = 62 ∧ ¬ kjS z p.1 = 63) {L : List Nat} {p : Nat × List ItZ} {q1 : Ps} (hr : RwD St z lv 1 k j L (j + 1, p) q1) (hk : kjS z j = 61) (hpa : paS z j = a) (hb : bjS z j = hdI L) : AsI N z T a j q1.1 := by sorry
/-- a block of try, as the class goes into it -/
theorem as_bk (hp : ∀ i, i < snM z → paS z i < (i : Int)) (hR : AsRo N z T Rw) (hT : JtRo N z T Rw) (hl : lv ≤ 20) {p q : Ps} (hB : BkD Rw z lv (j : Int) p q) {hi : Nat} (hpj : j < p.1) (hq : q.1 ≤ hi) (K : KrD z a j hi) (hk : ¬ kjS z j = 92) (hk1 : ¬ LpK (kjS z (j + 1))) (hpa : paS z j = a) (hg : 0 ≤ gjS z j → ¬ gjS z j = (p.1 : Int) → (q.1 : Int) ≤ gjS z j) {f f' : Nat} {g : GzA} {m : Int64} {R : ReG} (hf : 2 * (q.1 - p.1) ≤ f + 2) (hf' : 2 * (q.1 - p.1) ≤ f' + 1) (hF : FrAd p.1 q.1 g) (h : (dF N z T f).1 (bjS z p.1) true m = some R) {fn : Int64 → Int64} (hen : ∀ m : Int64, (if hfA z p.1 = true then m ||| g.2.1 (gjS z j).toNat else m) = fn m) :
    p.1 < q.1 ∧ ((asF N z T f').2.2 p.1 m g).1 = R.2.1 ∧ UaD z (j : Int) (j + 1) q.1 g ((asF N z T f').2.2 p.1 m g).2 (R.2.2.1.map (fun x => (x.1, x.2.1, x.2.2.1, fn x.2.2.2))) ∧ LgA z p.1 q.1 ((asF N z T f').2.2 p.1 m g).2 R.2.2.2 ∧ ((asF N z T f').2.2 p.1 m g).2.2.1 p.1 = R.2.1 ∧ ∀ i, ¬ (p.1 ≤ i ∧ i < q.1) → (((asF N z T f').2.2 p.1 m g).2.1 i = g.1 i ∧ ((asF N z T f').2.2 p.1 m g).2.2.1 i = g.2.1 i) ∧ (j < i → ((asF N z T f').2.2 p.1 m g).2.2.2.1 i = g.2.2.1 i ∧ ((asF N z T f').2.2 p.1 m g).2.2.2.2.1 i = g.2.2.2.1 i) := by sorry
theorem cmP_cg {bh : Nat → Int64} {tg : Int} {on : Bool} {J : List JmZ} {f h : Int64 → Int64} {u v : JmZ → Bool} (e : ∀ x ∈ J, f x.2.2.2 = h x.2.2.2) : cmP z bh tg on a (J.map (fun x => (x.1, x.2.1, u x, f x.2.2.2))) = cmP z bh tg on a (J.map (fun x => (x.1, x.2.1, v x, h x.2.2.2))) := by sorry
theorem map_id4 {J : List JmZ} : J.map (fun x => (x.1, x.2.1, x.2.2.1, x.2.2.2)) = J := List.map_id J
theorem as_ty (hp : ∀ i, i < snM z → paS z i < (i : Int)) (hR : AsRo N z T Rw) (hT : JtRo N z T Rw) (hD : DaRo N z T Rw) (hl : lv ≤ 20) {p : Nat × List ItZ} {q1 q2 q3 : Ps} {o g v : Int} (B1 : BkD Rw z lv (j : Int) (j + 1, p) q1) (B2 : (o = -1 ∧ q2.1 = q1.1) ∨ (o = (q1.1 : Int) ∧ ∃ p2, BkD Rw z lv (j : Int) (q1.1, p2) q2)) (B3 : (g = -1 ∧ q3.1 = q2.1) ∨ (g = (q2.1 : Int) ∧ ∃ p3, BkD Rw z lv (j : Int) (q2.1, p3) q3)) (hk : kjS z j = 68) (hpa : paS z j = a) (hb : bjS z j = ((j + 1 : Nat) : Int)) (ho : ojS z j = o) (hg : gjS z j = g) : AsI N z T a j q3.1 := by sorry
end
/-! a CONSTANT condition: all holds on the side that is never gone -/
/-- judged: the tables, and values of CONSTANTS are of their TYPES -/
def JdL (C : CxT) (z : ZS) (T : TbT) : Prop := tbT C (fun i => xth z i) (xnM z) = some T ∧ ∀ i, i < xnM z → (xth z i).1.1 ≤ 10 → VaT (T.1 i)
theorem jd_x {C : CxT} {z : ZS} {T : TbT} (h : JdL C z T) {i : Nat} (hi : i < xnM z) : ∃ U : TbT, exT C U i (xth z i) = some (T.1 i) ∧ ∀ k, k < i → U.1 k = T.1 k := by sorry
/-- an exp that is worked out: bits when it is true, false -/
def CnD (T : TbT) (a : Int) (t f : Int64) : Prop := ((T.1 a.toNat).1 = 0 → ¬ (T.1 a.toNat).2.1 = 0 → ((T.1 a.toNat).2.2.1 = 1 → f = allB) ∧ ((T.1 a.toNat).2.2.1 = 0 → t = allB)) ∧ (¬ (T.1 a.toNat).1 = 0 → t = f)
/-- what stands open, what is left for later, bits now; A: all held at first -/
def AwR (T : TbT) (A : Prop) : MkF → List Int64 → Int64 → Int64 → Prop
  | [], L, t, f => L = [] ∧ (A → t = allB ∧ f = allB)
  | (k, a, b) :: G, L, t, f =>
    if k = 3 then ∃ vf vt sq vq L', L = vf :: vt :: L' ∧ (CnD T a sq vq ∧ CnD T b vt vf) ∧ (sq = allB → vt = allB ∧ vf = allB) ∧ (vq = allB → t = allB ∧ f = allB) ∧ AwR T A G L' sq vq
    else if k = 1 then ∃ v s L', L = v :: L' ∧ CnD T a v s ∧ (s = allB → t = allB ∧ f = allB) ∧ AwR T A G L' v s
    else ∃ v s L', L = v :: L' ∧ CnD T a s v ∧ (s = allB → t = allB ∧ f = allB) ∧ AwR T A G L' s v
theorem aw_len {T : TbT} {A : Prop} : ∀ {F : MkF} {L : List Int64} {t f : Int64}, AwR T A F L t f → L.length ≤ 2 * F.length := by sorry
/-- bits change, and stay all where they are all -/
theorem aw_mo {T : TbT} {A : Prop} {F : MkF} {L : List Int64} {t f t' f' : Int64} (h : AwR T A F L t f) (q : t = allB → f = allB → t' = allB ∧ f' = allB) : AwR T A F L t' f' := by sorry
theorem fxT_iff {t : TvT} : fxT t = true ↔ ¬ t.2.1 = 0 ∧ t.1 = 0 := by sorry
theorem fx_1 : (Int64.ofNat ((1 : Fin 2) : Nat)) = 1 := by sorry
theorem ze_0 : zerB = 0 := by sorry
/-- both sides come together -/
theorem jn_c {T : TbT} {i : Nat} {more : Int64} {w : WzS} : CnD T (i : Int) (jnT (T.1 i) more w).1 (jnT (T.1 i) more w).2.1 ∧ (w.1 = allB → w.2.1 = allB → (jnT (T.1 i) more w).1 = allB ∧ (jnT (T.1 i) more w).2.1 = allB) ∧ (jnT (T.1 i) more w).2.2 = w.2.2 := by sorry
theorem toA_l {m : Int64} {w : WzS} (h : w.2.2.1.length < 500) : (toA m w).2.2.1 = m :: w.2.2.1 := by sorry
/-- one exp or mark more -/
theorem aw_st {C : CxT} {z : ZS} {T : TbT} {A : Prop} (hJ : JdL C z T) {l : List ItZ} {x : XrZ} {G F : MkF} {w : WzS} (hi : xcZ l < xnM z) (hx : xth z (xcZ l) = x) (hk : 0 ≤ x.1.1 ∧ x.1.1 ≤ 15) (hS : MkS l x G F) (hG : G.length ≤ 100) (hF : F.length ≤ 100) (hc : LsO l → CnD T ((xcZ l : Int) - 1) w.1 w.2.1) (ha : ∀ q ∈ opsZ x, (0 ≤ q ∧ q < (xcZ l : Int)) ∧ VaT (T.1 q.toNat)) (h : AwR T A G w.2.2.1 w.1 w.2.1) : AwR T A F (paW x (T.1 (xcZ l)) w).2.2.1 (paW x (T.1 (xcZ l)) w).1 (paW x (T.1 (xcZ l)) w).2.1 ∧ (x.1.1 ≤ 10 → CnD T (xcZ l : Int) (paW x (T.1 (xcZ l)) w).1 (paW x (T.1 (xcZ l)) w).2.1) := by sorry
/-! what stands open: nothing, between S's -/
section
variable {l m : List ItZ} {o a b t lv : Int} {r : XrZ}
theorem mkp_c (h : MkP 100 l []) : MkP 100 (cIy o a b t :: l) [] := ⟨rfl, h⟩
theorem mkp_r {y : Int × Int × Int × Int × Int} (h : MkP 100 l []) : MkP 100 (.inr y :: l) [] := ⟨rfl, h⟩
theorem mkp_e (h : MkP 100 l []) : MkP 100 (cEy o a b t m :: l) [] := ⟨rfl, h⟩
theorem mkp_x (h : MkP 100 l []) (hx : ExX lv l m r) (hl : 0 ≤ lv) : MkP 100 m [] := by sorry
theorem mkp_15 {x : XrZ} (h : MkP 100 l []) (hk : x.1.1 = 15) : MkP 100 (.inl x :: l) [] := ⟨Nat.zero_le _, [], h, (mks_o (by omega)).mpr rfl⟩
end
section
variable {N : Int → Int} {M : Int} {z : ZS}
theorem mkp_va {j : Nat} {h : Int × Int × Int × Int} {th : Int} {l m : List ItZ} (v : VaD z j h th l m) (hl : 0 ≤ h.2.2.1) (k : MkP 100 l []) : MkP 100 m [] := by sorry
theorem mkp_fx {lv a : Int} (hl : 0 ≤ lv) : ∀ {L : List Nat} {p q : Ps}, FxD z lv a L p q → MkP 100 p.2.2 [] → MkP 100 q.2.2 [] := by sorry
theorem mkp_fi {lv : Int} (hl : 0 ≤ lv) {j : Nat} {o : Int} {p q : Ps} (h : FiD z lv j o p q) (k : MkP 100 p.2.2 []) : MkP 100 q.2.2 [] := by sorry
theorem mkp_row {St : SsT} {lv : Int} (hl : 0 ≤ lv) {sw : Int} {k : Nat} {a : Int} (hS : ∀ a p q, St a p q → MkP 100 p.2.2 [] → MkP 100 q.2.2 []) : ∀ {L : List Nat} {p q : Ps}, RwD St z lv sw k a L p q → MkP 100 p.2.2 [] → MkP 100 q.2.2 [] := by sorry
theorem mkp_st : ∀ n, n ≤ 21 → ∀ a p q, StD N M z n a p q → MkP 100 p.2.2 [] → MkP 100 q.2.2 [] := by sorry
end
theorem mkp_pr {N : Int → Int} {z : ZS} : ∀ (L : List Nat) (M : Nat) (p q : Ps), PrD N z L M p q → MkP 100 p.2.2 [] → MkP 100 q.2.2 [] := by sorry
/-! whole exps -/
theorem mkp_un {B : Nat} : ∀ {l : List ItZ} {F G : MkF}, MkP B l F → MkP B l G → F = G := by sorry
theorem mkp_sf {B : Nat} {l : List ItZ} : ∀ {L : List ItZ} {F : MkF}, MkP B L F → l <:+ L → ∃ G, MkP B l G := by sorry
theorem mkp_le {B : Nat} {l : List ItZ} {F : MkF} (h : MkP B l F) : F.length ≤ B := by sorry
theorem sk_kd : ∀ {l : List ItZ} {S : List Int}, SkP l S → ∀ q ∈ S, (xgZ l q.toNat).1.1 ≤ 10 := by sorry
theorem bxl_sn {z : ZS} {T : TbT} : ∀ (n k : Nat) (w : WzS), bxL z T (n + 1) k w = paW (xth z (k + n)) (T.1 (k + n)) (bxL z T n k w) := by sorry
/-- what is fixed of all that is read and judged -/
def ZjD (C : CxT) (z : ZS) (T : TbT) : Prop := JdL C z T ∧ SkP z.2.1 [] ∧ (∀ i, i < xnM z → 0 ≤ (xth z i).1.1 ∧ (xth z i).1.1 ≤ 15) ∧ MkP 100 z.2.1 []
theorem xc_mp {t : List XrZ} {l : List ItZ} : xcZ (t.map Sum.inl ++ l) = xcZ l + t.length := by sorry
theorem ex_run {C : CxT} {z : ZS} {T : TbT} (H : ZjD C z T) {l : List ItZ} {mm : Int64} {er : Bool} (hn : ¬ LsO l) (hl : MkP 100 l []) : ∀ (t : List XrZ), (t.map Sum.inl ++ l) <:+ z.2.1 → ∃ F, MkP 100 (t.map Sum.inl ++ l) F ∧ AwR T (mm = allB) F (bxL z T t.length (xcZ l) (mm, mm, [], er)).2.2.1 (bxL z T t.length (xcZ l) (mm, mm, [], er)).1 (bxL z T t.length (xcZ l) (mm, mm, [], er)).2.1 ∧ (LsO (t.map Sum.inl ++ l) → CnD T ((xcZ (t.map Sum.inl ++ l) : Int) - 1) (bxL z T t.length (xcZ l) (mm, mm, [], er)).1 (bxL z T t.length (xcZ l) (mm, mm, [], er)).2.1) := by sorry
/-- a code of an S stands last, or nothing -/
def HdR (l : List ItZ) : Prop := l = [] ∨ ∃ y l', l = .inr y :: l'
theorem HdR.n {l : List ItZ} (h : HdR l) : ¬ LsO l := by sorry
theorem hdr_c {l : List ItZ} {o a b t : Int} : HdR (cIy o a b t :: l) := Or.inr ⟨_, _, rfl⟩
theorem hdr_e {l m : List ItZ} {o a b t : Int} : HdR (cEy o a b t m :: l) := Or.inr ⟨_, _, rfl⟩
/-- a whole exp is worked out from its first one on -/
theorem bxw_run {z : ZS} {T : TbT} {lv : Int} {l m : List ItZ} {r : XrZ} {mm : Int64} {w : WzS} (hx : ExX lv l m r) (hm : m <:+ z.2.1) {t : List XrZ} (ht : m = t.map Sum.inl ++ l) : bxW z T ((xcZ m : Int) - 1) mm w = bxL z T t.length (xcZ l) (mm, mm, [], w.2.2.2) := by sorry
/-- an exp's bits -/
theorem ex_cn {C : CxT} {z : ZS} {T : TbT} (H : ZjD C z T) {lv : Int} {l m : List ItZ} {r : XrZ} {mm : Int64} {w : WzS} (hx : ExX lv l m r) (hl0 : 0 ≤ lv) (hh : HdR l) (hm : m <:+ z.2.1) : (bxW z T ((xcZ m : Int) - 1) mm w).2.2.1 = [] ∧ (mm = allB → (bxW z T ((xcZ m : Int) - 1) mm w).1 = allB ∧ (bxW z T ((xcZ m : Int) - 1) mm w).2.1 = allB) ∧ CnD T ((xcZ m : Int) - 1) (bxW z T ((xcZ m : Int) - 1) mm w).1 (bxW z T ((xcZ m : Int) - 1) mm w).2.1 := by sorry
/-! where an S does not end, all holds behind it -/
def DaO (R : ReG) : Prop := (R.1 = false → R.2.1 = allB) ∧ ∀ x ∈ R.2.2.1, x.2.2.1 = false → x.2.2.2 = allB
theorem da_cm {k : Int} {on : Bool} : ∀ {J : List JmZ}, (∀ x ∈ J, x.2.2.1 = false → x.2.2.2 = allB) → cmA k on J = false → cmB k on J = allB := by sorry
theorem da_cr {k : Int} {on : Bool} {J : List JmZ} (h : ∀ x ∈ J, x.2.2.1 = false → x.2.2.2 = allB) : ∀ x ∈ cmR k on J, x.2.2.1 = false → x.2.2.2 = allB := fun x hx => h x (cmR_m hx).1
/-- what is fixed -/
def DfX (N : Int → Int) (C : CxT) (z : ZS) (T : TbT) (ms : MfT) : Prop := ZjD C z T ∧ ∀ j, j < snM z → skT N z T ms j
abbrev DaSo (N : Int → Int) (z : ZS) (T : TbT) (St : SsT) : Prop := ∀ a p q, St a p q → (p.1 < q.1 ∧ p.2.2 <:+ q.2.2) ∧ ∀ (f : Nat) (m : Int64) (R : ReG), 2 * (q.1 - p.1) ≤ f + 1 → q.1 ≤ snM z → q.2.2 <:+ z.2.1 → (dF N z T f).2.2 p.1 true m = some R → DaO R
abbrev DaRw (N : Int → Int) (z : ZS) (T : TbT) (Rw : RsT) : Prop := ∀ sw k a L p q, Rw sw k a L p q → (p.1 ≤ q.1 ∧ p.2.2 <:+ q.2.2) ∧ ∀ (f : Nat) (al : Bool) (m : Int64), 2 * (q.1 - p.1) ≤ f → q.1 ≤ snM z → q.2.2 <:+ z.2.1 → (al = false → m = allB) → (sw = 0 → ∀ R : ReG, (dF N z T f).1 (hdI L) al m = some R → DaO R) ∧ (sw = 1 → ∀ (ch : Int64) (d : Bool) (R : Bool × ReG), (dF N z T f).2.1 (hdI L) ch al m d = some R → DaO R.2)
def DaI (N : Int → Int) (z : ZS) (T : TbT) (j hi : Nat) : Prop := ∀ (f : Nat) (m : Int64) (R : ReG), 2 * (hi - j) ≤ f + 2 → inD' (dF N z T f) N z T j m = some R → DaO R
section
variable {N : Int → Int} {z : ZS} {T : TbT} {C : CxT} {ms : MfT} {a lv t : Int} {j k : Nat} {q : Ps} {St : SsT} {Rw : RsT}
theorem da_tt {b : Int64} {J : List JmZ} {G : List (Nat × Int64 × Bool)} (h : ∀ x ∈ J, x.2.2.1 = false → x.2.2.2 = allB) : DaO (true, b, J, G) := ⟨fun q => absurd (show true = false from q) (by decide), h⟩
theorem da_nil : ∀ x ∈ ([] : List JmZ), x.2.2.1 = false → x.2.2.2 = allB := fun _ h => absurd h List.not_mem_nil
theorem da_lf {hi : Nat} (hk : kjS z j = 90 ∨ kjS z j = 94 ∨ kjS z j = 91 ∨ kjS z j = 93 ∨ kjS z j = 4 ∨ kjS z j = 66 ∨ kjS z j = 67 ∨ kjS z j = 64 ∨ kjS z j = 65) : DaI N z T j hi := by sorry
theorem da_bl (hR : DaRw N z T Rw) {L : List Nat} {p : Nat × List ItZ} (hr : Rw 0 0 j L (j + 1, p) q) (hk : kjS z j = 2) (hb : bjS z j = hdI L) (hz : q.1 ≤ snM z) (hq : q.2.2 <:+ z.2.1) : DaI N z T j q.1 := by sorry
theorem da_la (hS : DaSo N z T St) {p : Nat × List ItZ} {q1 : Ps} (hs : St j (j + 1, p) q1) (hk : kjS z j = 6) (hb : bjS z j = ((j + 1 : Nat) : Int)) (hz : q1.1 ≤ snM z) (hq : q1.2.2 <:+ z.2.1) : DaI N z T j q1.1 := by sorry
theorem da_if1 (hS : DaSo N z T St) {p : Nat × List ItZ} {q1 : Ps} (hs : St j (j + 1, p) q1) (hk : kjS z j = 56) (hb : bjS z j = ((j + 1 : Nat) : Int)) (ho : ojS z j = -1) (hz : q1.1 ≤ snM z) (hq : q1.2.2 <:+ z.2.1) : DaI N z T j q1.1 := by sorry
theorem da_ap {J K : List JmZ} (h : ∀ x ∈ J, x.2.2.1 = false → x.2.2.2 = allB) (g : ∀ x ∈ K, x.2.2.1 = false → x.2.2.2 = allB) : ∀ x ∈ J ++ K, x.2.2.1 = false → x.2.2.2 = allB := fun x hx => (List.mem_append.mp hx).elim (h x) (g x)
theorem da_if2 (hS : DaSo N z T St) {p : Nat × List ItZ} {q1 q2 : Ps} {p2 : Nat × List ItZ} (hs : St j (j + 1, p) q1) (hs2 : St j (q1.1, p2) q2) (hk : kjS z j = 56) (hb : bjS z j = ((j + 1 : Nat) : Int)) (ho : ojS z j = (q1.1 : Int)) (hz : q2.1 ≤ snM z) (hq1 : q1.2.2 <:+ z.2.1) (hq : q2.2.2 <:+ z.2.1) : DaI N z T j q2.1 := by sorry
/-- a condition: always true; from where all holds -/
theorem al_cn (H : DfX N C z T ms) {l m : List ItZ} {r : XrZ} {mm : Int64} {e : Int64 × Int64} (hx : ExX lv l m r) (hl : 0 ≤ lv) (hh : HdR l) (hm : m <:+ z.2.1) (hk : kjS z j = 58 ∨ kjS z j = 59 ∨ kjS z j = 60) (hj : j < snM z) (hxj : xjS z j = (xcZ m : Int) - 1) (he : exD z T (xjS z j) mm = some e) : (alwT z T j 1 = true → e.2 = allB) ∧ (mm = allB → e.1 = allB ∧ e.2 = allB) := by sorry
theorem da_wh (H : DfX N C z T ms) (hS : DaSo N z T St) {b : Nat} {p : Nat × List ItZ} {q1 : Ps} (hs : St j (b, p) q1) (hjb : j < b) (hk : kjS z j = 58 ∨ kjS z j = 60) (hb : bjS z j = (b : Int)) (hz : q1.1 ≤ snM z) (hq : q1.2.2 <:+ z.2.1) (hX : xjS z j < 0 ∨ ∃ (l m : List ItZ) (r : XrZ), ExX lv l m r ∧ HdR l ∧ m <:+ z.2.1 ∧ xjS z j = (xcZ m : Int) - 1) (hl : 0 ≤ lv) : DaI N z T j q1.1 := by sorry
theorem da_do (H : DfX N C z T ms) (hS : DaSo N z T St) {p : Nat × List ItZ} {q1 : Ps} (hs : St j (j + 1, p) q1) (hk : kjS z j = 59) (hb : bjS z j = ((j + 1 : Nat) : Int)) (hz : q1.1 ≤ snM z) (hq : q1.2.2 <:+ z.2.1) {l m1 : List ItZ} {r : XrZ} (hx : ExX lv l m1 r) (hh : HdR l) (hm : m1 <:+ z.2.1) (hxj : xjS z j = (xcZ m1 : Int) - 1) (hl : 0 ≤ lv) : DaI N z T j q1.1 := by sorry
theorem da_row (hS : DaSo N z T St) (hkd : ∀ a p q, St a p q → ¬ kjS z p.1 = 62 ∧ ¬ kjS z p.1 = 63) : DaRw N z T (RwD St z lv) := by sorry
theorem da_sw (hR : DaRw N z T Rw) {L : List Nat} {p : Nat × List ItZ} {q1 : Ps} (hr : Rw 1 k j L (j + 1, p) q1) (hk : kjS z j = 61) (hb : bjS z j = hdI L) (hz : q1.1 ≤ snM z) (hq : q1.2.2 <:+ z.2.1) : DaI N z T j q1.1 := by sorry
theorem da_bk (hR : DaRw N z T Rw) {p q : Ps} (hB : BkD Rw z lv a p q) {f : Nat} {m : Int64} {R : ReG} (hf : 2 * (q.1 - p.1) ≤ f + 2) (hz : q.1 ≤ snM z) (hq : q.2.2 <:+ z.2.1) (h : (dF N z T f).1 (bjS z p.1) true m = some R) : DaO R := by sorry
theorem bk_le (hR : DaRw N z T Rw) {p q : Ps} (hB : BkD Rw z lv a p q) : p.1 + 1 ≤ q.1 ∧ p.2.2 <:+ q.2.2 := by sorry
theorem da_ty (hR : DaRw N z T Rw) {p : Nat × List ItZ} {q1 q2 q3 : Ps} {o g : Int} (B1 : BkD Rw z lv (j : Int) (j + 1, p) q1) (B2 : (o = -1 ∧ q2.1 = q1.1) ∨ (o = (q1.1 : Int) ∧ ∃ p2, BkD Rw z lv (j : Int) (q1.1, p2) q2)) (B3 : (g = -1 ∧ q3.1 = q2.1) ∨ (g = (q2.1 : Int) ∧ ∃ p3, BkD Rw z lv (j : Int) (q2.1, p3) q3)) (hk : kjS z j = 68) (hb : bjS z j = ((j + 1 : Nat) : Int)) (ho : ojS z j = o) (hg : gjS z j = g) (hz : q3.1 ≤ snM z) (hq1 : q1.2.2 <:+ z.2.1) (hq2 : q2.2.2 <:+ z.2.1) (hq3 : q3.2.2 <:+ z.2.1) : DaI N z T j q3.1 := by sorry
end
/-- every S -/
theorem da_st {N : Int → Int} {M : Int} {C : CxT} {z : ZS} {T : TbT} {ms : MfT} (H : DfX N C z T ms) : ∀ n, n ≤ 21 → DaSo N z T (StD N M z n) := by sorry
/-! SURELY assigned, as the class goes, is what the function of y20 says: every S -/
/-- S's inside of what was read -/
def StW (z : ZS) (St : SsT) : SsT := fun a p q => St a p q ∧ q.1 ≤ snM z ∧ q.2.2 <:+ z.2.1
section
variable {N : Int → Int} {z : ZS} {T : TbT} {a lv t : Int} {j k : Nat} {l : List ItZ} {q : Ps} {St : SsT} {Rw : RsT}
theorem cs_sf {js : Nat} {p p1 : Ps} (h : CsD z lv js a p p1) : p1.1 = p.1 + 1 ∧ p.2.2 <:+ p1.2.2 := by sorry
theorem rw_w (hS : ∀ a p q, St a p q → p.1 < q.1 ∧ p.2.2 <:+ q.2.2) {sw : Int} : ∀ (L : List Nat) (p q : Ps), RwD St z lv sw k a L p q → (p.1 ≤ q.1 ∧ p.2.2 <:+ q.2.2) ∧ (q.1 ≤ snM z → q.2.2 <:+ z.2.1 → RwD (StW z St) z lv sw k a L p q) := by sorry
theorem bk_w (hS : ∀ a p q, St a p q → p.1 < q.1 ∧ p.2.2 <:+ q.2.2) {lv' : Int} {p q : Ps} (h : BkD (RwD St z lv) z lv' a p q) (hz : q.1 ≤ snM z) (hq : q.2.2 <:+ z.2.1) : BkD (RwD (StW z St) z lv) z lv' a p q := by sorry
theorem da_ro (hD : DaSo N z T St) (hkd : ∀ a p q, St a p q → ¬ kjS z p.1 = 62 ∧ ¬ kjS z p.1 = 63) : DaRo N z T (RwD (StW z St) z lv) := by sorry
end
/-- every S -/
theorem as_all {N : Int → Int} {M : Int} {C : CxT} {z : ZS} {T : TbT} {ms : MfT} (H : DfX N C z T ms) (hp : ∀ i, i < snM z → paS z i < (i : Int)) : ∀ n, n ≤ 21 → AsSo N z T (StW z (StD N M z n)) := by sorry
/-! an ERROR of flow that is told stays told, as the class goes -/
section
variable {N : Int → Int} {z : ZS} {T : TbT} {j : Nat}
abbrev RSk (F : RcT) : Prop := (∀ x a r, (F.1 x a r).2.2.2.2 = false → r.2.2.2 = false) ∧ (∀ x a d r, (F.2.1 x a d r).2.2.2.2.2 = false → r.2.2.2 = false) ∧ ∀ j a r, (F.2.2 j a r).2.2.2.2 = false → r.2.2.2 = false
theorem rsk_rw {F : RcT} {r : RR} (h : RSk F) (q : (rwR F z j r).2.2.2.2 = false) : r.2.2.2 = false := h.1 _ _ _ q
theorem rsk_bd {F : RcT} {r : RR} {a : Bool} (h : RSk F) (q : (bdR F z j a r).2.2.2.2 = false) : r.2.2.2 = false := by sorry
theorem rsk_in {F : RcT} {r : RR} (h : RSk F) (q : (inR F N z T j r).2.2.2.2 = false) : r.2.2.2 = false := by sorry
theorem rsk_F : ∀ n, RSk (rcF N z T n) := by sorry
/-- none goes on where nothing is reached -/
theorem rc_al {f : Nat} {r : RR} {a : Bool} (hf : 1 ≤ f) (q : ((rcF N z T f).2.2 j a r).2.2.2.2 = false) : a = true := by sorry
abbrev geA (g : GzA) : Bool := g.2.2.2.2.2.2.2
abbrev ASk (F : AsT) : Prop := (∀ x m g, geA (F.1 x m g).2 = false → geA g = false) ∧ (∀ x ch m d g, geA (F.2.1 x ch m d g).2.2 = false → geA g = false) ∧ ∀ j m g, geA (F.2.2 j m g).2 = false → geA g = false
theorem ask_ex {g : GzA} {x : Int} {m : Int64} (q : geA (exB z T x m g).2 = false) : geA g = false := by sorry
/-- no ERROR in it: it is told -/
theorem ex_get {g : GzA} {x : Int} {m : Int64} (q : geA (exB z T x m g).2 = false) : ∃ e, exD z T x m = some e := by sorry
theorem ask_bd {F : AsT} {g : GzA} {m : Int64} (h : ASk F) (q : geA (bdA F z j m g).2 = false) : geA g = false := by sorry
theorem ask_in {F : AsT} {g : GzA} {m : Int64} (h : ASk F) (q : geA (inA F N z T j m g).2 = false) : geA g = false := by sorry
theorem ask_F : ∀ n, ASk (asF N z T n) := by sorry
end
/-! no ERROR of flow, as the class goes: then the function of y20 tells it -/
abbrev NcSo (N : Int → Int) (z : ZS) (T : TbT) (St : SsT) : Prop := ∀ a p q, St a p q → ∀ (f f' : Nat) (r : RR) (g : GzA) (m : Int64), 2 * (q.1 - p.1) ≤ f + 1 → 2 * (q.1 - p.1) ≤ f' + 1 → KrD z a p.1 q.1 → FrR p.1 q.1 r → FrAd p.1 q.1 g → ((rcF N z T f).2.2 p.1 true r).2.2.2.2 = false → geA ((asF N z T f').2.2 p.1 m g).2 = false → ∃ R, (dF N z T f).2.2 p.1 true m = some R
abbrev NcRo (N : Int → Int) (z : ZS) (T : TbT) (Rw : RsT) : Prop := ∀ a L p q, Rw 0 0 a L p q → ∀ (f f' : Nat) (r : RR) (g : GzA) (al : Bool) (m : Int64), 2 * (q.1 - p.1) ≤ f → 2 * (q.1 - p.1) ≤ f' → KrW z a p.1 q.1 → FrR p.1 q.1 r → FrAd p.1 q.1 g → ((rcF N z T f).1 (hdI L) al r).2.2.2.2 = false → geA ((asF N z T f').1 (hdI L) m g).2 = false → ∃ R, (dF N z T f).1 (hdI L) al m = some R
def NcI (N : Int → Int) (z : ZS) (T : TbT) (a : Int) (j hi : Nat) : Prop := ∀ (f f' : Nat) (r : RR) (g : GzA) (m : Int64), 2 * (hi - j) ≤ f + 2 → 2 * (hi - j) ≤ f' + 2 → KrD z a j hi → FrR j hi r → FrAd j hi g → (inR (rcF N z T f) N z T j r).2.2.2.2 = false → geA (inA (asF N z T f') N z T j m (gaB j m g)).2 = false → ∃ R, inD' (dF N z T f) N z T j m = some R
section
variable {N : Int → Int} {z : ZS} {T : TbT} {a lv t : Int} {j k : Nat} {l : List ItZ} {q : Ps} {St : SsT} {Rw : RsT}
theorem nb_S (hN : NcSo N z T St) (hC : RcSo N z T St) (hA : AsSo N z T St) {p q : Ps} (hs : St a p q) {f f' : Nat} {r : RR} {g : GzA} {m : Int64} (hf : 2 * (q.1 - p.1) ≤ f + 1) (hf' : 2 * (q.1 - p.1) ≤ f' + 1) (K : KrD z a p.1 q.1) (hr : FrR p.1 q.1 r) (hg : FrAd p.1 q.1 g) (q1 : ((rcF N z T f).2.2 p.1 true r).2.2.2.2 = false) (q2 : geA ((asF N z T f').2.2 p.1 m g).2 = false) : ∃ R, (dF N z T f).2.2 p.1 true m = some R ∧ RcO N z T a p.1 q.1 r R ((rcF N z T f).2.2 p.1 true r) ∧ AsO z a p.1 q.1 g R ((asF N z T f').2.2 p.1 m g) := by sorry
theorem nc_lf (hk : kjS z j = 90 ∨ kjS z j = 94 ∨ kjS z j = 91 ∨ kjS z j = 93 ∨ kjS z j = 4 ∨ kjS z j = 66 ∨ kjS z j = 67) {f f' : Nat} {g : GzA} {m : Int64} (q2 : geA (inA (asF N z T f') N z T j m (gaB j m g)).2 = false) : ∃ R, inD' (dF N z T f) N z T j m = some R := by sorry
theorem nc_ju (hk : kjS z j = 64 ∨ kjS z j = 65) : NcI N z T a j (j + 1) := by sorry
theorem nc_bl (hR : NcRo N z T Rw) (hle : ∀ a L p q, Rw 0 0 a L p q → p.1 ≤ q.1) {L : List Nat} {p : Nat × List ItZ} (hr : Rw 0 0 j L (j + 1, p) q) (hk : kjS z j = 2) (hpa : paS z j = a) (hb : bjS z j = hdI L) : NcI N z T a j q.1 := by sorry
theorem nc_la (hS : NcSo N z T St) (hC : RcSo N z T St) {p : Nat × List ItZ} {q1 : Ps} (hs : St j (j + 1, p) q1) (hk : kjS z j = 6) (hpa : paS z j = a) (hb : bjS z j = ((j + 1 : Nat) : Int)) : NcI N z T a j q1.1 := by sorry
theorem nc_if1 (hS : NcSo N z T St) (hC : RcSo N z T St) {p : Nat × List ItZ} {q1 : Ps} (hs : St j (j + 1, p) q1) (hk : kjS z j = 56) (hpa : paS z j = a) (hb : bjS z j = ((j + 1 : Nat) : Int)) (ho : ojS z j = -1) : NcI N z T a j q1.1 := by sorry
theorem nc_if2 (hS : NcSo N z T St) (hC : RcSo N z T St) (hA : AsSo N z T St) {p : Nat × List ItZ} {q1 q2 : Ps} {p2 : Nat × List ItZ} (hs : St j (j + 1, p) q1) (hs2 : St j (q1.1, p2) q2) (hk : kjS z j = 56) (hpa : paS z j = a) (hb : bjS z j = ((j + 1 : Nat) : Int)) (ho : ojS z j = (q1.1 : Int)) : NcI N z T a j q2.1 := by sorry
theorem nc_do (hS : NcSo N z T St) (hC : RcSo N z T St) (hA : AsSo N z T St) {p : Nat × List ItZ} {q1 : Ps} (hs : St j (j + 1, p) q1) (hk : kjS z j = 59) (hpa : paS z j = a) (hb : bjS z j = ((j + 1 : Nat) : Int)) : NcI N z T a j q1.1 := by sorry
theorem nc_wh (hS : NcSo N z T St) (hC : RcSo N z T St) {p : Nat × List ItZ} {q1 : Ps} (hs : St j (j + 1, p) q1) (hk : kjS z j = 58) (hpa : paS z j = a) (hb : bjS z j = ((j + 1 : Nat) : Int)) : NcI N z T a j q1.1 := by sorry
/-- exps of for -/
theorem nc_S1 (hk : kjS z j = 94 ∨ kjS z j = 93) (hl : lvS z j ≤ 20) {f f' : Nat} {g : GzA} {m : Int64} (hf : 1 ≤ f) (hf' : 1 ≤ f') (q2 : geA ((asF N z T f').2.2 j m g).2 = false) : ∃ R, (dF N z T f).2.2 j true m = some R ∧ R.1 = true := by sorry
theorem nc_fx (hl : lv ≤ 20) : ∀ (L : List Nat) (p q : Ps), FxD z lv a L p q → ∀ (f f' : Nat) (g : GzA) (m : Int64), 2 * (q.1 - p.1) ≤ f → 2 * (q.1 - p.1) ≤ f' → KrW z a p.1 q.1 → FrAd p.1 q.1 g → geA ((asF N z T f').1 (hdI L) m g).2 = false → ∃ R, (dF N z T f).1 (hdI L) true m = some R := by sorry
theorem nc_fi (hl : lv ≤ 20) {o : Int} {p q : Ps} (h : FiD z lv j o p q) {f f' : Nat} {g : GzA} {m : Int64} (hf : 2 * (q.1 - p.1) ≤ f) (hf' : 2 * (q.1 - p.1) ≤ f') (K : KrW z (j : Int) p.1 q.1) (hG : FrAd p.1 q.1 g) (e2 : geA ((asF N z T f').1 o m g).2 = false) : ∃ R, (dF N z T f).1 o true m = some R := by sorry
theorem nc_fo (hp : ∀ i, i < snM z → paS z i < (i : Int)) (hS : NcSo N z T St) (hC : RcSo N z T St) (hA : AsSo N z T St) (hT : JtSo N z T St) (hl : lv ≤ 20) {p1 : Nat × List ItZ} {q1 q3 q4 : Ps} {p3 p4 : Nat × List ItZ} {o gg : Int} {L : List Nat} (h1 : FiD z lv j o (j + 1, p1) q1) (h3 : FxD z lv (j : Int) L (q1.1, p3) q3) (hs : St j (q3.1, p4) q4) (hgL : gg = hdI L) (hk : kjS z j = 60) (hpa : paS z j = a) (hb : bjS z j = (q3.1 : Int)) (ho : ojS z j = o) (hg : gjS z j = gg) : NcI N z T a j q4.1 := by sorry
end
/-! no ERROR of flow, as the class goes: switch, try, every S -/
section
variable {N : Int → Int} {z : ZS} {T : TbT} {a lv t : Int} {j k : Nat} {l : List ItZ} {q : Ps} {St : SsT} {Rw : RsT}
/-- rows -/
theorem nc_row (hS : NcSo N z T St) (hC : RcSo N z T St) (hA : AsSo N z T St) : NcRo N z T (RwD St z lv) := by sorry
theorem nc_srow (hS : NcSo N z T St) (hC : RcSo N z T St) (hA : AsSo N z T St) (hkd : ∀ a p q, St a p q → ¬ kjS z p.1 = 62 ∧ ¬ kjS z p.1 = 63) : ∀ (L : List Nat) (p q : Ps), RwD St z lv 1 k a L p q → ∀ (f f' : Nat) (r : RR) (g : GzA) (al d : Bool) (m ch : Int64), 2 * (q.1 - p.1) ≤ f → 2 * (q.1 - p.1) ≤ f' → KrW z a p.1 q.1 → FrR p.1 q.1 r → FrAd p.1 q.1 g → ((rcF N z T f).2.1 (hdI L) al d r).2.2.2.2.2 = false → geA ((asF N z T f').2.1 (hdI L) ch m d g).2.2 = false → ∃ R, (dF N z T f).2.1 (hdI L) ch al m d = some R := by sorry
theorem nc_sw (hS : NcSo N z T St) (hC : RcSo N z T St) (hA : AsSo N z T St) (hkd : ∀ a p q, St a p q → ¬ kjS z p.1 = 62 ∧ ¬ kjS z p.1 = 63) {L : List Nat} {p : Nat × List ItZ} {q1 : Ps} (hr : RwD St z lv 1 k j L (j + 1, p) q1) (hk : kjS z j = 61) (hpa : paS z j = a) (hb : bjS z j = hdI L) : NcI N z T a j q1.1 := by sorry
/-- a block of try -/
theorem nc_bk (hR : NcRo N z T Rw) (hle : ∀ a L p q, Rw 0 0 a L p q → p.1 ≤ q.1) (hl : lv ≤ 20) {p q : Ps} (hB : BkD Rw z lv (j : Int) p q) {hi : Nat} (hq : q.1 ≤ hi) (K : KrD z a j hi) (hk : ¬ kjS z j = 92) (hpa : paS z j = a) (hg : 0 ≤ gjS z j → ¬ gjS z j = (p.1 : Int) → (q.1 : Int) ≤ gjS z j) {f f' : Nat} {r : RR} {g : GzA} {m : Int64} (hf : 2 * (q.1 - p.1) ≤ f + 2) (hf' : 2 * (q.1 - p.1) ≤ f' + 1) (hF : FrR p.1 q.1 r) (hG : FrAd p.1 q.1 g) (e1 : (rwR (rcF N z T f) z p.1 r).2.2.2.2 = false) (e2 : geA ((asF N z T f').2.2 p.1 m g).2 = false) : ∃ R, (dF N z T f).1 (bjS z p.1) true m = some R := by sorry
theorem nc_ty (hp : ∀ i, i < snM z → paS z i < (i : Int)) (hR : NcRo N z T Rw) (hC : RcRo N z T Rw) (hA : AsRo N z T Rw) (hT : JtRo N z T Rw) (hl : lv ≤ 20) {p : Nat × List ItZ} {q1 q2 q3 : Ps} {o g : Int} (B1 : BkD Rw z lv (j : Int) (j + 1, p) q1) (B2 : (o = -1 ∧ q2.1 = q1.1) ∨ (o = (q1.1 : Int) ∧ ∃ p2, BkD Rw z lv (j : Int) (q1.1, p2) q2)) (B3 : (g = -1 ∧ q3.1 = q2.1) ∨ (g = (q2.1 : Int) ∧ ∃ p3, BkD Rw z lv (j : Int) (q2.1, p3) q3)) (hk : kjS z j = 68) (hpa : paS z j = a) (hb : bjS z j = ((j + 1 : Nat) : Int)) (ho : ojS z j = o) (hg : gjS z j = g) : NcI N z T a j q3.1 := by sorry
end
/-- every S -/
theorem nc_all {N : Int → Int} {M : Int} {C : CxT} {z : ZS} {T : TbT} {ms : MfT} (H : DfX N C z T ms) (hp : ∀ i, i < snM z → paS z i < (i : Int)) : ∀ n, n ≤ 21 → NcSo N z T (StW z (StD N M z n)) := by sorry
/-! flow of the class, method by method: REACHED and SURELY assigned are what the function of y20 says -/
section
variable {N : Int → Int} {z : ZS} {T : TbT} {ms : MfT} {C : CxT}
theorem fac_m1 {hi j : Nat} (hpa : paS z j = -1) : ∀ k, FaC z hi k (j : Int) := by sorry
theorem me_fl (H : DfX N C z T ms) (hp : ∀ i, i < snM z → paS z i < (i : Int)) {M : Nat} {p p1 : Ps} (h : MeD N z M p p1) (hz : p1.1 ≤ snM z) (hq : p1.2.2 <:+ z.2.1) {f : Nat} (hf : 2 * snM z ≤ f) {r : RR} {g : GzA} {m : Int64} (hF : FrR p.1 p1.1 r) (hG : FrAd p.1 p1.1 g) :
    p.1 < p1.1 ∧ ((rwR (rcF N z T f) z p.1 r).2.2.2.2 = false → geA ((asF N z T f).2.2 p.1 m g).2 = false → ∃ R, (dF N z T f).1 (bjS z p.1) true m = some R) ∧
    ∀ R, (dF N z T f).1 (bjS z p.1) true m = some R →
      ((rwR (rcF N z T f) z p.1 r).1 = R.1 ∧ (rwR (rcF N z T f) z p.1 r).2.2.2.2 = r.2.2.2 ∧ (∀ i, ¬ (p.1 ≤ i ∧ i < p1.1) → (rwR (rcF N z T f) z p.1 r).2.1 i = r.1 i) ∧ (∀ i, p1.1 ≤ i → (rwR (rcF N z T f) z p.1 r).2.2.1 i = r.2.1 i ∧ (rwR (rcF N z T f) z p.1 r).2.2.2.1 i = r.2.2.1 i) ∧ LgR z p.1 p1.1 (rwR (rcF N z T f) z p.1 r).2 R.2.2.2) ∧
      (geA ((asF N z T f).2.2 p.1 m g).2 = geA g ∧ (∀ i, ¬ (p.1 ≤ i ∧ i < p1.1) → ((asF N z T f).2.2 p.1 m g).2.1 i = g.1 i) ∧ (∀ i, p1.1 ≤ i → ((asF N z T f).2.2 p.1 m g).2.2.2.1 i = g.2.2.1 i ∧ ((asF N z T f).2.2 p.1 m g).2.2.2.2.1 i = g.2.2.2.1 i) ∧ LgA z p.1 p1.1 ((asF N z T f).2.2 p.1 m g).2 R.2.2.2) := by sorry
end
/-- the flow of all methods is fine -/
def FlO (N : Int → Int) (z : ZS) (T : TbT) (ms : MfT) (V1 : Nat → Int) (f : Nat) : List Nat → Nat → Prop
  | [], _ => True
  | j :: L, M => (∃ R, (dF N z T f).1 (bjS z j) true (pbL (V1 M) (npT ms M) 0 zerB) = some R ∧ (R.1 = true → mtyN ms M = 5)) ∧ FlO N z T ms V1 f L (M + 1)
/-- each S: bits ahead of it, whether it ends -/
def FlG (N : Int → Int) (z : ZS) (T : TbT) (ms : MfT) (V1 : Nat → Int) (f : Nat) : List Nat → Nat → List (Nat × Int64 × Bool)
  | [], _ => []
  | j :: L, M => (match (dF N z T f).1 (bjS z j) true (pbL (V1 M) (npT ms M) 0 zerB) with
    | some R => R.2.2.2
    | none => []) ++ FlG N z T ms V1 f L (M + 1)
section
variable {N : Int → Int} {z : ZS} {T : TbT} {ms : MfT} {C : CxT}
theorem ral_sk {J : Nat → Nat} {f : Nat} : ∀ (n k : Nat) (r : RR), (raL (rcF N z T f) z ms J n k r).2.2.2 = false → r.2.2.2 = false := by sorry
theorem asl_sk {J : Nat → Nat} {V1 : Nat → Int} {f : Nat} : ∀ (n k : Nat) (g : GzA), geA (asL (asF N z T f) ms J V1 n k g) = false → geA g = false := by sorry
theorem fl_all (H : DfX N C z T ms) (hp : ∀ i, i < snM z → paS z i < (i : Int)) {J : Nat → Nat} {V1 : Nat → Int} {f : Nat} (hf : 2 * snM z ≤ f) : ∀ (L : List Nat) (M : Nat) (p q : Ps), PrD N z L M p q → q.1 ≤ snM z → q.2.2 <:+ z.2.1 → (∀ i j, L[i]? = some j → J (M + i) = j) → (p.1 ≤ q.1 ∧ p.2.2 <:+ q.2.2) ∧ ∀ (r : RR) (g : GzA), FrR p.1 q.1 r → FrAd p.1 q.1 g → r.2.2.2 = false → geA g = false →
    (((raL (rcF N z T f) z ms J L.length M r).2.2.2 = false ∧ geA (asL (asF N z T f) ms J V1 L.length M g) = false) ↔ FlO N z T ms V1 f L M) ∧
    (FlO N z T ms V1 f L M → LgR z p.1 q.1 (raL (rcF N z T f) z ms J L.length M r) (FlG N z T ms V1 f L M) ∧ LgA z p.1 q.1 (asL (asF N z T f) ms J V1 L.length M g) (FlG N z T ms V1 f L M) ∧ ∀ i, i < p.1 → (raL (rcF N z T f) z ms J L.length M r).1 i = r.1 i ∧ (asL (asF N z T f) ms J V1 L.length M g).1 i = g.1 i) := by sorry
end
/-! the function of y20 tells of every S -/
def SkD (z : ZS) (i : Nat) : Prop := ¬ kjS z i = 62 ∧ ¬ kjS z i = 63 ∧ ¬ kjS z i = 92 ∧ ¬ kjS z i = 93 ∧ ¬ kjS z i = 94
def CvG (z : ZS) (lo hi : Nat) (G : List (Nat × Int64 × Bool)) : Prop := ∀ i, lo ≤ i → i < hi → SkD z i → ∃ x ∈ G, x.1 = i
abbrev CvSo (N : Int → Int) (z : ZS) (T : TbT) (St : SsT) : Prop := ∀ a p q, St a p q → p.1 < q.1 ∧ ∀ (f : Nat) (m : Int64) (R : ReG), 2 * (q.1 - p.1) ≤ f + 1 → (dF N z T f).2.2 p.1 true m = some R → CvG z p.1 q.1 R.2.2.2
abbrev CvRw (N : Int → Int) (z : ZS) (T : TbT) (Rw : RsT) : Prop := ∀ sw k a L p q, Rw sw k a L p q → p.1 ≤ q.1 ∧ ∀ (f : Nat) (al : Bool) (m : Int64), 2 * (q.1 - p.1) ≤ f → (sw = 0 → ∀ R : ReG, (dF N z T f).1 (hdI L) al m = some R → CvG z p.1 q.1 R.2.2.2) ∧ (sw = 1 → ∀ (ch : Int64) (d : Bool) (R : Bool × ReG), (dF N z T f).2.1 (hdI L) ch al m d = some R → CvG z p.1 q.1 R.2.2.2.2)
def CvI (N : Int → Int) (z : ZS) (T : TbT) (j hi : Nat) : Prop := ∀ (f : Nat) (m : Int64) (R : ReG), 2 * (hi - j) ≤ f + 2 → inD' (dF N z T f) N z T j m = some R → CvG z (j + 1) hi R.2.2.2
section
variable {N : Int → Int} {z : ZS} {T : TbT} {a lv t : Int} {j k : Nat} {l : List ItZ} {q : Ps} {St : SsT} {Rw : RsT} {lo mi hi : Nat} {G G' : List (Nat × Int64 × Bool)}
theorem CvG.nil (h : hi ≤ lo) : CvG z lo hi G := fun i a b _ => by omega
theorem CvG.ap (h : CvG z lo mi G) (g : CvG z mi hi G') : CvG z lo hi (G ++ G') := by sorry
theorem CvG.sk (h : CvG z mi hi G) (g : ∀ i, lo ≤ i → i < mi → ¬ SkD z i) : CvG z lo hi G := by sorry
theorem cv_bl (hR : CvRw N z T Rw) {L : List Nat} {p : Nat × List ItZ} (hr : Rw 0 0 j L (j + 1, p) q) (hk : kjS z j = 2) (hb : bjS z j = hdI L) : CvI N z T j q.1 := by sorry
theorem cv_la (hS : CvSo N z T St) {p : Nat × List ItZ} {q1 : Ps} (hs : St j (j + 1, p) q1) (hk : kjS z j = 6) (hb : bjS z j = ((j + 1 : Nat) : Int)) : CvI N z T j q1.1 := by sorry
theorem cv_if1 (hS : CvSo N z T St) {p : Nat × List ItZ} {q1 : Ps} (hs : St j (j + 1, p) q1) (hk : kjS z j = 56) (hb : bjS z j = ((j + 1 : Nat) : Int)) (ho : ojS z j = -1) : CvI N z T j q1.1 := by sorry
theorem cv_if2 (hS : CvSo N z T St) {p : Nat × List ItZ} {q1 q2 : Ps} {p2 : Nat × List ItZ} (hs : St j (j + 1, p) q1) (hs2 : St j (q1.1, p2) q2) (hk : kjS z j = 56) (hb : bjS z j = ((j + 1 : Nat) : Int)) (ho : ojS z j = (q1.1 : Int)) : CvI N z T j q2.1 := by sorry
theorem cv_wh (hS : CvSo N z T St) {b : Nat} {p : Nat × List ItZ} {q1 : Ps} (hs : St j (b, p) q1) (hjb : j < b) (hk : kjS z j = 58 ∨ kjS z j = 60) (hb : bjS z j = (b : Int)) (hn : ∀ i, j + 1 ≤ i → i < b → ¬ SkD z i) : CvI N z T j q1.1 := by sorry
theorem cv_do (hS : CvSo N z T St) {p : Nat × List ItZ} {q1 : Ps} (hs : St j (j + 1, p) q1) (hk : kjS z j = 59) (hb : bjS z j = ((j + 1 : Nat) : Int)) : CvI N z T j q1.1 := by sorry
theorem cv_row (hS : CvSo N z T St) (hkd : ∀ a p q, St a p q → ¬ kjS z p.1 = 62 ∧ ¬ kjS z p.1 = 63) : CvRw N z T (RwD St z lv) := by sorry
theorem cv_sw (hR : CvRw N z T Rw) {L : List Nat} {p : Nat × List ItZ} {q1 : Ps} (hr : Rw 1 k j L (j + 1, p) q1) (hk : kjS z j = 61) (hb : bjS z j = hdI L) : CvI N z T j q1.1 := by sorry
theorem cv_bk (hR : CvRw N z T Rw) {p q : Ps} (hB : BkD Rw z lv a p q) {f : Nat} {m : Int64} {R : ReG} (hf : 2 * (q.1 - p.1) ≤ f + 2) (h : (dF N z T f).1 (bjS z p.1) true m = some R) : CvG z p.1 q.1 R.2.2.2 := by sorry
theorem cv_ty (hR : CvRw N z T Rw) {p : Nat × List ItZ} {q1 q2 q3 : Ps} {o g : Int} (B1 : BkD Rw z lv (j : Int) (j + 1, p) q1) (B2 : (o = -1 ∧ q2.1 = q1.1) ∨ (o = (q1.1 : Int) ∧ ∃ p2, BkD Rw z lv (j : Int) (q1.1, p2) q2)) (B3 : (g = -1 ∧ q3.1 = q2.1) ∨ (g = (q2.1 : Int) ∧ ∃ p3, BkD Rw z lv (j : Int) (q2.1, p3) q3)) (hk : kjS z j = 68) (hb : bjS z j = ((j + 1 : Nat) : Int)) (ho : ojS z j = o) (hg : gjS z j = g) : CvI N z T j q3.1 := by sorry
theorem fi_kd {o : Int} {p q : Ps} (h : FiD z lv j o p q) : ∀ i, p.1 ≤ i → i < q.1 → kjS z i = 93 ∨ kjS z i = 94 := by sorry
end
/-- every S -/
theorem cv_st {N : Int → Int} {M : Int} {z : ZS} {T : TbT} : ∀ n, CvSo N z T (StD N M z n) := by sorry
/-- every S of the program -/
theorem cv_pr {N : Int → Int} {z : ZS} {T : TbT} {ms : MfT} {V1 : Nat → Int} {f : Nat} (hf : 2 * snM z ≤ f) : ∀ (L : List Nat) (M : Nat) (p q : Ps), PrD N z L M p q → q.1 ≤ snM z → p.1 ≤ q.1 ∧ (FlO N z T ms V1 f L M → CvG z p.1 q.1 (FlG N z T ms V1 f L M)) := by sorry
/-! the reference's flow: runs from a state to the end; an ERROR of flow stays told -/
/-- n codes, the first one first -/
def FlC : Nat → RS → Int32 → Int32 → RS → Int32 → Int32 → Prop
  | 0, σ, c, m, τ, d, k => σ = τ ∧ c = d ∧ m = k
  | n + 1, σ, c, m, τ, d, k => c < gI σ 18 ∧ ∃ (Y : RS) (c1 m1 : Int32), FlwR σ c m Y c1 m1 ∧ FlC n Y c1 m1 τ d k
theorem flc_sn : ∀ (n : Nat) {σ : RS} {c m : Int32} {Y : RS} {d k : Int32} {τ : RS} {e l : Int32}, FlC n σ c m Y d k → d < gI Y 18 → FlwR Y d k τ e l → FlC (n + 1) σ c m τ e l := by sorry
theorem flt_c {σ0 : RS} : ∀ (n : Nat) {Y : RS} {c m : Int32}, FlT σ0 n Y c m → FlC n σ0 0 0 Y c m := by sorry
/-- from here the run gets to τ, where no code is left -/
def RnR (τ : RS) (σ : RS) (c m : Int32) : Prop := ∃ (n : Nat) (d k : Int32), FlC n σ c m τ d k ∧ ¬ d < gI τ 18
theorem RnR.st {τ σ : RS} {c m : Int32} (h : RnR τ σ c m) (hc : c < gI σ 18) : ∃ (Y : RS) (c1 m1 : Int32), FlwR σ c m Y c1 m1 ∧ RnR τ Y c1 m1 := by sorry
theorem RnR.en {τ σ : RS} {c m : Int32} (h : RnR τ σ c m) (hc : ¬ c < gI σ 18) : σ = τ := by sorry
theorem fk_20 {σ : RS} {c : Int32} : gI (fs_20 σ c).1 112 = gI σ 112 ∧ gI (fs_20 σ c).1 114 = gI σ 114 := by sorry
theorem fk_21 {σ : RS} {c : Int32} : gI (fs_21 σ c).1 112 = gI σ 112 ∧ gI (fs_21 σ c).1 114 = gI σ 114 := by sorry
theorem fk_22 {σ : RS} {c : Int32} : gI (fs_22 σ c).1 112 = gI σ 112 ∧ gI (fs_22 σ c).1 114 = gI σ 114 := by sorry
theorem fk_23 {σ : RS} {c : Int32} : gI (fs_23 σ c).1 112 = gI σ 112 ∧ gI (fs_23 σ c).1 114 = gI σ 114 := by sorry
theorem fk_24 {σ : RS} {c : Int32} : gI (fs_24 σ c).1 112 = gI σ 112 ∧ gI (fs_24 σ c).1 114 = gI σ 114 := by sorry
theorem fk_25 {σ : RS} {c : Int32} : gI (fs_25 σ c).1 112 = gI σ 112 ∧ gI (fs_25 σ c).1 114 = gI σ 114 := by sorry
theorem fk_27 {σ : RS} {c : Int32} : gI (fs_27 σ c).1 112 = gI σ 112 ∧ gI (fs_27 σ c).1 114 = gI σ 114 := by sorry
theorem fk_28 {σ : RS} {c : Int32} : gI (fs_28 σ c).1 112 = gI σ 112 ∧ gI (fs_28 σ c).1 114 = gI σ 114 := by sorry
theorem fk_30 {σ : RS} {c : Int32} : gI (fs_30 σ c).1 112 = gI σ 112 ∧ gI (fs_30 σ c).1 114 = gI σ 114 := by sorry
theorem fk_31 {σ : RS} {c : Int32} : gI (fs_31 σ c).1 112 = gI σ 112 ∧ gI (fs_31 σ c).1 114 = gI σ 114 := by sorry
theorem fk_33 {σ : RS} {c : Int32} : gI (fs_33 σ c).1 112 = gI σ 112 ∧ gI (fs_33 σ c).1 114 = gI σ 114 := by sorry
theorem fk_35 {σ : RS} {c : Int32} : gI (fs_35 σ c).1 112 = gI σ 112 ∧ gI (fs_35 σ c).1 114 = gI σ 114 := by sorry
theorem fk_36 {σ : RS} {c : Int32} : gI (fs_36 σ c).1 112 = gI σ 112 ∧ gI (fs_36 σ c).1 114 = gI σ 114 := by sorry
theorem fk_37 {σ : RS} {c : Int32} : gI (fs_37 σ c).1 112 = gI σ 112 ∧ gI (fs_37 σ c).1 114 = gI σ 114 := by sorry
theorem fk_38 {σ : RS} {c : Int32} : gI (fs_38 σ c).1 112 = gI σ 112 ∧ gI (fs_38 σ c).1 114 = gI σ 114 := by sorry
theorem fk_39 {σ : RS} {c : Int32} : gI (fs_39 σ c).1 112 = gI σ 112 ∧ gI (fs_39 σ c).1 114 = gI σ 114 := by sorry
theorem fk_40 {σ : RS} {c : Int32} : gI (fs_40 σ c).1 112 = gI σ 112 ∧ gI (fs_40 σ c).1 114 = gI σ 114 := by sorry
theorem fk_42 {σ : RS} {c : Int32} : gI (fs_42 σ c).1 112 = gI σ 112 ∧ gI (fs_42 σ c).1 114 = gI σ 114 := by sorry
theorem fk_45 {σ : RS} {c : Int32} : gI (fs_45 σ c).1 112 = gI σ 112 ∧ gI (fs_45 σ c).1 114 = gI σ 114 := by sorry
theorem fk_46 {σ : RS} {c : Int32} : gI (fs_46 σ c).1 112 = gI σ 112 ∧ gI (fs_46 σ c).1 114 = gI σ 114 := by sorry
theorem fk_47 {σ : RS} {c : Int32} : gI (fs_47 σ c).1 112 = gI σ 112 ∧ gI (fs_47 σ c).1 114 = gI σ 114 := by sorry
theorem fk_48 {σ : RS} {c : Int32} : gI (fs_48 σ c).1 112 = gI σ 112 ∧ gI (fs_48 σ c).1 114 = gI σ 114 := by sorry
theorem fk_49 {σ : RS} {c : Int32} : gI (fs_49 σ c).1 112 = gI σ 112 ∧ gI (fs_49 σ c).1 114 = gI σ 114 := by sorry
theorem fk_50 {σ : RS} {c : Int32} : gI (fs_50 σ c).1 112 = gI σ 112 ∧ gI (fs_50 σ c).1 114 = gI σ 114 := by sorry
theorem fk_51 {σ : RS} {c : Int32} : gI (fs_51 σ c).1 112 = gI σ 112 ∧ gI (fs_51 σ c).1 114 = gI σ 114 := by sorry
theorem fk_52 {σ : RS} {c : Int32} : gI (fs_52 σ c).1 112 = gI σ 112 ∧ gI (fs_52 σ c).1 114 = gI σ 114 := by sorry
theorem fk_53 {σ : RS} {c : Int32} : gI (fs_53 σ c).1 112 = gI σ 112 ∧ gI (fs_53 σ c).1 114 = gI σ 114 := by sorry
theorem fk_S {σ : RS} {c : Int32} : gI (fsS σ c).1 112 = gI σ 112 ∧ gI (fsS σ c).1 114 = gI σ 114 := by sorry
def FkP (σ τ : RS) : Prop := gI τ 112 = gI σ 112 ∧ gI τ 114 = gI σ 114
theorem fk_if {σ a b : RS} {p : Prop} [Decidable p] (h1 : FkP σ a) (h2 : FkP σ b) : FkP σ (if p then a else b) := by sorry
theorem fk_x {σ : RS} {c : Int32} : FkP σ (fxS σ c) := by sorry
/-- an ERROR of flow is told -/
def BdF (σ : RS) : Prop := ¬ gI σ 112 = 0 ∨ ¬ gI σ 114 = 0
theorem bd_st {σ τ : RS} {c m d k : Int32} (h : FlwR σ c m τ d k) (hb : BdF σ) : BdF τ := by sorry
theorem bd_rn : ∀ (n : Nat) {σ τ : RS} {c m d k : Int32}, FlC n σ c m τ d k → BdF σ → BdF τ := by sorry
theorem RnR.bd {τ σ : RS} {c m : Int32} (h : RnR τ σ c m) (hb : BdF σ) : BdF τ := by sorry
/-! the reference's jumps as a list -/
/-- thing, by continue, from which code, whether alive, bits -/
abbrev JfZ : Type := Int32 × Int32 × Int32 × Int32 × Int64
def jmE (σ : RS) (i : Nat) : JfZ := (aI σ 104 i, aI σ 105 i, aI σ 106 i, aI σ 107 i, aL σ 108 i)
def jmL (σ : RS) : Nat → List JfZ
  | 0 => []
  | n + 1 => jmL σ n ++ (if 0 ≤ aI σ 104 n then [jmE σ n] else [])
theorem jm_cg {σ τ : RS} : ∀ (n : Nat), (∀ i, i < n → jmE τ i = jmE σ i) → jmL τ n = jmL σ n := by sorry
def cjB (k on : Int32) : List JfZ → Int64
  | [] => Int64.ofInt (-1)
  | x :: J => if x.1 = k ∧ x.2.1 = on then x.2.2.2.2 &&& cjB k on J else cjB k on J
def cjA (k on : Int32) (J : List JfZ) : Prop := ∃ x ∈ J, (x.1 = k ∧ x.2.1 = on) ∧ ¬ x.2.2.2.1 = 0
theorem cjB_ap {k on : Int32} : ∀ {J K : List JfZ}, cjB k on (J ++ K) = cjB k on J &&& cjB k on K := by sorry
section
variable {σ : RS} {k on : Int32}
/-- where the jumps lead behind what comes to k -/
theorem co_row (hk : 0 ≤ k) : ∀ (n i : Nat), (coF σ k on n).2.2 i = if i < n ∧ aI σ 104 i = k ∧ aI σ 105 i = on then -5 else aI σ 104 i := by sorry
/-- what comes: bits, whether one is alive -/
theorem co_bits (hk : 0 ≤ k) : ∀ (n : Nat), (coF σ k on n).1 = cjB k on (jmL σ n) ∧ (¬ (coF σ k on n).2.1 = 0 ↔ cjA k on (jmL σ n)) := by sorry
/-- what is left of the jumps -/
theorem co_left (hk : 0 ≤ k) {N : Nat} : ∀ (n : Nat), n ≤ N → jmL (coS σ k on N) n = (jmL σ n).filter (fun x => !decide (x.1 = k ∧ x.2.1 = on)) := by sorry
theorem ifc {α : Type} {p q : Prop} [Decidable p] [Decidable q] {a b : α} (h : p ↔ q) : (if p then a else b) = (if q then a else b) := by sorry
/-- through a finally -/
def thrJ (σ : RS) (k : Int32) (x : JfZ) : JfZ := if aI σ 51 k.toNatClampNeg ≤ x.2.2.1 ∧ x.2.2.1 ≤ aI σ 58 k.toNatClampNeg then (x.1, x.2.1, x.2.2.1, if ¬ x.2.2.2.1 = 0 ∧ ¬ gI σ 92 = 0 then 1 else 0, if gI σ 92 = 0 then Int64.ofInt (-1) else x.2.2.2.2 ||| nowR σ) else x
theorem en_row : ∀ (n i : Nat), (enF σ k n).1 i = (if i < n ∧ 0 ≤ aI σ 104 i then (thrJ σ k (jmE σ i)).2.2.2.1 else aI σ 107 i) ∧ (enF σ k n).2 i = (if i < n ∧ 0 ≤ aI σ 104 i then (thrJ σ k (jmE σ i)).2.2.2.2 else aL σ 108 i) := by sorry
theorem en_left {N : Nat} : ∀ (n : Nat), n ≤ N → jmL (enS σ k N) n = (jmL σ n).map (thrJ σ k) := by sorry
end
/-! the reference's flow: what it leaves alone -/
def flI (k : Nat) : Bool := k == 92 || k == 100 || k == 103 || k == 112 || k == 113 || k == 114 || k == 115 || k == 116 || k == 117
def flL (k : Nat) : Bool := k == 93 || k == 94
def flA (k : Nat) : Bool := k == 95 || k == 97 || k == 104 || k == 105 || k == 106 || k == 107 || k == 109 || k == 111
def flM (k : Nat) : Bool := k == 96 || k == 98 || k == 99 || k == 101 || k == 102 || k == 108 || k == 110
def FfR (σ τ : RS) : Prop := (∀ k, flI k = false → gI τ k = gI σ k) ∧ (∀ k, flL k = false → gL τ k = gL σ k) ∧ (∀ k, flA k = false → aI τ k = aI σ k) ∧ ∀ k, flM k = false → aL τ k = aL σ k
section
variable {σ τ υ : RS} {k : Nat}
theorem FfR.rf : FfR σ σ := by sorry
theorem FfR.tr (h : FfR σ τ) (g : FfR τ υ) : FfR σ υ := by sorry
theorem ff_ne {P : Nat → Bool} {i k : Nat} (h : P k = true) (q : P i = false) : Nat.beq i k = false := by sorry
theorem FfR.I {v : Int32} (hk : flI k = true) (h : FfR σ τ) : FfR σ (sI τ k v) := by sorry
theorem FfR.L {v : Int64} (hk : flL k = true) (h : FfR σ τ) : FfR σ (sL τ k v) := by sorry
theorem FfR.A {v : Nat → Int32} (hk : flA k = true) (h : FfR σ τ) : FfR σ (sA τ k v) := by sorry
theorem FfR.M {v : Nat → Int64} (hk : flM k = true) (h : FfR σ τ) : FfR σ (sM τ k v) := by sorry
theorem FfR.be {b : Int64} (h : FfR σ τ) : FfR σ (beS τ b) := FfR.L rfl (FfR.L rfl h)
theorem FfR.co {k on : Int32} {n : Nat} (h : FfR σ τ) : FfR σ (coS τ k on n) := FfR.A rfl (FfR.I rfl h)
theorem FfR.en {k : Int32} {n : Nat} (h : FfR σ τ) : FfR σ (enS τ k n) := FfR.M rfl (FfR.A rfl h)
theorem FfR.la {u p : Int32} (h : FfR σ τ) : FfR σ (laS τ u p) := FfR.I rfl (FfR.I rfl h)
theorem FfR.un {u p : Int32} (h : FfR σ τ) : FfR σ (unS τ u p) := FfR.I rfl (FfR.I rfl h)
theorem FfR.tt {m : Int32} (h : FfR σ τ) : FfR σ (sttS τ m) := FfR.be (FfR.I rfl h)
theorem ff_if {a b : RS} {p : Prop} [Decidable p] (h1 : FfR σ a) (h2 : FfR σ b) : FfR σ (if p then a else b) := by sorry
end
theorem ff_20 {σ : RS} {c : Int32} : FfR σ (fs_20 σ c).1 := by sorry
theorem ff_21 {σ : RS} {c : Int32} : FfR σ (fs_21 σ c).1 := by sorry
theorem ff_22 {σ : RS} {c : Int32} : FfR σ (fs_22 σ c).1 := by sorry
theorem ff_23 {σ : RS} {c : Int32} : FfR σ (fs_23 σ c).1 := by sorry
theorem ff_24 {σ : RS} {c : Int32} : FfR σ (fs_24 σ c).1 := by sorry
theorem ff_25 {σ : RS} {c : Int32} : FfR σ (fs_25 σ c).1 := by sorry
theorem ff_27 {σ : RS} {c : Int32} : FfR σ (fs_27 σ c).1 := by sorry
theorem ff_28 {σ : RS} {c : Int32} : FfR σ (fs_28 σ c).1 := by sorry
theorem ff_30 {σ : RS} {c : Int32} : FfR σ (fs_30 σ c).1 := by sorry
theorem ff_31 {σ : RS} {c : Int32} : FfR σ (fs_31 σ c).1 := by sorry
theorem ff_33 {σ : RS} {c : Int32} : FfR σ (fs_33 σ c).1 := by sorry
theorem ff_35 {σ : RS} {c : Int32} : FfR σ (fs_35 σ c).1 := by sorry
theorem ff_36 {σ : RS} {c : Int32} : FfR σ (fs_36 σ c).1 := by sorry
theorem ff_37 {σ : RS} {c : Int32} : FfR σ (fs_37 σ c).1 := by sorry
theorem ff_38 {σ : RS} {c : Int32} : FfR σ (fs_38 σ c).1 := by sorry
theorem ff_39 {σ : RS} {c : Int32} : FfR σ (fs_39 σ c).1 := by sorry
theorem ff_40 {σ : RS} {c : Int32} : FfR σ (fs_40 σ c).1 := by sorry
theorem ff_42 {σ : RS} {c : Int32} : FfR σ (fs_42 σ c).1 := by sorry
theorem ff_45 {σ : RS} {c : Int32} : FfR σ (fs_45 σ c).1 := by sorry
theorem ff_46 {σ : RS} {c : Int32} : FfR σ (fs_46 σ c).1 := by sorry
theorem ff_47 {σ : RS} {c : Int32} : FfR σ (fs_47 σ c).1 := by sorry
theorem ff_48 {σ : RS} {c : Int32} : FfR σ (fs_48 σ c).1 := by sorry
theorem ff_49 {σ : RS} {c : Int32} : FfR σ (fs_49 σ c).1 := by sorry
theorem ff_50 {σ : RS} {c : Int32} : FfR σ (fs_50 σ c).1 := by sorry
theorem ff_51 {σ : RS} {c : Int32} : FfR σ (fs_51 σ c).1 := by sorry
theorem ff_52 {σ : RS} {c : Int32} : FfR σ (fs_52 σ c).1 := by sorry
theorem ff_53 {σ : RS} {c : Int32} : FfR σ (fs_53 σ c).1 := by sorry
theorem ff_S {σ : RS} {c : Int32} : FfR σ (fsS σ c).1 := by sorry
theorem ff_x {σ : RS} {c : Int32} : FfR σ (fxS σ c) := by sorry
theorem ff_st {σ τ : RS} {c m d k : Int32} (h : FlwR σ c m τ d k) : FfR σ τ := by sorry
/-! the reference's flow: one code, where no ERROR of flow is told in the end -/
section
variable {σ τ : RS} {c m d k : Int32}
/-- an exp's code -/
theorem sx_st (h : FlwR σ c m τ d k) (hb : ¬ BdF τ) (hc : aI σ 19 c.toNatClampNeg ≤ 18) : ¬ BdF σ ∧ ¬ uvR σ c ∧ d = c + 1 ∧ k = m ∧ ∃ p, τ = fxS (unS σ 0 p) c := by sorry
/-- an S's code -/
theorem ss_st (h : FlwR σ c m τ d k) (hb : ¬ BdF τ) (hc : ¬ aI σ 19 c.toNatClampNeg ≤ 18) : ¬ BdF σ ∧ ¬ ltR σ c ∧ ∃ p, d = (fsS (laS σ 0 p) c).2 ∧ ((¬ (¬ d ≤ 0 ∧ aI σ 19 (d - 1).toNatClampNeg = 54) ∧ k = m ∧ τ = (fsS (laS σ 0 p) c).1) ∨ ((¬ d ≤ 0 ∧ aI σ 19 (d - 1).toNatClampNeg = 54) ∧ k = m + 1 ∧ τ = sttS (fsS (laS σ 0 p) c).1 (m + 1))) := by sorry
/-- an S's code that goes on behind it -/
theorem ss_1 (h : FlwR σ c m τ d k) (hb : ¬ BdF τ) (hc : ¬ aI σ 19 c.toNatClampNeg ≤ 18) (h54 : ¬ aI σ 19 c.toNatClampNeg = 54) (h1 : ∀ p, (fsS (laS σ 0 p) c).2 = c + 1) : ¬ BdF σ ∧ ¬ ltR σ c ∧ d = c + 1 ∧ k = m ∧ ∃ p, τ = (fsS (laS σ 0 p) c).1 := by sorry
end
/-! the reference's flow: what stands open inside an exp -/
/-- frames, what the class left for later, how many stand open -/
def OpR (σ : RS) : MkF → List Int64 → Nat → Prop
  | [], A, n => A = [] ∧ n = 0
  | (k, _, _) :: F, A, n => ∃ n' A', n = n' + 1 ∧ (if k = 3 then A = aL σ 102 n' :: aL σ 101 n' :: A' else if k = 1 then A = aL σ 101 n' :: A' else A = aL σ 102 n' :: A') ∧ OpR σ F A' n'
theorem OpR.fr {σ τ : RS} : ∀ {F : MkF} {A : List Int64} {n : Nat}, (∀ i, i < n → aL τ 101 i = aL σ 101 i ∧ aL τ 102 i = aL σ 102 i) → OpR σ F A n → OpR τ F A n := by sorry
theorem OpR.le {σ : RS} : ∀ {F : MkF} {A : List Int64} {n : Nat}, OpR σ F A n → n = F.length := by sorry
theorem i32_prd {x : Int32} {n : Nat} (h : x.toInt = ((n + 1 : Nat) : Int)) (hn : n ≤ 10000) : (x - 1).toInt = (n : Int) := by sorry
/-- exps: bits, what stands open -/
def XvR (σ : RS) (F : MkF) (t f : Int64) (A : List Int64) : Prop := gL σ 93 = t ∧ gL σ 94 = f ∧ (gI σ 100).toInt = (F.length : Int) ∧ OpR σ F A F.length
section
variable {σ : RS} {F : MkF} {t f : Int64} {A : List Int64} {a b : Int} {c : Int32}
/-- && and ?: a frame more -/
theorem xv_and {k : Int} (h : XvR σ F t f A) (hF : F.length ≤ 100) (hk : k = 0 ∨ k = 2) : XvR (beS (sI (sM σ 102 (vp_updL (aL σ 102) (gI σ 100).toNatClampNeg (gL σ 94))) 100 (gI σ 100 + 1)) (gL σ 93)) ((k, a, b) :: F) t t (f :: A) := by sorry
/-- || -/
theorem xv_or (h : XvR σ F t f A) (hF : F.length ≤ 100) : XvR (beS (sI (sM σ 101 (vp_updL (aL σ 101) (gI σ 100).toNatClampNeg (gL σ 93))) 100 (gI σ 100 + 1)) (gL σ 94)) ((1, a, b) :: F) f f (t :: A) := by sorry
/-- behind && -/
theorem xv_af (h : XvR σ ((0, a, b) :: F) t f A) (hF : F.length ≤ 100) : ∃ v A', A = v :: A' ∧ XvR (sL (sI σ 100 (gI σ 100 - 1)) 94 (gL σ 94 &&& aL σ 102 (gI σ 100 - 1).toNatClampNeg)) F t (f &&& v) A' := by sorry
/-- behind || -/
theorem xv_ot (h : XvR σ ((1, a, b) :: F) t f A) (hF : F.length ≤ 100) : ∃ v A', A = v :: A' ∧ XvR (sL (sI σ 100 (gI σ 100 - 1)) 93 (gL σ 93 &&& aL σ 101 (gI σ 100 - 1).toNatClampNeg)) F (t &&& v) f A' := by sorry
/-- the other side of a choice -/
theorem xv_el {a' b' : Int} (h : XvR σ ((2, a, b) :: F) t f A) (hF : F.length ≤ 100) : ∃ v A', A = v :: A' ∧ XvR (beS (sM (sM σ 101 (vp_updL (aL σ 101) (gI σ 100 - 1).toNatClampNeg (gL σ 93))) 102 (vp_updL (aL σ 102) (gI σ 100 - 1).toNatClampNeg (gL σ 94))) (aL σ 102 (gI σ 100 - 1).toNatClampNeg)) ((3, a', b') :: F) v v (f :: t :: A') := by sorry
/-- behind a choice -/
theorem xv_ch (h : XvR σ ((3, a, b) :: F) t f A) (hF : F.length ≤ 100) : ∃ vf vt A', A = vf :: vt :: A' ∧ XvR (sL (sL (sI σ 100 (gI σ 100 - 1)) 93 (gL σ 93 &&& aL σ 101 (gI σ 100 - 1).toNatClampNeg)) 94 (gL σ 94 &&& aL σ 102 (gI σ 100 - 1).toNatClampNeg)) F (t &&& vt) (f &&& vf) A' := by sorry
end
/-! params are SURELY assigned where a method begins: both halves -/
theorem pb_sn {v : Int} : ∀ (n i : Nat) (m : Int64), pbL v (n + 1) i m = pbL v n i m ||| bitQ (v + ((i + n : Nat) : Int)) := by sorry
theorem st_pb {σ : RS} {m : Int32} {v np N : Nat} (h : ∀ k, k < N → ((m < gI σ 36 ∧ aI σ 46 k = m ∧ Int32.ofInt k < aI σ 40 m.toNatClampNeg + aI σ 39 m.toNatClampNeg) ↔ (v ≤ k ∧ k < v + np))) : ∀ n, n ≤ N → stB σ m n = pbL (v : Int) (min np (n - v)) 0 zerB := by sorry
theorem st_all {σ : RS} {m : Int32} {v np N : Nat} (h : ∀ k, k < N → ((m < gI σ 36 ∧ aI σ 46 k = m ∧ Int32.ofInt k < aI σ 40 m.toNatClampNeg + aI σ 39 m.toNatClampNeg) ↔ (v ≤ k ∧ k < v + np))) (hv : v + np ≤ N) : stB σ m N = pbL (v : Int) np 0 zerB := by sorry
