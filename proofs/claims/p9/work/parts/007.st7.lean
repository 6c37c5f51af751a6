/-! the latest exp that is laid by an exp: no mark, and it starts where reading began -/
def TpU (b : Nat) (st : Int) (z : ZS) : Prop := ∃ (r : XrZ) (l : List ItZ), z.2.1 = .inl r :: l ∧ r.2.2.1.1 = st ∧ (0 ≤ r.1.1 ∧ r.1.1 ≤ 10) ∧ b ≤ xcZ l
theorem TpU.z {b : Nat} {st : Int} {z z' : ZS} (h : TpU b st z) (e : z'.2.1 = z.2.1) : TpU b st z' := by sorry
theorem TpU.mo {b c : Nat} {st : Int} {z : ZS} (h : TpU b st z) (q : c ≤ b) : TpU c st z := by sorry
theorem TpU.xn {b : Nat} {st : Int} {z : ZS} (h : TpU b st z) : b + 1 ≤ xnM z := by sorry
theorem tp_pu {b : Nat} {st : Int} {z : ZS} {x : XrZ} (h : b ≤ xnM z) (hs : x.2.2.1.1 = st) (hk : 0 ≤ x.1.1 ∧ x.1.1 ≤ 10) : TpU b st (puM x z) := ⟨x, z.2.1, rfl, hs, hk, h⟩
theorem tp_cl {p : Int} {b : Nat} : ∀ (W : WtZ) (r : Int × Int) (z : ZS), TpU b r.2 z → TpU b (csrZ p W r).2 (clM p W z) := by sorry
abbrev ToX (f : ZS → ZS) : Prop := ∀ z, zFt (f z).1 = 0 → TpU (xnM z) (xnM z) (f z)
theorem gf_z {f : ZS → ZS} {g : SpC → SpC} (h : LfM f g) (q : GdY g) {z : ZS} (e : zFt (f z).1 = 0) : zFt z.1 = 0 := (q z.1).z (by rw [← h z]; exact e)
theorem str_nn {c : Int} : 0 ≤ strZ c := by sorry
theorem csr_csw {p : Int} : ∀ (W : WtZ) (r : Int × Int), csrZ 0 (cswZ p W) (csrZ p W r) = csrZ 0 W r := by sorry
theorem tp_chl {O : ZS → ZS} {o : SpC → SpC} (hO : ToX O) (lO : LfM O o) (gO : GdY o) (iO : IgM O) {b : Nat} : ∀ (f : Nat) (W : WtZ) (r : Int × Int) (z : ZS), TpU b r.2 z → zFt (chlM O f W r z).1 = 0 → TpU b (csrZ 0 W r).2 (chlM O f W r z) := by sorry
theorem tp_ch2 {E C : ZS → ZS} (gE : IgM E) (gC : IgM C) {b : Nat} {r : Int × Int} {z : ZS} (h : TpU b r.2 z) : TpU b r.2 (ch2M E C r z) := by sorry
theorem ch2_b {E C : ZS → ZS} {e c : SpC → SpC} (lE : LfM E e) (lC : LfM C c) (gE : GdY e) (gC : GdY c) {r : Int × Int} {z : ZS} (h : zFt (ch2M E C r z).1 = 0) : zFt z.1 = 0 := by sorry
theorem tp_chc {O E C : ZS → ZS} {o e c : SpC → SpC} (hO : ToX O) (lO : LfM O o) (gO : GdY o) (iO : IgM O) (lE : LfM E e) (lC : LfM C c) (gE : GdY e) (gC : GdY c) (iE : IgM E) (iC : IgM C) : ToX (chcM O E C) := by sorry
theorem tp_xps {N : Int → Int} {O E C : ZS → ZS} {o e c : SpC → SpC} (hO : ToX O) (lO : LfM O o) (gO : GdY o) (iO : IgM O) (lE : LfM E e) (lC : LfM C c) (gE : GdY e) (gC : GdY c) (iE : IgM E) (iC : IgM C) : ToX (xpsM N O E C) := by sorry
theorem tp_clp {E : ZS → ZS} (iE : IgM E) {r : Int × Int} {b : Nat} : ∀ (f : Nat) (l : List Int) (z : ZS), b ≤ xnM z → TpU b r.2 (clpM E r f l z) := by sorry
theorem tp_opr {N : Int → Int} {m : Nat} {E : ZS → ZS} {I : Int → ZS → ZS} (iE : IgM E) (iI : ∀ g, IgM (I g)) (g : Int) : ToX (oprM N m E I g) := by sorry
theorem tp_lv {N : Int → Int} : ∀ n, ToX (eM N n) ∧ ToX (cM N n) ∧ ∀ g, ToX (oM N n g) := by sorry
/-! what stands open inside an exp: && || ? : -/
/-- the latest one is an exp, no mark -/
def LsO (l : List ItZ) : Prop := ∃ (r : XrZ) (m : List ItZ), l = .inl r :: m ∧ 0 ≤ r.1.1 ∧ r.1.1 ≤ 10
abbrev MkF : Type := List (Int × Int × Int)
/-- one exp or mark more -/
def MkS (l : List ItZ) (x : XrZ) (G F : MkF) : Prop :=
  if x.1.1 = 11 then LsO l ∧ F = ((if x.1.2.1 = 21 then 0 else 1), (xcZ l : Int) - 1, 0) :: G
  else if x.1.1 = 12 then LsO l ∧ F = (2, (xcZ l : Int) - 1, 0) :: G
  else if x.1.1 = 13 then LsO l ∧ ∃ q H, G = (2, q, 0) :: H ∧ F = (3, q, (xcZ l : Int) - 1) :: H
  else if x.1.1 = 7 ∧ (x.1.2.1 = 20 ∨ x.1.2.1 = 21) then LsO l ∧ G = ((if x.1.2.1 = 21 then 0 else 1), x.2.2.1.2.1, 0) :: F ∧ x.2.2.1.2.2.1 = (xcZ l : Int) - 1
  else if x.1.1 = 8 then LsO l ∧ G = (3, x.2.2.1.2.1, x.2.2.1.2.2.1) :: F ∧ x.2.2.1.2.2.2.1 = (xcZ l : Int) - 1
  else if x.1.1 = 3 ∨ x.1.1 = 4 ∨ x.1.1 = 5 then (LsO l ∧ x.2.2.1.2.1 = (xcZ l : Int) - 1) ∧ F = G
  else F = G
section
variable {l : List ItZ} {x : XrZ} {G F : MkF}
theorem mks_11 (h : x.1.1 = 11) : MkS l x G F ↔ LsO l ∧ F = ((if x.1.2.1 = 21 then 0 else 1), (xcZ l : Int) - 1, 0) :: G := by sorry
theorem mks_12 (h : x.1.1 = 12) : MkS l x G F ↔ LsO l ∧ F = (2, (xcZ l : Int) - 1, 0) :: G := by sorry
theorem mks_13 (h : x.1.1 = 13) : MkS l x G F ↔ LsO l ∧ ∃ q H, G = (2, q, 0) :: H ∧ F = (3, q, (xcZ l : Int) - 1) :: H := by sorry
theorem mks_7 (h : x.1.1 = 7 ∧ (x.1.2.1 = 20 ∨ x.1.2.1 = 21)) : MkS l x G F ↔ LsO l ∧ G = ((if x.1.2.1 = 21 then 0 else 1), x.2.2.1.2.1, 0) :: F ∧ x.2.2.1.2.2.1 = (xcZ l : Int) - 1 := by sorry
theorem mks_8 (h : x.1.1 = 8) : MkS l x G F ↔ LsO l ∧ G = (3, x.2.2.1.2.1, x.2.2.1.2.2.1) :: F ∧ x.2.2.1.2.2.2.1 = (xcZ l : Int) - 1 := by sorry
theorem mks_3 (h : x.1.1 = 3 ∨ x.1.1 = 4 ∨ x.1.1 = 5) : MkS l x G F ↔ (LsO l ∧ x.2.2.1.2.1 = (xcZ l : Int) - 1) ∧ F = G := by sorry
theorem mks_o (h : ¬ (x.1.1 = 11 ∨ x.1.1 = 12 ∨ x.1.1 = 13 ∨ (x.1.1 = 7 ∧ (x.1.2.1 = 20 ∨ x.1.2.1 = 21)) ∨ x.1.1 = 8 ∨ x.1.1 = 3 ∨ x.1.1 = 4 ∨ x.1.1 = 5)) : MkS l x G F ↔ F = G := by sorry
end
def MkP (B : Nat) : List ItZ → MkF → Prop
  | [], F => F = []
  | .inr _ :: l, F => F = [] ∧ MkP B l []
  | .inl x :: l, F => F.length ≤ B ∧ ∃ G, MkP B l G ∧ MkS l x G F
theorem TpU.ls {b : Nat} {st : Int} {z : ZS} (h : TpU b st z) : LsO z.2.1 := by sorry
section
variable {B : Nat} {z : ZS} {F G : MkF}
theorem mk_pl {x : XrZ} (h : MkP B z.2.1 F) (hb : F.length ≤ B) (hk : (0 ≤ x.1.1 ∧ x.1.1 ≤ 2) ∨ x.1.1 = 6 ∨ x.1.1 = 9 ∨ x.1.1 = 10 ∨ x.1.1 = 14 ∨ x.1.1 = 15) : MkP B (puM x z).2.1 F := by sorry
theorem mk_un {x : XrZ} (h : MkP B z.2.1 F) (hb : F.length ≤ B) (hk : x.1.1 = 3 ∨ x.1.1 = 4 ∨ x.1.1 = 5) (hl : LsO z.2.1) (ha : x.2.2.1.2.1 = (xnM z : Int) - 1) : MkP B (puM x z).2.1 F := by sorry
end
/-- operators that wait: those that stand open -/
def mkW : WtZ → MkF
  | [] => []
  | (sg, _, _, a, _) :: W => if sg = 20 ∨ sg = 21 then ((if sg = 21 then 0 else 1), a, 0) :: mkW W else mkW W
/-- weaker ones wait below stronger ones; all are weaker than s -/
def WsO : Int → WtZ → Prop
  | _, [] => True
  | s, (sg, _, _, _, _) :: W => strZ sg < s ∧ 20 ≤ sg ∧ sg ≤ 38 ∧ WsO (strZ sg) W
theorem mkW_l : ∀ {W : WtZ} {s : Int}, WsO s W → ((mkW W).length : Int) ≤ 2 ∧ (s ≤ 2 → ((mkW W).length : Int) ≤ 1) ∧ (s ≤ 1 → (mkW W).length = 0) := by sorry
theorem ws_mo : ∀ {W : WtZ} {s s' : Int}, WsO s W → s ≤ s' → WsO s' W := by sorry
theorem ws_cs {p : Int} : ∀ {W : WtZ} {s : Int}, WsO s W → WsO p (cswZ p W) := by sorry
theorem mk_cl {B : Nat} {F : MkF} {p : Int} : ∀ (W : WtZ) (s : Int) (z : ZS), WsO s W → LsO z.2.1 → MkP B z.2.1 (mkW W ++ F) → (mkW W ++ F).length ≤ B → MkP B (clM p W z).2.1 (mkW (cswZ p W) ++ F) ∧ LsO (clM p W z).2.1 := by sorry
/-- exps keep what stands open; n: how deep they may go -/
abbrev MkE (B n : Nat) (f : ZS → ZS) : Prop := ∀ z F, MkP B z.2.1 F → F.length + 4 * n ≤ B → zFt (f z).1 = 0 → MkP B (f z).2.1 F
theorem mk_chl {B n : Nat} {O : ZS → ZS} {o : SpC → SpC} (hO : MkE B n O) (tO : ToX O) (lO : LfM O o) (gO : GdY o) {F : MkF} (hB : F.length + 4 * n + 2 ≤ B) : ∀ (f : Nat) (W : WtZ) (r : Int × Int) (z : ZS), WsO 11 W → LsO z.2.1 → MkP B z.2.1 (mkW W ++ F) → zFt (chlM O f W r z).1 = 0 → MkP B (chlM O f W r z).2.1 F := by sorry
theorem mk_chc {B n : Nat} {O E C : ZS → ZS} {o e c : SpC → SpC} (hO : MkE B n O) (tO : ToX O) (lO : LfM O o) (gO : GdY o) (iO : IgM O) (hE : MkE B n E) (hC : MkE B n C) (tE : ToX E) (tC : ToX C) (lE : LfM E e) (lC : LfM C c) (gE : GdY e) (gC : GdY c) : MkE B (n + 1) (chcM O E C) := by sorry
theorem mk_xps {N : Int → Int} {B n : Nat} {O E C : ZS → ZS} {o e c : SpC → SpC} (hO : MkE B n O) (tO : ToX O) (lO : LfM O o) (gO : GdY o) (iO : IgM O) (hE : MkE B n E) (hC : MkE B n C) (tE : ToX E) (tC : ToX C) (lE : LfM E e) (lC : LfM C c) (gE : GdY e) (gC : GdY c) : MkE B (n + 1) (xpsM N O E C) := by sorry
theorem mk_clp {B n : Nat} {E : ZS → ZS} {e : SpC → SpC} (hE : MkE B n E) (lE : LfM E e) (gE : GdY e) {F : MkF} (hB : F.length + 4 * n ≤ B) {r : Int × Int} : ∀ (f : Nat) (l : List Int) (z : ZS), MkP B z.2.1 F → zFt (clpM E r f l z).1 = 0 → MkP B (clpM E r f l z).2.1 F := by sorry
theorem mk_opr {N : Int → Int} {B n m : Nat} {E : ZS → ZS} {I : Int → ZS → ZS} {e i : SpC → SpC} (hE : MkE B n E) (lE : LfM E e) (gE : GdY e) (hI : ∀ g, MkE B n (I g)) (tI : ∀ g, ToX (I g)) (tE : ToX E) (lI : ∀ g, LfM (I g) i) (gI' : GdY i) (g : Int) : MkE B n (oprM N m E I g) := by sorry
theorem mk_lv {N : Int → Int} {B : Nat} : ∀ n, MkE B n (eM N n) ∧ MkE B n (cM N n) ∧ ∀ g, MkE B n (oM N n g) := by sorry
/-! exps lay exps and marks alone, none of kind 15 -/
def XkR (l l' : List ItZ) : Prop := ∃ t : List XrZ, l' = t.map Sum.inl ++ l ∧ ∀ x ∈ t, x.1.1 ≤ 14
theorem XkR.rf {l : List ItZ} : XkR l l := ⟨[], rfl, fun _ h => absurd h List.not_mem_nil⟩
theorem XkR.pu {x : XrZ} {l : List ItZ} (h : x.1.1 ≤ 14) : XkR l (.inl x :: l) := by sorry
theorem XkR.trans {l l' l'' : List ItZ} (h : XkR l l') (h' : XkR l' l'') : XkR l l'' := by sorry
abbrev IkM (f : ZS → ZS) : Prop := ∀ z, XkR z.2.1 (f z).2.1
theorem ik_cl {p : Int} : ∀ (W : WtZ) (z : ZS), XkR z.2.1 (clM p W z).2.1 := by sorry
theorem ik_fk {z : ZS} : XkR z.2.1 (fkM z).2.1 := by sorry
theorem ik_tk {N : Int → Int} {z : ZS} : XkR z.2.1 (tkM N z).2.1 := by sorry
theorem ik_chl {O : ZS → ZS} (h : IkM O) : ∀ (f : Nat) (W : WtZ) (r : Int × Int) (z : ZS), XkR z.2.1 (chlM O f W r z).2.1 := by sorry
theorem ik_chc {O E C : ZS → ZS} (hO : IkM O) (hE : IkM E) (hC : IkM C) : IkM (chcM O E C) := by sorry
theorem ik_xps {N : Int → Int} {O E C : ZS → ZS} (hO : IkM O) (hE : IkM E) (hC : IkM C) : IkM (xpsM N O E C) := by sorry
theorem ik_clp {E : ZS → ZS} (hE : IkM E) (r : Int × Int) : ∀ (f : Nat) (l : List Int) (z : ZS), XkR z.2.1 (clpM E r f l z).2.1 := by sorry
theorem ik_opr {N : Int → Int} {m : Nat} {E : ZS → ZS} {I : Int → ZS → ZS} (hE : IkM E) (hI : ∀ g, IkM (I g)) (g : Int) : IkM (oprM N m E I g) := by sorry
theorem ik_lv {N : Int → Int} : ∀ n, IkM (eM N n) ∧ IkM (cM N n) ∧ ∀ g, IkM (oM N n g) := by sorry
/-! exps: no MARK of taking without an assignment -/
def XnR (l l' : List ItZ) : Prop := ∃ t : List XrZ, l' = t.map Sum.inl ++ l ∧ ((∀ x ∈ t, ¬ x.1.1 = 9) → ∀ x ∈ t, ¬ x.1.1 = 14)
theorem XnR.rf {l : List ItZ} : XnR l l := ⟨[], rfl, fun _ _ h => absurd h List.not_mem_nil⟩
theorem XnR.pu {x : XrZ} {l : List ItZ} (h : ¬ x.1.1 = 14) : XnR l (.inl x :: l) := by sorry
theorem XnR.a9 {x : XrZ} {l l' : List ItZ} (h : XkR l l') (hx : x.1.1 = 9) : XnR l (.inl x :: l') := by sorry
theorem XnR.trans {l l' l'' : List ItZ} (h : XnR l l') (h' : XnR l' l'') : XnR l l'' := by sorry
abbrev JnM (f : ZS → ZS) : Prop := ∀ z, XnR z.2.1 (f z).2.1
theorem nk_cl {p : Int} : ∀ (W : WtZ) (z : ZS), XnR z.2.1 (clM p W z).2.1 := by sorry
theorem nk_fk {z : ZS} : XnR z.2.1 (fkM z).2.1 := by sorry
theorem nk_chl {O : ZS → ZS} (h : JnM O) : ∀ (f : Nat) (W : WtZ) (r : Int × Int) (z : ZS), XnR z.2.1 (chlM O f W r z).2.1 := by sorry
theorem nk_chc {O E C : ZS → ZS} (hO : JnM O) (hE : JnM E) (hC : JnM C) : JnM (chcM O E C) := by sorry
theorem nk_xps {N : Int → Int} {O E C : ZS → ZS} (hO : JnM O) (hE : JnM E) (hC : JnM C) (hEk : IkM E) : JnM (xpsM N O E C) := by sorry
theorem nk_clp {E : ZS → ZS} (hE : JnM E) (r : Int × Int) : ∀ (f : Nat) (l : List Int) (z : ZS), XnR z.2.1 (clpM E r f l z).2.1 := by sorry
theorem nk_opr {N : Int → Int} {m : Nat} {E : ZS → ZS} {I : Int → ZS → ZS} (hE : JnM E) (hI : ∀ g, JnM (I g)) (g : Int) : JnM (oprM N m E I g) := by sorry
theorem nk_lv {N : Int → Int} : ∀ n, JnM (eM N n) ∧ JnM (cM N n) ∧ ∀ g, JnM (oM N n g) := by sorry
/-! an exp that is laid -/

/-- what stands open is the same behind it -/
def MkXd (lv : Int) (l m : List ItZ) : Prop := ∀ (B : Nat) (F : MkF), MkP B l F → F.length + 4 * (21 - lv).toNat ≤ B → MkP B m F
/-- no kind 15 in it; the pile -/
def XdE (l l' : List ItZ) : Prop := (∀ t : List XrZ, l' = t.map Sum.inl ++ l → ∀ x ∈ t, x.1.1 ≤ 14) ∧ (∀ S : List Int, SkP l S → SkP l' (((xcZ l' : Int) - 1) :: S)) ∧ XnR l l'
def ExX (lv : Int) (l l' : List ItZ) (r : XrZ) : Prop := ∃ m : List ItZ, l' = .inl r :: m ∧ XsR l m ∧ (r.2.2.1.1 = (xcZ l : Int) ∧ 0 ≤ r.1.1 ∧ r.1.1 ≤ 10) ∧ MkXd lv l l' ∧ XdE l l'
theorem ex_lay {N : Int → Int} {n : Nat} {z : ZS} (h : zFt (eM N n z).1 = 0) : ∃ r, ExX (21 - (n : Int)) z.2.1 (eM N n z).2.1 r := by sorry
/-! what reading an S leaves alone: codes, records of S's, things -/
def GuL (k0 js : Int) (m : Nat) (t : List ItZ) : Prop := ∀ y, Sum.inr y ∈ t → ¬ y.1 = 54 ∧ (thO y.1 = true → (k0 ≤ y.2.1 ∧ y.2.1 < (m : Int)) ∨ y.2.1 = js)
theorem GuL.mo {k0 js : Int} {m n : Nat} {t : List ItZ} (h : GuL k0 js m t) (q : m ≤ n) : GuL k0 js n t := by sorry
def Gu (z0 : ZS) (b e : Nat) (k0 js : Int) (m : Nat) (z : ZS) : Prop := (∃ t, z.2.1 = t ++ z0.2.1 ∧ GuL k0 js (tnM z) t) ∧ (m ≤ tnM z ∧ k0 ≤ (tnM z : Int)) ∧ b ≤ snM z ∧ ∀ i, i < b → ¬ i = e → reS z i = reS z0 i
section
variable {z0 : ZS} {b e : Nat} {k0 js : Int} {m j : Nat} {z : ZS}
theorem Gu.rf : Gu z (snM z) e (tnM z) js (tnM z) z := by sorry
theorem Gu.mo {n : Nat} (h : Gu z0 b e k0 js m z) (q : n ≤ m) : Gu z0 b e k0 js n z := ⟨h.1, ⟨Nat.le_trans q h.2.1.1, h.2.1.2⟩, h.2.2⟩
theorem Gu.zz {z' : ZS} (h : Gu z0 b e k0 js m z) (q : z'.2.1 = z.2.1) (q1 : z'.2.2.1 = z.2.2.1) (q2 : tnM z' = tnM z) : Gu z0 b e k0 js m z' := by sorry
theorem Gu.ac (h : Gu z0 b e k0 js m z) : Gu z0 b e k0 js m (accM z) := h
theorem Gu.ra {c : Int} (h : Gu z0 b e k0 js m z) : Gu z0 b e k0 js m (raiM c z) := h
theorem Gu.xp {c : Int} (h : Gu z0 b e k0 js m z) : Gu z0 b e k0 js m (xpM c z) := h
theorem Gu.ty (h : Gu z0 b e k0 js m z) : Gu z0 b e k0 js m (typM z) := h
theorem Gu.ve {t : Int} {o : List (Int × Int)} (h : Gu z0 b e k0 js m z) : Gu z0 b e k0 js m (veM t o z) := h
theorem Gu.ar {i : Int} (h : Gu z0 b e k0 js m z) : Gu z0 b e k0 js m (arM i z) := h
theorem Gu.un (h : Gu z0 b e k0 js m z) : Gu z0 b e k0 js m (unM j z) := h
theorem Gu.dc {N : Int → Int} {ty f g : Int} (h : Gu z0 b e k0 js m z) : Gu z0 b e k0 js m (dcM N ty f g z) := h
theorem Gu.th (h : Gu z0 b e k0 js m z) : Gu z0 b e k0 js (tnM z + 1) (thM z) := by sorry
theorem Gu.it {y : Int × Int × Int × Int × Int} (h : Gu z0 b e k0 js m z) (q : ¬ y.1 = 54) (hk : thO y.1 = true → (k0 ≤ y.2.1 ∧ y.2.1 < (m : Int)) ∨ y.2.1 = js) : Gu z0 b e k0 js m (z.1, .inr y :: z.2.1, z.2.2) := by sorry
theorem Gu.c0 {o a c t : Int} (h : Gu z0 b e k0 js m z) (q : ¬ o = 54) (q' : thO o = false) : Gu z0 b e k0 js m (coM o a c t z) := h.it q (fun w => absurd (q'.symm.trans w) (by decide))
theorem Gu.x0 {o a c t : Int} (h : Gu z0 b e k0 js m z) (q : ¬ o = 54) (q' : thO o = false) : Gu z0 b e k0 js m (cxM o a c t z) := h.it q (fun w => absurd (q'.symm.trans w) (by decide))
theorem Gu.ck {o a c t : Int} (h : Gu z0 b e k0 js m z) (q : ¬ o = 54) (hk : (k0 ≤ a ∧ a < (m : Int)) ∨ a = js) : Gu z0 b e k0 js m (coM o a c t z) := h.it q (fun _ => hk)
theorem Gu.xk {o a c t : Int} (h : Gu z0 b e k0 js m z) (q : ¬ o = 54) (hk : (k0 ≤ a ∧ a < (m : Int)) ∨ a = js) : Gu z0 b e k0 js m (cxM o a c t z) := h.it q (fun _ => hk)
theorem Gu.pu {x : XrZ} (h : Gu z0 b e k0 js m z) : Gu z0 b e k0 js m (puM x z) := by sorry
theorem Gu.xs_ {z' : ZS} (h : Gu z0 b e k0 js m z) (q : XsR z.2.1 z'.2.1) (q1 : z'.2.2 = z.2.2) : Gu z0 b e k0 js m z' := by sorry
theorem Gu.se {f : SrZ → SrZ} (h : Gu z0 b e k0 js m z) (q : b ≤ j ∨ j = e) : Gu z0 b e k0 js m (seM j f z) := by sorry
theorem Gu.be {k l : Int} (h : Gu z0 b e k0 js m z) : Gu z0 b e k0 js m (beM k l z) := by sorry
theorem Gu.bg {k : Int} {n : Nat} (h : Gu z0 b e k0 js m z) : Gu z0 b e k0 js m (bgM k n z) := h.be.c0 (by decide) (by decide)
theorem Gu.bh {k : Int} {n : Nat} (h : Gu z0 b e k0 js m z) : Gu z0 b e k0 js (tnM z + 1) (bgH k n z) := Gu.th (z := bgM k n z) h.bg
theorem Gu.en {j c : Nat} (h : Gu z0 b e k0 js m z) : Gu z0 b e k0 js m (enM j c z) := h.c0 (by decide) (by decide)
theorem Gu.po (h : Gu z0 b e k0 js m z) : Gu z0 b e k0 js m (poM z) := h.x0 (by decide) (by decide)
theorem Gu.nk (h : Gu z0 b e k0 js m z) : (k0 ≤ (tnM z : Int) ∧ (tnM z : Int) < ((tnM z + 1 : Nat) : Int)) ∨ (tnM z : Int) = js := Or.inl ⟨h.2.1.2, by omega⟩
variable {N : Int → Int} {n : Nat}
theorem Gu.ee (h : Gu z0 b e k0 js m z) : Gu z0 b e k0 js m (eM N n z) := h.xs_ ((ix_lv (N := N) n).1 z) ((ks_lv (N := N) n).1 z)
theorem Gu.ex (h : Gu z0 b e k0 js m z) (q : b ≤ j ∨ j = e) : Gu z0 b e k0 js m (exS N j n z) := h.ee.se q
theorem Gu.cd (h : Gu z0 b e k0 js m z) (q : b ≤ j ∨ j = e) : Gu z0 b e k0 js m (cdM N j n z) := (h.xp.ex q).xp
theorem Gu.bd {k : Nat} (h : Gu z0 b e k0 js m z) (q : b ≤ j ∨ j = e) : Gu z0 b e k0 js m (bdM j k z) := (h.se q).un
theorem Gu.xs (h : Gu z0 b e k0 js m z) : Gu z0 b e k0 js m (xsM N n z) := ((h.bg.ex (Or.inl h.2.2.1)).po).xp.en
theorem Gu.va2 {f v t : Int} (h : Gu z0 b e k0 js m z) (q : b ≤ j ∨ j = e) : Gu z0 b e k0 js m (va2M N j n f v t z) := by sorry
theorem Gu.va1 {f ty : Int} (h : Gu z0 b e k0 js m z) (q : b ≤ j ∨ j = e) : Gu z0 b e k0 js m (va1M N j n f ty z) := (h.dc.se q).va2 q
theorem Gu.va (h : Gu z0 b e k0 js m z) (q : b ≤ j ∨ j = e) : Gu z0 b e k0 js m (vaM N j n z) := by sorry
theorem Gu.to (h : Gu z0 b e k0 js m z) : Gu z0 b e k0 js m (toM N n z) := (h.bg.va (Or.inl h.2.2.1)).xp.en
theorem Gu.fx1 (h : Gu z0 b e k0 js m z) : Gu z0 b e k0 js m (fx1M N n z) := (h.be.ex (Or.inl h.2.2.1)).po
end
theorem Gu.fxl {z0 : ZS} {b e : Nat} {k0 js : Int} {m : Nat} {N : Int → Int} {n : Nat} : ∀ (f j : Nat) (z : ZS), Gu z0 b e k0 js m z → (b ≤ j ∨ j = e) → Gu z0 b e k0 js m (fxlM N n f j z) := by sorry
section
variable {z0 : ZS} {b e : Nat} {k0 js : Int} {m j : Nat} {z : ZS} {N : Int → Int} {n : Nat}
theorem Gu.fx (h : Gu z0 b e k0 js m z) : Gu z0 b e k0 js m (fxM N n z) := Gu.fxl 501 _ _ h.fx1 (Or.inl h.2.2.1)
theorem Gu.cs {jn : Int} (h : Gu z0 b e k0 js m z) (q : (k0 ≤ jn ∧ jn < (m : Int)) ∨ jn = js) : Gu z0 b e k0 js m (csM N jn n z) := by sorry
theorem th46 {k : Int} (h : k = 64 ∨ k = 65 ∨ k = 66 ∨ k = 67) : ¬ k - 18 = 54 ∧ thO (k - 18) = false := by sorry
theorem Gu.ju {k : Int} (h : Gu z0 b e k0 js m z) (hk : k = 64 ∨ k = 65) : Gu z0 b e k0 js m (juM N k n z) := by sorry
theorem Gu.gi {k : Int} (h : Gu z0 b e k0 js m z) (hk : k = 66 ∨ k = 67) : Gu z0 b e k0 js m (giM N k n z) := by sorry
abbrev GvS (St : ZS → ZS) : Prop := ∀ z0 b e k0 js m z, Gu z0 b e k0 js m z → Gu z0 b e k0 js m (St z)
abbrev GvR (Rw : Int → Nat → ZS → ZS × Int) : Prop := ∀ (sw : Int) (jn : Nat) (z0 : ZS) (b e : Nat) (k0 js : Int) (m : Nat) (z : ZS), Gu z0 b e k0 js m z → (sw = 1 → (k0 ≤ (jn : Int) ∧ (jn : Int) < (m : Int)) ∨ (jn : Int) = js) → Gu z0 b e k0 js m (Rw sw jn z).1
variable {St : ZS → ZS} {Rw : Int → Nat → ZS → ZS × Int}
theorem Gu.st (h : Gu z0 b e k0 js m z) (s : GvS St) : Gu z0 b e k0 js m (St z) := s _ _ _ _ _ _ _ h
theorem Gu.rw0 (h : Gu z0 b e k0 js m z) (r : GvR Rw) : Gu z0 b e k0 js m (Rw 0 0 z).1 := r 0 0 _ _ _ _ _ _ _ h (fun q => absurd q (by decide))
theorem Gu.blk (h : Gu z0 b e k0 js m z) (r : GvR Rw) (q : b ≤ j ∨ j = e) {o : List (Int × Int)} : Gu z0 b e k0 js m (blkM Rw j o z) := (((Gu.rw0 (z := xpM 2 (arM j z)) h.ar.xp r).se q).un).ve.xp
theorem Gu.bo (h : Gu z0 b e k0 js m z) (r : GvR Rw) {o : List (Int × Int)} : Gu z0 b e k0 js m (boM Rw n o z) := h.be.blk r (Or.inl h.2.2.1)
theorem Gu.up {X : ZS} (h : Gu z0 b e k0 js m z) (q : Gu z0 b e k0 js (tnM z + 1) X) : Gu z0 b e k0 js m X := q.mo (Nat.le_succ_of_le h.2.1.1)
theorem Gu.bl (h : Gu z0 b e k0 js m z) (r : GvR Rw) : Gu z0 b e k0 js m (blM Rw n z) := h.up ((h.bh.blk r (Or.inl h.2.2.1)).en)
theorem Gu.em (h : Gu z0 b e k0 js m z) : Gu z0 b e k0 js m (emM n z) := h.bg.ac.en
theorem Gu.la (h : Gu z0 b e k0 js m z) (s : GvS St) : Gu z0 b e k0 js m (laM n St z) := by sorry
theorem Gu.if2 (h : Gu z0 b e k0 js m z) (s : GvS St) (q : b ≤ j ∨ j = e) {k c : Nat} (hk : (k0 ≤ (k : Int) ∧ (k : Int) < (m : Int)) ∨ (k : Int) = js) : Gu z0 b e k0 js m (if2M St j k c z) := by sorry
theorem Gu.if (h : Gu z0 b e k0 js m z) (s : GvS St) : Gu z0 b e k0 js m (ifM N n St z) := by sorry
theorem Gu.wh (h : Gu z0 b e k0 js m z) (s : GvS St) : Gu z0 b e k0 js m (whM N n St z) := by sorry
theorem Gu.do (h : Gu z0 b e k0 js m z) (s : GvS St) : Gu z0 b e k0 js m (doM N n St z) := by sorry
theorem Gu.fo1 (h : Gu z0 b e k0 js m z) (q : b ≤ j ∨ j = e) : Gu z0 b e k0 js m (fo1M N j n z) := by sorry
theorem Gu.fo2 (h : Gu z0 b e k0 js m z) (q : b ≤ j ∨ j = e) {k : Nat} (hk : (k0 ≤ (k : Int) ∧ (k : Int) < (m : Int)) ∨ (k : Int) = js) : Gu z0 b e k0 js m (fo2M N j k n z) := by sorry
theorem Gu.fo3 (h : Gu z0 b e k0 js m z) (q : b ≤ j ∨ j = e) : Gu z0 b e k0 js m (fo3M N j n z) := by sorry
theorem Gu.fob (h : Gu z0 b e k0 js m z) (q : b ≤ j ∨ j = e) {k : Nat} (hk : (k0 ≤ (k : Int) ∧ (k : Int) < (m : Int)) ∨ (k : Int) = js) : Gu z0 b e k0 js m (foB N j k n z) := by sorry
theorem Gu.fo (h : Gu z0 b e k0 js m z) (s : GvS St) : Gu z0 b e k0 js m (foM2 N n St z) := by sorry
theorem Gu.sw (h : Gu z0 b e k0 js m z) (r : GvR Rw) : Gu z0 b e k0 js m (swM N n Rw z) := by sorry
theorem Gu.tr1 (h : Gu z0 b e k0 js m z) : Gu z0 b e k0 js m (tr1M z) := by sorry
theorem Gu.tr2 (h : Gu z0 b e k0 js m z) (r : GvR Rw) (q : b ≤ j ∨ j = e) {k : Nat} (hk : (k0 ≤ (k : Int) ∧ (k : Int) < (m : Int)) ∨ (k : Int) = js) : Gu z0 b e k0 js m (tr2M N Rw j k n z) := by sorry
theorem Gu.tr3 (h : Gu z0 b e k0 js m z) (r : GvR Rw) (q : b ≤ j ∨ j = e) {k : Nat} (hk : (k0 ≤ (k : Int) ∧ (k : Int) < (m : Int)) ∨ (k : Int) = js) : Gu z0 b e k0 js m (tr3M Rw j k n z) := by sorry
theorem Gu.tr (h : Gu z0 b e k0 js m z) (r : GvR Rw) : Gu z0 b e k0 js m (trM N n Rw z) := by sorry
theorem iv_ifc {I : ZS → Prop} {c : Prop} [Decidable c] {x y : ZS} (p : c → I x) (q : ¬ c → I y) : I (if c then x else y) := by sorry
theorem Gu.sm (h : Gu z0 b e k0 js m z) (s : GvS St) (r : GvR Rw) : Gu z0 b e k0 js m (smM N n St Rw z) := by sorry
theorem Gu.rp2 (h : Gu z0 b e k0 js m z) (s : GvS St) : Gu z0 b e k0 js m (rp2M N n St z) := by sorry
theorem Gu.rp (h : Gu z0 b e k0 js m z) (s : GvS St) {jn : Nat} {sw c : Int} (q : sw = 1 → (k0 ≤ (jn : Int) ∧ (jn : Int) < (m : Int)) ∨ (jn : Int) = js) : Gu z0 b e k0 js m (rpM N n St sw jn c z) := by sorry
theorem Gu.nx {l : Int} {i : Nat} (h : Gu z0 b e k0 js m z) (q : l < 0 ∨ (b : Int) ≤ l ∨ l = (e : Int)) : Gu z0 b e k0 js m (nxM l i z) := by sorry
end
theorem Gu.rwl {N : Int → Int} {St : ZS → ZS} (s : GvS St) {n jn : Nat} {sw : Int} {z0 : ZS} {b e : Nat} {k0 js : Int} {m : Nat} (q : sw = 1 → (k0 ≤ (jn : Int) ∧ (jn : Int) < (m : Int)) ∨ (jn : Int) = js) : ∀ (k : Nat) (f l : Int) (z : ZS), Gu z0 b e k0 js m z → (l < 0 ∨ (b : Int) ≤ l ∨ l = (e : Int)) → Gu z0 b e k0 js m (rwlM N n St sw jn k f l z).1 := by sorry
theorem Gu.ls {N : Int → Int} : ∀ n, GvS (lsM N n).1 ∧ GvR (lsM N n).2 := by sorry
theorem gv_st {N : Int → Int} {n : Nat} : GvS (stM N n) := (Gu.ls n).1
theorem gv_rw {N : Int → Int} {n : Nat} : GvR (rwM N n) := (Gu.ls n).2
/-! what an S lays, by its kind: codes, records, in the order of reading (Z: all that was read) -/
/-- how many S's, how many things, what is laid -/
abbrev Ps : Type := Nat × Nat × List ItZ
def psM (z : ZS) : Ps := (snM z, tnM z, z.2.1)
def cIy (o a b t : Int) : ItZ := .inr (o, a, b, t, -1)
def cEy (o a b t : Int) (m : List ItZ) : ItZ := .inr (o, a, b, t, (xcZ m : Int) - 1)
def thS (Z : ZS) (j : Nat) : Int := (reS Z j).2.2.2.2.2.2.2.2
def hdI : List Nat → Int
  | [] => -1
  | j :: _ => (j : Int)
/-- kind, first token, level, parent; body, other, last, exp, link, thing -/
def ReD (Z : ZS) (j : Nat) (h : Int × Int × Int × Int) (b : Int × Int × Int × Int × Int × Int) : Prop := (reS Z j).1 = h ∧ (reS Z j).2.2.2 = b
def PgD (js : Int) (p q : Ps) : Prop := p.1 ≤ q.1 ∧ p.2.1 ≤ q.2.1 ∧ ∃ t, q.2.2 = t ++ p.2.2 ∧ GuL p.2.1 js q.2.1 t
def VaD (Z : ZS) (j : Nat) (h : Int × Int × Int × Int) (th : Int) (l m : List ItZ) : Prop := ∃ v t : Int, (0 ≤ v ∧ v < 60) ∧
  ((ReD Z j h (-1, -1, -1, -1, v, th) ∧ m = cIy 22 v 0 t :: l) ∨ ∃ m0 r x, ExX h.2.2.1 (cIy 22 v 2 t :: l) m0 r ∧ ReD Z j h (-1, -1, -1, (xcZ m0 : Int) - 1, v, th) ∧ (x.1.1 = 15 ∧ x.2.1.2.1 = v ∧ x.2.2.1.2.1 = (xcZ m0 : Int) - 1) ∧ m = .inl x :: m0)
def XsD (Z : ZS) (lv a : Int) (j k : Nat) (t : Int) (l : List ItZ) (q : Ps) : Prop := ∃ m r, ExX lv l m r ∧ ReD Z j (90, t, lv, a) (-1, -1, -1, (xcZ m : Int) - 1, -1, k) ∧ q = (j + 1, k, cEy 21 (acZ r) 0 r.1.2.2.1 m :: m)
def ToD (Z : ZS) (lv a : Int) (j k : Nat) (t : Int) (l : List ItZ) (q : Ps) : Prop := ∃ m, VaD Z j (91, t, lv, a) k l m ∧ q = (j + 1, k, m)
def EmD (Z : ZS) (lv a : Int) (j k : Nat) (t : Int) (l : List ItZ) (q : Ps) : Prop := ReD Z j (4, t, lv, a) (-1, -1, -1, -1, -1, k) ∧ q = (j + 1, k, l)
abbrev SsT : Type := Int → Ps → Ps → Prop
abbrev RsT : Type := Int → Nat → Int → List Nat → Ps → Ps → Prop
def BlD (Rw : RsT) (Z : ZS) (lv a : Int) (j k : Nat) (t : Int) (l : List ItZ) (q : Ps) : Prop := ∃ L, Rw 0 0 j L (j + 1, k + 1, l) q ∧ ReD Z j (2, t, lv, a) (hdI L, -1, -1, -1, -1, k)
def LaD (St : SsT) (Z : ZS) (lv a : Int) (j k : Nat) (t : Int) (l : List ItZ) (q : Ps) : Prop := ∃ q1 : Ps, St j (j + 1, k + 1, cIy 41 k 0 t :: l) q1 ∧ ReD Z j (6, t, lv, a) (((j + 1 : Nat) : Int), -1, -1, -1, t, k) ∧ q = (q1.1, q1.2.1, cIy 42 k 0 t :: q1.2.2)
def IfD (St : SsT) (Z : ZS) (lv a : Int) (j k : Nat) (t : Int) (l : List ItZ) (q : Ps) : Prop := ∃ m r, ∃ q1 : Ps, ExX lv l m r ∧ St j (j + 1, k + 1, cEy 23 k 0 t m :: m) q1 ∧
  ((ReD Z j (56, t, lv, a) (((j + 1 : Nat) : Int), -1, -1, (xcZ m : Int) - 1, -1, k) ∧ q = (q1.1, q1.2.1, cIy 25 k 0 t :: q1.2.2)) ∨
   ∃ t2, ∃ q2 : Ps, St j (q1.1, q1.2.1, cIy 24 k 0 t2 :: q1.2.2) q2 ∧ ReD Z j (56, t, lv, a) (((j + 1 : Nat) : Int), q1.1, -1, (xcZ m : Int) - 1, -1, k) ∧ q = (q2.1, q2.2.1, cIy 25 k 0 t :: q2.2.2))
def WhD (St : SsT) (Z : ZS) (lv a : Int) (j k : Nat) (t : Int) (l : List ItZ) (q : Ps) : Prop := ∃ m r, ∃ q1 : Ps, ExX lv (cIy 26 k 0 t :: l) m r ∧ St j (j + 1, k + 1, cEy 27 k 0 t m :: m) q1 ∧ ReD Z j (58, t, lv, a) (((j + 1 : Nat) : Int), -1, -1, (xcZ m : Int) - 1, -1, k) ∧ q = (q1.1, q1.2.1, cIy 28 k 0 t :: q1.2.2)
def DoD (St : SsT) (Z : ZS) (lv a : Int) (j k : Nat) (t : Int) (l : List ItZ) (q : Ps) : Prop := ∃ m r, ∃ q1 : Ps, St j (j + 1, k + 1, cIy 29 k 0 t :: l) q1 ∧ ExX lv (cIy 30 k 0 t :: q1.2.2) m r ∧ ReD Z j (59, t, lv, a) (((j + 1 : Nat) : Int), -1, -1, (xcZ m : Int) - 1, -1, k) ∧ q = (q1.1, q1.2.1, cEy 31 k 0 t m :: m)
/-- exps of for -/
def FxD (Z : ZS) (lv a : Int) : List Nat → Ps → Ps → Prop
  | [], p, q => q = p
  | j :: L, p, q => j = p.1 ∧ njS Z j = hdI L ∧ ∃ t m r, ReD Z j (94, t, lv, a) (-1, -1, -1, (xcZ m : Int) - 1, -1, p.2.1) ∧ ExX lv p.2.2 m r ∧ FxD Z lv a L (p.1 + 1, p.2.1, cEy 21 (acZ r) 0 r.1.2.2.1 m :: m) q
def FiD (Z : ZS) (lv : Int) (j : Nat) (o : Int) (p q : Ps) : Prop := (o = -1 ∧ q = p) ∨ (o = p.1 ∧ ∃ t m, VaD Z p.1 (93, t, lv, j) p.2.1 p.2.2 m ∧ njS Z p.1 = -1 ∧ q = (p.1 + 1, p.2.1, m)) ∨ ∃ L, o = hdI L ∧ ¬ L = [] ∧ FxD Z lv j L p q
def FuD (Z : ZS) (lv : Int) (j : Nat) (o : Int) (p q : Ps) : Prop := ∃ L, o = hdI L ∧ FxD Z lv j L p q
def FcD (lv : Int) (k : Nat) (t x : Int) (l m : List ItZ) : Prop := (x = -1 ∧ m = cIy 33 k 0 t :: l) ∨ ∃ m0 r, ExX lv l m0 r ∧ x = (xcZ m0 : Int) - 1 ∧ m = cEy 33 k 1 t m0 :: m0
def FoD (St : SsT) (Z : ZS) (lv a : Int) (j k : Nat) (t : Int) (l : List ItZ) (q : Ps) : Prop := ∃ (q1 q3 q4 : Ps) (m2 : List ItZ) (o g x : Int), FiD Z lv j o (j + 1, k + 1, l) q1 ∧ FcD lv k t x (cIy 32 k 0 t :: q1.2.2) m2 ∧ FuD Z lv j g (q1.1, q1.2.1, cIy 34 k 0 t :: m2) q3 ∧ St j (q3.1, q3.2.1, cIy 35 k 0 t :: q3.2.2) q4 ∧
  ReD Z j (60, t, lv, a) (q3.1, o, g, x, -1, k) ∧ q = (q4.1, q4.2.1, cIy 36 k 0 t :: q4.2.2)
def SwD (Rw : RsT) (Z : ZS) (lv a : Int) (j k : Nat) (t : Int) (l : List ItZ) (q : Ps) : Prop := ∃ m r L, ∃ q1 : Ps, ExX lv l m r ∧ Rw 1 k j L (j + 1, k + 1, cEy 37 k 0 t m :: m) q1 ∧ (∀ i L', L = i :: L' → kjS Z i = 62 ∨ kjS Z i = 63) ∧ ReD Z j (61, t, lv, a) (hdI L, -1, -1, (xcZ m : Int) - 1, -1, k) ∧ q = (q1.1, q1.2.1, cIy 40 k 0 t :: q1.2.2)
/-- a block that is no S of its own -/
def BkD (Rw : RsT) (Z : ZS) (lv a : Int) (p q : Ps) : Prop := ∃ L t, Rw 0 0 p.1 L (p.1 + 1, p.2) q ∧ ReD Z p.1 (92, t, lv, a) (hdI L, -1, -1, -1, -1, p.2.1)
def TyD (Rw : RsT) (Z : ZS) (lv a : Int) (j k : Nat) (t : Int) (l : List ItZ) (q : Ps) : Prop := ∃ (q1 q2 q3 : Ps) (o g v : Int), BkD Rw Z lv j (j + 1, k + 1, cIy 50 k 0 t :: l) q1 ∧
  ((o = -1 ∧ v = -1 ∧ q2 = q1) ∨ (o = q1.1 ∧ (0 ≤ v ∧ v < 60) ∧ ∃ t2, BkD Rw Z lv j (q1.1, q1.2.1, .inr (51, (k : Int), 0, t2, -2 - v) :: q1.2.2) q2)) ∧
  ((g = -1 ∧ q3 = q2) ∨ (g = q2.1 ∧ ∃ t3, BkD Rw Z lv j (q2.1, q2.2.1, cIy 52 k 0 t3 :: q2.2.2) q3)) ∧ (0 ≤ o ∨ 0 ≤ g) ∧ ReD Z j (68, t, lv, a) (((j + 1 : Nat) : Int), o, g, -1, v, k) ∧ q = (q3.1, q3.2.1, cIy 53 k 0 t :: q3.2.2)
/-- the thing that a jump leads to -/
def tqD (N : Int → Int) (Z : ZS) (j : Nat) : Int := if tjT N Z j < 0 then -2 else thS Z (tjT N Z j).toNat
def JuD (N : Int → Int) (Z : ZS) (lv a : Int) (j k : Nat) (t : Int) (l : List ItZ) (q : Ps) : Prop := ∃ kd lk t2, (kd = 64 ∨ kd = 65) ∧ ((lk = -1 ∧ t2 = t ∧ zK Z.1 t2.toNat = kd) ∨ (lk = t2 ∧ 0 ≤ t2 ∧ zK Z.1 t2.toNat = 80)) ∧ ReD Z j (kd, t, lv, a) (-1, -1, -1, -1, lk, k) ∧ q = (j + 1, k, cIy (kd - 18) (tqD N Z j) 0 t2 :: l)
def GiD (M : Int) (Z : ZS) (lv a : Int) (j k : Nat) (t : Int) (l : List ItZ) (q : Ps) : Prop := (ReD Z j (66, t, lv, a) (-1, -1, -1, -1, M, k) ∧ q = (j + 1, k, cIy 48 0 (-2) t :: l)) ∨
  ∃ m r, ExX lv l m r ∧ ((ReD Z j (66, t, lv, a) (-1, -1, -1, (xcZ m : Int) - 1, M, k) ∧ q = (j + 1, k, cEy 48 1 ((m.length : Int) - 1) t m :: m)) ∨ (ReD Z j (67, t, lv, a) (-1, -1, -1, (xcZ m : Int) - 1, -1, k) ∧ q = (j + 1, k, cEy 49 1 ((m.length : Int) - 1) t m :: m)))
/-- inside of an S -/
def InD (N : Int → Int) (M : Int) (St : SsT) (Rw : RsT) (Z : ZS) (lv a : Int) (j k : Nat) (t : Int) (l : List ItZ) (q : Ps) : Prop :=
  XsD Z lv a j k t l q ∨ ToD Z lv a j k t l q ∨ EmD Z lv a j k t l q ∨ BlD Rw Z lv a j k t l q ∨ LaD St Z lv a j k t l q ∨ IfD St Z lv a j k t l q ∨ WhD St Z lv a j k t l q ∨ DoD St Z lv a j k t l q ∨ FoD St Z lv a j k t l q ∨ SwD Rw Z lv a j k t l q ∨ TyD Rw Z lv a j k t l q ∨ JuD N Z lv a j k t l q ∨ GiD M Z lv a j k t l q
theorem inXs {N : Int → Int} {M : Int} {St : SsT} {Rw : RsT} {Z : ZS} {lv a : Int} {j k : Nat} {t : Int} {l : List ItZ} {q : Ps} (h : XsD Z lv a j k t l q) : InD N M St Rw Z lv a j k t l q := Or.inl h
theorem inTo {N : Int → Int} {M : Int} {St : SsT} {Rw : RsT} {Z : ZS} {lv a : Int} {j k : Nat} {t : Int} {l : List ItZ} {q : Ps} (h : ToD Z lv a j k t l q) : InD N M St Rw Z lv a j k t l q := Or.inr (Or.inl h)
theorem inEm {N : Int → Int} {M : Int} {St : SsT} {Rw : RsT} {Z : ZS} {lv a : Int} {j k : Nat} {t : Int} {l : List ItZ} {q : Ps} (h : EmD Z lv a j k t l q) : InD N M St Rw Z lv a j k t l q := Or.inr (Or.inr (Or.inl h))
theorem inBl {N : Int → Int} {M : Int} {St : SsT} {Rw : RsT} {Z : ZS} {lv a : Int} {j k : Nat} {t : Int} {l : List ItZ} {q : Ps} (h : BlD Rw Z lv a j k t l q) : InD N M St Rw Z lv a j k t l q := Or.inr (Or.inr (Or.inr (Or.inl h)))
theorem inLa {N : Int → Int} {M : Int} {St : SsT} {Rw : RsT} {Z : ZS} {lv a : Int} {j k : Nat} {t : Int} {l : List ItZ} {q : Ps} (h : LaD St Z lv a j k t l q) : InD N M St Rw Z lv a j k t l q := Or.inr (Or.inr (Or.inr (Or.inr (Or.inl h))))
theorem inIf {N : Int → Int} {M : Int} {St : SsT} {Rw : RsT} {Z : ZS} {lv a : Int} {j k : Nat} {t : Int} {l : List ItZ} {q : Ps} (h : IfD St Z lv a j k t l q) : InD N M St Rw Z lv a j k t l q := Or.inr (Or.inr (Or.inr (Or.inr (Or.inr (Or.inl h)))))
theorem inWh {N : Int → Int} {M : Int} {St : SsT} {Rw : RsT} {Z : ZS} {lv a : Int} {j k : Nat} {t : Int} {l : List ItZ} {q : Ps} (h : WhD St Z lv a j k t l q) : InD N M St Rw Z lv a j k t l q := by sorry
theorem inDo {N : Int → Int} {M : Int} {St : SsT} {Rw : RsT} {Z : ZS} {lv a : Int} {j k : Nat} {t : Int} {l : List ItZ} {q : Ps} (h : DoD St Z lv a j k t l q) : InD N M St Rw Z lv a j k t l q := by sorry
theorem inFo {N : Int → Int} {M : Int} {St : SsT} {Rw : RsT} {Z : ZS} {lv a : Int} {j k : Nat} {t : Int} {l : List ItZ} {q : Ps} (h : FoD St Z lv a j k t l q) : InD N M St Rw Z lv a j k t l q := by sorry
theorem inSw {N : Int → Int} {M : Int} {St : SsT} {Rw : RsT} {Z : ZS} {lv a : Int} {j k : Nat} {t : Int} {l : List ItZ} {q : Ps} (h : SwD Rw Z lv a j k t l q) : InD N M St Rw Z lv a j k t l q := by sorry
theorem inTy {N : Int → Int} {M : Int} {St : SsT} {Rw : RsT} {Z : ZS} {lv a : Int} {j k : Nat} {t : Int} {l : List ItZ} {q : Ps} (h : TyD Rw Z lv a j k t l q) : InD N M St Rw Z lv a j k t l q := by sorry
theorem inJu {N : Int → Int} {M : Int} {St : SsT} {Rw : RsT} {Z : ZS} {lv a : Int} {j k : Nat} {t : Int} {l : List ItZ} {q : Ps} (h : JuD N Z lv a j k t l q) : InD N M St Rw Z lv a j k t l q := by sorry
theorem inGi {N : Int → Int} {M : Int} {St : SsT} {Rw : RsT} {Z : ZS} {lv a : Int} {j k : Nat} {t : Int} {l : List ItZ} {q : Ps} (h : GiD M Z lv a j k t l q) : InD N M St Rw Z lv a j k t l q := by sorry
/-- a case, a default -/
def CsD (Z : ZS) (lv : Int) (js : Nat) (a : Int) (p q : Ps) : Prop := (∃ t m r, ReD Z p.1 (62, t, lv, a) (-1, -1, -1, (xcZ m : Int) - 1, -1, p.2.1) ∧ ExX lv p.2.2 m r ∧ q = (p.1 + 1, p.2.1, cEy 38 js ((m.length : Int) - 1) t m :: m)) ∨ ∃ t, ReD Z p.1 (63, t, lv, a) (-1, -1, -1, -1, -1, p.2.1) ∧ q = (p.1 + 1, p.2.1, cIy 39 js 0 t :: p.2.2)
/-- a row -/
def RwD (St : SsT) (Z : ZS) (lv : Int) (sw : Int) (js : Nat) (a : Int) : List Nat → Ps → Ps → Prop
  | [], p, q => q = p
  | j :: L, p, q => j = p.1 ∧ njS Z j = hdI L ∧ ∃ p1, ((sw = 1 ∧ CsD Z lv js a p p1) ∨ St a p p1) ∧ RwD St Z lv sw js a L p1 q
/-- an S -/
def StD (N : Int → Int) (M : Int) (Z : ZS) : Nat → SsT
  | 0 => fun _ _ _ => False
  | n + 1 => fun a p q => ∃ (t : Int) (q1 : Ps), PgD (-1) p q ∧ (p.1 < q.1 ∧ 0 ≤ t ∧ t ≤ 500) ∧ InD N M (StD N M Z n) (RwD (StD N M Z n) Z (lvN n)) Z (lvN (n + 1)) a p.1 p.2.1 t (cIy 20 0 0 t :: p.2.2) q1 ∧ q = (q1.1, q1.2.1, cIy 45 p.2.2.length 0 t :: q1.2.2)
/-! what reading lays, S by S -/
/-- what a token's code is, how many methods there are: they stay -/
def KpY (s t : SpC) : Prop := LpY s t ∧ NpY s t ∧ GpY s t
theorem KpY.rf {s : SpC} : KpY s s := ⟨LpY.rf, NpY.rf, GpY.rf⟩
theorem KpY.tr {s t u : SpC} (h : KpY s t) (g : KpY t u) : KpY s u := ⟨h.1.tr g.1, h.2.1.tr g.2.1, h.2.2.tr g.2.2⟩
theorem KpY.k {s t : SpC} (h : KpY s t) : zK t = zK s := by sorry
theorem kp_acc {s : SpC} : KpY s (accY s) := ⟨gl_acc s, gn_acc s, gd_acc s⟩
theorem kp_rai {c : Int} {s : SpC} : KpY s (raiY c s) := ⟨gl_rai s, gn_rai s, gd_rai s⟩
theorem kp_xp {c : Int} {s : SpC} : KpY s (xpY c s) := ⟨gl_xp s, gn_xp s, gd_xp s⟩
theorem kp_typ {s : SpC} : KpY s (typY s) := ⟨gl_typ s, gn_typ s, gd_typ s⟩
theorem kp_dcl {ty f h : Int} {s : SpC} : KpY s (dclY ty f h s) := ⟨gl_dcl s, gn_dcl s, gd_dcl s⟩
theorem kp_e {N : Int → Int} {n : Nat} {z : ZS} : KpY z.1 (eM N n z).1 := by sorry
theorem kp_st {N : Int → Int} {n : Nat} {z : ZS} : KpY z.1 (stM N n z).1 := by sorry
theorem kp_rw {N : Int → Int} {n : Nat} {sw : Int} {js : Nat} {z : ZS} : KpY z.1 (rwM N n sw js z).1.1 := by sorry
theorem e_b {N : Int → Int} {n : Nat} {z : ZS} (h : zFt (eM N n z).1 = 0) : zFt z.1 = 0 := gf_z lf_e gd_e h
theorem st_b {N : Int → Int} {n : Nat} {z : ZS} (h : zFt (stM N n z).1 = 0) : zFt z.1 = 0 := gf_z lf_st gd_st h
theorem rw_b {N : Int → Int} {n : Nat} {sw : Int} {js : Nat} {z : ZS} (h : zFt (rwM N n sw js z).1.1 = 0) : zFt z.1 = 0 := by sorry
/-- in the midst of S number snM z: its record, what is laid, the S around -/
def Pz (z : ZS) (x : SrZ) (p : Ps) (a : Int) (w : ZS) : Prop := (∀ i, i < snM z → reS w i = reS z i) ∧ reS w (snM z) = x ∧ psM w = p ∧ w.2.2.2.1.2 = a ∧ KpY z.1 w.1
def bR (k : Int) (n : Nat) (z : ZS) : SrZ := ((k, zAt z.1, lvN n, z.2.2.2.1.2), z.2.2.2.1.1, (-1, -1, -1, -1, -1, -1, (tnM z : Int)))
section
variable {z w : ZS} {x : SrZ} {p : Ps} {a : Int} {N : Int → Int} {n : Nat}
theorem Pz.be {k : Int} : Pz z (bR k n z) (snM z + 1, tnM z, z.2.1) z.2.2.2.1.2 (beM k (lvN n) z) := by sorry
theorem Pz.bg {k : Int} : Pz z (bR k n z) (snM z + 1, tnM z, cIy 20 0 0 (zAt z.1) :: z.2.1) z.2.2.2.1.2 (bgM k n z) := ⟨Pz.be.1, Pz.be.2.1, rfl, rfl, KpY.rf⟩
theorem Pz.bh {k : Int} : Pz z (bR k n z) (snM z + 1, tnM z + 1, cIy 20 0 0 (zAt z.1) :: z.2.1) z.2.2.2.1.2 (bgH k n z) := ⟨Pz.be.1, Pz.be.2.1, rfl, rfl, KpY.rf⟩
theorem Pz.ac (h : Pz z x p a w) : Pz z x p a (accM w) := ⟨h.1, h.2.1, h.2.2.1, h.2.2.2.1, h.2.2.2.2.tr kp_acc⟩
theorem Pz.xp {c : Int} (h : Pz z x p a w) : Pz z x p a (xpM c w) := ⟨h.1, h.2.1, h.2.2.1, h.2.2.2.1, h.2.2.2.2.tr kp_xp⟩
theorem Pz.ra {c : Int} (h : Pz z x p a w) : Pz z x p a (raiM c w) := ⟨h.1, h.2.1, h.2.2.1, h.2.2.2.1, h.2.2.2.2.tr kp_rai⟩
theorem Pz.ty (h : Pz z x p a w) : Pz z x p a (typM w) := ⟨h.1, h.2.1, h.2.2.1, h.2.2.2.1, h.2.2.2.2.tr kp_typ⟩
theorem Pz.dc {ty f g : Int} (h : Pz z x p a w) : Pz z x p a (dcM N ty f g w) := ⟨h.1, h.2.1, h.2.2.1, h.2.2.2.1, h.2.2.2.2.tr kp_dcl⟩
theorem Pz.ve {t : Int} {o : List (Int × Int)} (h : Pz z x p a w) : Pz z x p a (veM t o w) := h
theorem Pz.ar {i : Int} (h : Pz z x p a w) : Pz z x p i (arM i w) := ⟨h.1, h.2.1, h.2.2.1, rfl, h.2.2.2.2⟩
theorem Pz.un (h : Pz z x p a w) : Pz z x p x.1.2.2.2 (unM (snM z) w) := by sorry
theorem Pz.fi (h : Pz z x p a w) : fiS w (snM z) = x.1.2.1 := by sorry
theorem Pz.l (h : Pz z x p a w) : w.2.1 = p.2.2 := congrArg (fun q : Ps => q.2.2) h.2.2.1
theorem Pz.sn (h : Pz z x p a w) : snM w = p.1 := congrArg (fun q : Ps => q.1) h.2.2.1
theorem Pz.tn (h : Pz z x p a w) : tnM w = p.2.1 := congrArg (fun q : Ps => q.2.1) h.2.2.1
theorem Pz.it {y : ItZ} (h : Pz z x p a w) : Pz z x (p.1, p.2.1, y :: p.2.2) a (w.1, y :: w.2.1, w.2.2) := by sorry
theorem Pz.co {o b c t : Int} (h : Pz z x p a w) : Pz z x (p.1, p.2.1, cIy o b c t :: p.2.2) a (coM o b c t w) := h.it
theorem Pz.cx {o b c t : Int} (h : Pz z x p a w) : Pz z x (p.1, p.2.1, cEy o b c t p.2.2 :: p.2.2) a (cxM o b c t w) := by sorry
theorem Pz.se {f : SrZ → SrZ} (h : Pz z x p a w) : Pz z (f x) p a (seM (snM z) f w) := by sorry
/-- another S's record -/
theorem Pz.so {j : Nat} {f : SrZ → SrZ} (h : Pz z x p a w) (q : snM z < j) : Pz z x p a (seM j f w) := by sorry
theorem Pz.en {c : Nat} (h : Pz z x p a w) : Pz z x (p.1, p.2.1, cIy 45 c 0 x.1.2.1 :: p.2.2) a (enM (snM z) c w) := by sorry
theorem Pz.ee (h : Pz z x p a w) (hf : zFt (eM N n w).1 = 0) : ∃ m r, ExX (lvN n) p.2.2 m r ∧ Pz z x (p.1, p.2.1, m) a (eM N n w) := by sorry
theorem Pz.ex (h : Pz z x p a w) (hf : zFt (exS N (snM z) n w).1 = 0) : ∃ m r, ExX (lvN n) p.2.2 m r ∧ Pz z (sEx ((xcZ m : Int) - 1) x) (p.1, p.2.1, m) a (exS N (snM z) n w) := by sorry
theorem Pz.cd (h : Pz z x p a w) (hf : zFt (cdM N (snM z) n w).1 = 0) : ∃ m r, ExX (lvN n) p.2.2 m r ∧ Pz z (sEx ((xcZ m : Int) - 1) x) (p.1, p.2.1, m) a (cdM N (snM z) n w) := by sorry
theorem Pz.po {r : XrZ} {m l : List ItZ} (h : Pz z x p a w) (e : p.2.2 = .inl r :: l) : Pz z x (p.1, p.2.1, cEy 21 (acZ r) 0 r.1.2.2.1 p.2.2 :: p.2.2) a (poM w) := by sorry
end
/-- Z is all that was read: what stood when z was read -/
def Cq (Z : ZS) (M : Int) (z : ZS) : Prop := (((zMs z.1).length : Int) - 1 = M ∧ zK Z.1 = zK z.1 ∧ 0 ≤ zAt z.1 ∧ zAt z.1 ≤ 500) ∧ z.2.2.2.1.2 < (snM z : Int) ∧ (∀ i, i < snM Z → paS Z i < (i : Int)) ∧ snM z ≤ snM Z ∧ ∀ i, i < snM z → (reS Z i).1 = (reS z i).1 ∧ thS Z i = thS z i ∧ (kjS z i = 6 → ljS Z i = ljS z i)
/-- Z's S's from j on are those of z, but for j's next -/
def AgN (Z z : ZS) (j : Nat) : Prop := snM z ≤ snM Z ∧ ((reS Z j).1 = (reS z j).1 ∧ (reS Z j).2.1 = (reS z j).2.1 ∧ (reS Z j).2.2.2 = (reS z j).2.2.2) ∧ ∀ i, j < i → i < snM z → reS Z i = reS z i
def AgF (Z z : ZS) (j : Nat) : Prop := snM z ≤ snM Z ∧ ∀ i, j ≤ i → i < snM z → reS Z i = reS z i
theorem AgF.n {Z z : ZS} {j : Nat} (h : AgF Z z j) (q : j < snM z) : AgN Z z j := by sorry
/-- from w on only j changes -/
def FwJ (j : Nat) (w z : ZS) : Prop := snM w ≤ snM z ∧ ∀ i, i < snM w → ¬ i = j → reS z i = reS w i
theorem Gu.fw {w z : ZS} {j m : Nat} {k0 js : Int} (h : Gu w (snM w) j k0 js m z) : FwJ j w z := ⟨h.2.2.1, h.2.2.2⟩
theorem AgN.f {Z z' w : ZS} {j i : Nat} (h : AgN Z z' j) (f : FwJ j w z') (q : j < i) : AgF Z w i := by sorry
theorem Cq.mid {Z z w z' : ZS} {M : Int} {x y : SrZ} {p q : Ps} {a b : Int} (C : Cq Z M z) (P : Pz z x p a w) (P' : Pz z y q b z') (ag : AgN Z z' (snM z)) (f : FwJ (snM z) w z') (ha : a < (p.1 : Int)) (hx : x.1 = y.1 ∧ x.2.2.2.2.2.2.2.2 = y.2.2.2.2.2.2.2.2) (hl : x.1.1 = 6 → x.2.2.2.2.2.2.2.1 = y.2.2.2.2.2.2.2.1) : Cq Z M w := by sorry
/-- what is shown of an S that was read -/
def SdQ (N : Int → Int) (n : Nat) (z z' : ZS) : Prop := snM z < snM z' ∧ njS z' (snM z) = -1 ∧ z'.2.2.2.1.2 = z.2.2.2.1.2 ∧ ∀ (Z : ZS) (M : Int), Cq Z M z → AgN Z z' (snM z) → StD N M Z n z.2.2.2.1.2 (psM z) (psM z')
def SdR (N : Int → Int) (n : Nat) (sw : Int) (js : Nat) (z : ZS) (r : ZS × Int) : Prop := ∃ L : List Nat, r.2 = hdI L ∧ r.1.2.2.2.1.2 = z.2.2.2.1.2 ∧ (∀ j L', L = j :: L' → j = snM z ∧ j < snM r.1 ∧ (sw = 1 → kjS r.1 j = 62 ∨ kjS r.1 j = 63)) ∧ ∀ (Z : ZS) (M : Int), Cq Z M z → AgF Z r.1 (snM z) → RwD (StD N M Z n) Z (lvN n) sw js z.2.2.2.1.2 L (psM z) (psM r.1)
abbrev SdS (N : Int → Int) (n : Nat) : Prop := ∀ z, zFt (stM N n z).1 = 0 → SdQ N n z (stM N n z)
abbrev SdW (N : Int → Int) (n : Nat) : Prop := ∀ sw js z, zFt (rwM N n sw js z).1.1 = 0 → SdR N n sw js z (rwM N n sw js z)
theorem pg_gu {z z' : ZS} {e : Nat} {js : Int} (h : Gu z (snM z) e (tnM z) js (tnM z) z') : PgD js (psM z) (psM z') := ⟨h.2.2.1, h.2.1.1, h.1⟩
/-- the end of it all, for an S -/
theorem SdQ.mk {N : Int → Int} {n : Nat} {z z' : ZS} {x : SrZ} {q : Ps} {e m : Nat} (P : Pz z x (q.1, q.2.1, cIy 45 z.2.1.length 0 (zAt z.1) :: q.2.2) z.2.2.2.1.2 z') (hq : snM z < q.1) (hx : x.2.2.1 = -1) (g : Gu z (snM z) e (tnM z) (-1) m z') (hm : tnM z ≤ m)
    (hI : ∀ (Z : ZS) (M : Int), Cq Z M z → AgN Z z' (snM z) → ReD Z (snM z) x.1 x.2.2.2 → InD N M (StD N M Z n) (RwD (StD N M Z n) Z (lvN n)) Z (lvN (n + 1)) z.2.2.2.1.2 (snM z) (tnM z) (zAt z.1) (cIy 20 0 0 (zAt z.1) :: z.2.1) q) : SdQ N (n + 1) z z' := by sorry
/-! what reading lays: one S of each kind -/
theorem FwJ.tr {j : Nat} {w x z : ZS} (h : FwJ j w x) (g : FwJ j x z) : FwJ j w z := by sorry
theorem fw_st {N : Int → Int} {n j : Nat} {w : ZS} : FwJ j w (stM N n w) := (gv_st w (snM w) j (tnM w) (-1) (tnM w) w Gu.rf).fw
theorem fw_rw {N : Int → Int} {n j js : Nat} {sw : Int} {w : ZS} : FwJ j w (rwM N n sw js w).1 := by sorry
section
variable {z w : ZS} {x : SrZ} {p : Ps} {a : Int} {N : Int → Int} {n : Nat}
theorem Pz.st (h : Pz z x p a w) (hp : snM z < p.1) (hf : zFt (stM N n w).1 = 0) (s : SdS N n) : Pz z x (psM (stM N n w)) a (stM N n w) := by sorry
theorem Pz.rw (h : Pz z x p a w) {sw : Int} {js : Nat} (hp : snM z < p.1) (hf : zFt (rwM N n sw js w).1.1 = 0) (s : SdW N n) : Pz z x (psM (rwM N n sw js w).1) a (rwM N n sw js w).1 := by sorry
/-- an S inside -/
theorem Pz.sd {z' : ZS} {y : SrZ} {q : Ps} {b : Int} {Z : ZS} {M : Int} (P : Pz z x p a w) (hp : snM z < p.1) (hf : zFt (stM N n w).1 = 0) (s : SdS N n) (C : Cq Z M z) (P' : Pz z y q b z') (ag : AgN Z z' (snM z)) (F : FwJ (snM z) (stM N n w) z') (ha : a < (p.1 : Int)) (hx : x.1 = y.1 ∧ x.2.2.2.2.2.2.2.2 = y.2.2.2.2.2.2.2.2) (hl : x.1.1 = 6 → x.2.2.2.2.2.2.2.1 = y.2.2.2.2.2.2.2.1) : StD N M Z n a p (psM (stM N n w)) := by sorry
/-- a row inside -/
theorem Pz.rd {z' : ZS} {y : SrZ} {q : Ps} {b : Int} (P : Pz z x p a w) {sw : Int} {js : Nat} (hp : snM z < p.1) (hf : zFt (rwM N n sw js w).1.1 = 0) (s : SdW N n) (P' : Pz z y q b z') (F : FwJ (snM z) (rwM N n sw js w).1 z') (ha : a < (p.1 : Int)) (hx : x.1 = y.1 ∧ x.2.2.2.2.2.2.2.2 = y.2.2.2.2.2.2.2.2) (hl : x.1.1 = 6 → x.2.2.2.2.2.2.2.1 = y.2.2.2.2.2.2.2.1) : ∃ L, (rwM N n sw js w).2 = hdI L ∧ ∀ (Z : ZS) (M : Int), Cq Z M z → AgN Z z' (snM z) → RwD (StD N M Z n) Z (lvN n) sw js a L p (psM (rwM N n sw js w).1) ∧ ∀ i L', L = i :: L' → sw = 1 → kjS Z i = 62 ∨ kjS Z i = 63 := by sorry
end
theorem lv_ar {z : ZS} {p : Ps} (h : snM z < p.1) : ((snM z : Nat) : Int) < (p.1 : Int) := by sorry
section
variable {z : ZS} {N : Int → Int} {n : Nat}
theorem sd_xs (h : zFt (xsM N (n + 1) z).1 = 0) : SdQ N (n + 1) z (xsM N (n + 1) z) := by sorry
theorem sd_em : SdQ N (n + 1) z (emM (n + 1) z) := by sorry
theorem Pz.va {w : ZS} {p : Ps} {a nx th : Int} {h : Int × Int × Int × Int} {kn : List (Int × Int)} (P : Pz z (h, kn, (nx, -1, -1, -1, -1, -1, th)) p a w) (hl : h.2.2.1 = lvN n) (hf : zFt (vaM N (snM z) n w).1 = 0) : ∃ m y, Pz z y (p.1, p.2.1, m) a (vaM N (snM z) n w) ∧ (y.1 = h ∧ y.2.1 = kn ∧ y.2.2.1 = nx) ∧ ∀ Z, ReD Z (snM z) y.1 y.2.2.2 → VaD Z (snM z) h th p.2.2 m := by sorry
theorem sd_to (h : zFt (toM N (n + 1) z).1 = 0) : SdQ N (n + 1) z (toM N (n + 1) z) := by sorry
theorem Pz.cof {w : ZS} {x : SrZ} {p : Ps} {a o b c f t : Int} (h : Pz z x p a w) (e : f = t) : Pz z x (p.1, p.2.1, cIy o b c t :: p.2.2) a (coM o b c f w) := e ▸ h.co
theorem Pz.cxf {w : ZS} {x : SrZ} {p : Ps} {a o b c f t : Int} (h : Pz z x p a w) (e : f = t) : Pz z x (p.1, p.2.1, cEy o b c t p.2.2 :: p.2.2) a (cxM o b c f w) := e ▸ h.cx
theorem lt_s1 : ((snM z : Nat) : Int) < ((snM z + 1 : Nat) : Int) := by sorry
theorem sd_la (s : SdS N n) (h : zFt (laM (n + 1) (stM N n) z).1 = 0) : SdQ N (n + 1) z (laM (n + 1) (stM N n) z) := by sorry
theorem sd_wh (s : SdS N n) (h : zFt (whM N (n + 1) (stM N n) z).1 = 0) : SdQ N (n + 1) z (whM N (n + 1) (stM N n) z) := by sorry
theorem sd_do (s : SdS N n) (h : zFt (doM N (n + 1) (stM N n) z).1 = 0) : SdQ N (n + 1) z (doM N (n + 1) (stM N n) z) := by sorry
theorem sd_if (s : SdS N n) (h : zFt (ifM N (n + 1) (stM N n) z).1 = 0) : SdQ N (n + 1) z (ifM N (n + 1) (stM N n) z) := by sorry
end
/-! what reading lays: blocks, switch, try, for, jumps -/
theorem Pz.ne {z w u : ZS} {x y : SrZ} {p q : Ps} {a b : Int} (P : Pz z x p a w) (Q : Pz w y q b u) (hp : snM z < p.1) : Pz z x q b u := by sorry
theorem fw_pz {z w u : ZS} {x y : SrZ} {q : Ps} {b : Int} (Q : Pz w y q b u) (hq : snM w ≤ q.1) {j : Nat} : FwJ j w u := ⟨by rw [Q.sn]; exact hq, fun i hi _ => Q.1 i hi⟩
/-- Z has the record of another S that was begun at w -/
theorem ag_re {Z z' w u : ZS} {j : Nat} {y : SrZ} {q : Ps} {b : Int} (ag : AgN Z z' j) (Q : Pz w y q b u) (F : FwJ j u z') (hj : j < snM w) (hq : snM w < q.1) : reS Z (snM w) = y := by sorry
section
variable {z : ZS} {N : Int → Int} {n : Nat}
theorem sd_bl (s : SdW N n) (h : zFt (blM (rwM N n) (n + 1) z).1 = 0) : SdQ N (n + 1) z (blM (rwM N n) (n + 1) z) := by sorry
theorem sd_sw (s : SdW N n) (h : zFt (swM N (n + 1) (rwM N n) z).1 = 0) : SdQ N (n + 1) z (swM N (n + 1) (rwM N n) z) := by sorry
/-- a block that is no S of its own -/
def SbQ (N : Int → Int) (n : Nat) (z z' : ZS) : Prop := (∃ x q, Pz z x q z.2.2.2.1.2 z' ∧ snM z < q.1) ∧ ∀ (Z : ZS) (M : Int), Cq Z M z → AgN Z z' (snM z) → BkD (RwD (StD N M Z n) Z (lvN n)) Z (lvN (n + 1)) z.2.2.2.1.2 (psM z) (psM z')
theorem sb_bo {out : List (Int × Int)} (s : SdW N n) (h : zFt (boM (rwM N n) (n + 1) out z).1 = 0) : SbQ N n z (boM (rwM N n) (n + 1) out z) := by sorry
theorem bo_b {out : List (Int × Int)} {m : Nat} (h : zFt (boM (rwM N n) m out z).1 = 0) : zFt z.1 = 0 := xp_b (rw_b (xp_b h))
/-- such a block inside -/
theorem Pz.bk {w z' : ZS} {x y : SrZ} {p q : Ps} {a b : Int} {out : List (Int × Int)} {Z : ZS} {M : Int} (P : Pz z x p a w) (hp : snM z < p.1) (hf : zFt (boM (rwM N n) (n + 1) out w).1 = 0) (s : SdW N n) (C : Cq Z M z) (P' : Pz z y q b z') (ag : AgN Z z' (snM z)) (F : FwJ (snM z) (boM (rwM N n) (n + 1) out w) z') (ha : a < (p.1 : Int)) (hx : x.1 = y.1 ∧ x.2.2.2.2.2.2.2.2 = y.2.2.2.2.2.2.2.2) (hl : x.1.1 = 6 → x.2.2.2.2.2.2.2.1 = y.2.2.2.2.2.2.2.1) : BkD (RwD (StD N M Z n) Z (lvN n)) Z (lvN (n + 1)) a p (psM (boM (rwM N n) (n + 1) out w)) := by sorry
theorem Pz.bo {w : ZS} {x : SrZ} {p : Ps} {a : Int} {out : List (Int × Int)} (P : Pz z x p a w) (hp : snM z < p.1) (hf : zFt (boM (rwM N n) (n + 1) out w).1 = 0) (s : SdW N n) : Pz z x (psM (boM (rwM N n) (n + 1) out w)) a (boM (rwM N n) (n + 1) out w) ∧ p.1 < snM (boM (rwM N n) (n + 1) out w) := by sorry
end
/-! what reading lays: try, for, jumps, return, throw -/
theorem fw_se {w : ZS} {j : Nat} {f : SrZ → SrZ} : FwJ j w (seM j f w) := ⟨Nat.le_refl _, fun i _ q => if_neg q⟩
theorem tr1_no {z : ZS} (h : zFt (tr1M z).1 = 0) : tr1M z = z ∧ (codY z.1 = 69 ∨ codY z.1 = 70) := by sorry
theorem vs_xa {c : Int} {s : SpC} (h : zFt (xpY c (accY s)) = 0) : zVs (xpY c (accY s)) = zVs s := by sorry
section
variable {z : ZS} {N : Int → Int} {n : Nat}
theorem tr2_q (s : SdW N n) {w : ZS} {p : Ps} {k : Nat} {h : Int × Int × Int × Int} {kn : List (Int × Int)} {nx b g th : Int} (P : Pz z (h, kn, (nx, b, -1, g, -1, -1, th)) p (snM z) w) (hp : snM z < p.1) (hf : zFt (tr2M N (rwM N n) (snM z) k (n + 1) w).1 = 0) (h6 : ¬ h.1 = 6) :
    ∃ (q2 : Ps) (o v : Int), Pz z (h, kn, (nx, b, o, g, -1, v, th)) q2 (snM z) (tr2M N (rwM N n) (snM z) k (n + 1) w) ∧ p.1 ≤ q2.1 ∧ (codY w.1 = 69 → 0 ≤ o) ∧ ∀ (Z : ZS) (M : Int) (z' : ZS) (y : SrZ) (q : Ps) (c : Int), Cq Z M z → Pz z y q c z' → AgN Z z' (snM z) → FwJ (snM z) (tr2M N (rwM N n) (snM z) k (n + 1) w) z' → (h = y.1 ∧ th = y.2.2.2.2.2.2.2.2) →
      ((o = -1 ∧ v = -1 ∧ q2 = p) ∨ (o = p.1 ∧ (0 ≤ v ∧ v < 60) ∧ ∃ t2, BkD (RwD (StD N M Z n) Z (lvN n)) Z (lvN (n + 1)) (snM z) (p.1, p.2.1, .inr (51, (k : Int), 0, t2, -2 - v) :: p.2.2) q2)) := by sorry
theorem tr3_q (s : SdW N n) {w : ZS} {p : Ps} {k : Nat} {h : Int × Int × Int × Int} {kn : List (Int × Int)} {nx b o v th : Int} (P : Pz z (h, kn, (nx, b, o, -1, -1, v, th)) p (snM z) w) (hp : snM z < p.1) (hf : zFt (tr3M (rwM N n) (snM z) k (n + 1) w).1 = 0) (h6 : ¬ h.1 = 6) :
    ∃ (q3 : Ps) (g : Int), Pz z (h, kn, (nx, b, o, g, -1, v, th)) q3 (snM z) (tr3M (rwM N n) (snM z) k (n + 1) w) ∧ p.1 ≤ q3.1 ∧ (codY w.1 = 70 → 0 ≤ g) ∧ ∀ (Z : ZS) (M : Int) (z' : ZS) (y : SrZ) (q : Ps) (c : Int), Cq Z M z → Pz z y q c z' → AgN Z z' (snM z) → FwJ (snM z) (tr3M (rwM N n) (snM z) k (n + 1) w) z' → (h = y.1 ∧ th = y.2.2.2.2.2.2.2.2) →
      ((g = -1 ∧ q3 = p) ∨ (g = p.1 ∧ ∃ t3, BkD (RwD (StD N M Z n) Z (lvN n)) Z (lvN (n + 1)) (snM z) (p.1, p.2.1, cIy 52 k 0 t3 :: p.2.2) q3)) := by sorry
theorem tr2_b {w : ZS} {j k m : Nat} (h : zFt (tr2M N (rwM N n) j k m w).1 = 0) : zFt w.1 = 0 := by sorry
theorem tr3_b {w : ZS} {j k m : Nat} (h : zFt (tr3M (rwM N n) j k m w).1 = 0) : zFt w.1 = 0 := by sorry
theorem sd_tr (s : SdW N n) (h : zFt (trM N (n + 1) (rwM N n) z).1 = 0) : SdQ N (n + 1) z (trM N (n + 1) (rwM N n) z) := by sorry
end
/-! what reading lays: for, jumps, return, throw -/
theorem sNx_id {x : SrZ} {v : Int} (h : x.2.2.1 = v) : sNx v x = x := by sorry
section
variable {z : ZS} {N : Int → Int} {n : Nat}
theorem fx1_q {w : ZS} (hf : zFt (fx1M N n w).1 = 0) : ∃ m r, ExX (lvN n) w.2.1 m r ∧ Pz w (sEx ((xcZ m : Int) - 1) (bR 94 n w)) (snM w + 1, tnM w, cEy 21 (acZ r) 0 r.1.2.2.1 m :: m) w.2.2.2.1.2 (fx1M N n w) := by sorry
theorem fxl_b {f i : Nat} {w : ZS} (h : zFt (fxlM N n f i w).1 = 0) : zFt w.1 = 0 := by sorry
theorem fxl_q : ∀ (f i : Nat) (w : ZS), i < snM w → njS w i = -1 → zFt (fxlM N n f i w).1 = 0 → ∃ L, FwJ i w (fxlM N n f i w) ∧ reS (fxlM N n f i w) i = sNx (hdI L) (reS w i) ∧ (fxlM N n f i w).2.2.2.1.2 = w.2.2.2.1.2 ∧ KpY w.1 (fxlM N n f i w).1 ∧ ∀ Z, AgF Z (fxlM N n f i w) (snM w) → FxD Z (lvN n) w.2.2.2.1.2 L (psM w) (psM (fxlM N n f i w)) := by sorry
theorem fx_q {w : ZS} (hf : zFt (fxM N n w).1 = 0) : ∃ L y q, (hdI L = (snM w : Int) ∧ ¬ L = []) ∧ Pz w y q w.2.2.2.1.2 (fxM N n w) ∧ snM w < q.1 ∧ ∀ Z, AgF Z (fxM N n w) (snM w) → FxD Z (lvN n) w.2.2.2.1.2 L (psM w) (psM (fxM N n w)) := by sorry
theorem va_b {w : ZS} {j : Nat} (h : zFt (vaM N j n w).1 = 0) : zFt w.1 = 0 := by sorry
theorem fo1_q {w : ZS} {p : Ps} {h : Int × Int × Int × Int} {kn : List (Int × Int)} {nx b g x lk th : Int} (P : Pz z (h, kn, (nx, b, -1, g, x, lk, th)) p (snM z) w) (hp : snM z < p.1) (hf : zFt (fo1M N (snM z) n w).1 = 0) :
    ∃ (q1 : Ps) (o : Int), Pz z (h, kn, (nx, b, o, g, x, lk, th)) q1 (snM z) (fo1M N (snM z) n w) ∧ p.1 ≤ q1.1 ∧ ∀ (Z z' : ZS), AgN Z z' (snM z) → FwJ (snM z) (fo1M N (snM z) n w) z' → FiD Z (lvN n) (snM z) o p q1 := by sorry
theorem fo3_q {w : ZS} {p : Ps} {h : Int × Int × Int × Int} {kn : List (Int × Int)} {nx b o x lk th : Int} (P : Pz z (h, kn, (nx, b, o, -1, x, lk, th)) p (snM z) w) (hp : snM z < p.1) (hf : zFt (fo3M N (snM z) n w).1 = 0) :
    ∃ (q1 : Ps) (g : Int), Pz z (h, kn, (nx, b, o, g, x, lk, th)) q1 (snM z) (fo3M N (snM z) n w) ∧ p.1 ≤ q1.1 ∧ ∀ (Z z' : ZS), AgN Z z' (snM z) → FwJ (snM z) (fo3M N (snM z) n w) z' → FuD Z (lvN n) (snM z) g p q1 := by sorry
end
/-! what reading lays: for, jumps, return, throw; rows; all S's -/
theorem tg_ag {N : Int → Int} {f g : Nat → SrZ} {on : Bool} {t : Int} {m : Nat} (hh : ∀ i, i < m → (f i).1 = (g i).1 ∧ ((g i).1.1 = 6 → (f i).2.2.2.2.2.2.2.1 = (g i).2.2.2.2.2.2.2.1)) (hp : ∀ i, i < m → (f i).1.2.2.2 < (i : Int)) : ∀ (k k' : Nat) (x : Int), x < (k : Int) → x < (k' : Int) → x + 1 < (m : Int) → tgZ N f on t k x = tgZ N g on t k' x ∧ tgZ N f on t k x < (m : Int) := by sorry
section
variable {z : ZS} {N : Int → Int} {n : Nat}
theorem fo2_q {w : ZS} {p : Ps} {k : Nat} {h : Int × Int × Int × Int} {kn : List (Int × Int)} {nx b o g lk th : Int} (P : Pz z (h, kn, (nx, b, o, g, -1, lk, th)) p (snM z) w) (hf : zFt (fo2M N (snM z) k n w).1 = 0) :
    ∃ (m : List ItZ) (x : Int), Pz z (h, kn, (nx, b, o, g, x, lk, th)) (p.1, p.2.1, m) (snM z) (fo2M N (snM z) k n w) ∧ FcD (lvN n) k h.2.1 x p.2.2 m := by sorry
theorem fo1_b {w : ZS} {j : Nat} (h : zFt (fo1M N j n w).1 = 0) : zFt w.1 = 0 := by sorry
theorem fo2_b {w : ZS} {j k : Nat} (h : zFt (fo2M N j k n w).1 = 0) : zFt w.1 = 0 := by sorry
theorem fo3_b {w : ZS} {j : Nat} (h : zFt (fo3M N j n w).1 = 0) : zFt w.1 = 0 := by sorry
theorem sd_fo (s : SdS N n) (h : zFt (foM2 N (n + 1) (stM N n) z).1 = 0) : SdQ N (n + 1) z (foM2 N (n + 1) (stM N n) z) := by sorry
theorem tq_d {Z : ZS} {M lk : Int} {j : Nat} {on : Bool} (C : Cq Z M z) (hz : snM z = j + 1) (ha : z.2.2.2.1.2 < (j : Int)) (hn : snM z ≤ snM Z) (h1 : kjS Z j = (if on = true then 65 else 64)) (h2 : ljS Z j = lk) (h3 : paS Z j = z.2.2.2.1.2) : tqM N on lk z = tqD N Z j := by sorry
theorem sd_ju {kd : Int} (hk : kd = 64 ∨ kd = 65) (hc : codY z.1 = kd) (h : zFt (juM N kd (n + 1) z).1 = 0) : SdQ N (n + 1) z (juM N kd (n + 1) z) := by sorry
end
/-! what reading lays: return, throw; rows; all S's -/
section
variable {z : ZS} {N : Int → Int} {n : Nat}
theorem sd_g6 (h : zFt (giM N 66 (n + 1) z).1 = 0) : SdQ N (n + 1) z (giM N 66 (n + 1) z) := by sorry
theorem gi_7x : giM N 67 (n + 1) z = enM (snM z) (cnM z) (xpM 4 (cxM 49 1 ((cnM (exS N (snM z) (n + 1) (accM (bgM 67 (n + 1) z))) : Int) - 1) (zAt z.1) (exS N (snM z) (n + 1) (accM (bgM 67 (n + 1) z))))) := by sorry
theorem sd_g7 (h : zFt (giM N 67 (n + 1) z).1 = 0) : SdQ N (n + 1) z (giM N 67 (n + 1) z) := by sorry
/-- an S -/
theorem sd_sm (s : SdS N n) (w : SdW N n) : SdS N (n + 1) := by sorry
/-- a part of a row -/
def SpQ (N : Int → Int) (n : Nat) (sw : Int) (js : Nat) (b : Int) (z z' : ZS) : Prop := snM z < snM z' ∧ njS z' (snM z) = -1 ∧ z'.2.2.2.1.2 = z.2.2.2.1.2 ∧ KpY z.1 z'.1 ∧ (∀ i, i < snM z → reS z' i = reS z i) ∧ (sw = 1 → b = 1 → kjS z' (snM z) = 62 ∨ kjS z' (snM z) = 63) ∧ ∀ (Z : ZS) (M : Int), Cq Z M z → AgN Z z' (snM z) → (sw = 1 ∧ CsD Z (lvN n) js z.2.2.2.1.2 (psM z) (psM z')) ∨ StD N M Z n z.2.2.2.1.2 (psM z) (psM z')
theorem sp_cs {js : Nat} {b : Int} (h : zFt (csM N js n z).1 = 0) (hc : codY z.1 = 62 ∨ codY z.1 = 63) : SpQ N n 1 js b z (csM N js n z) := by sorry
theorem kp_to : KpY z.1 (toM N n z).1 := by sorry
theorem sp_2 (s : SdS N (n + 1)) {sw : Int} {js : Nat} (h : zFt (rp2M N (n + 1) (stM N (n + 1)) z).1 = 0) : SpQ N (n + 1) sw js 0 z (rp2M N (n + 1) (stM N (n + 1)) z) := by sorry
theorem rp2_b (h : zFt (rp2M N n (stM N n) z).1 = 0) : zFt z.1 = 0 := by sorry
theorem sp_rp (s : SdS N (n + 1)) {sw b : Int} {js : Nat} (hb : b = 0 ∨ b = 1) (h : zFt (rpM N (n + 1) (stM N (n + 1)) sw js b z).1 = 0) : SpQ N (n + 1) sw js b z (rpM N (n + 1) (stM N (n + 1)) sw js b z) := by sorry
end
/-! what reading lays: rows, methods, the program -/
theorem rwl_bk {N : Int → Int} {n : Nat} {sw : Int} {js k : Nat} {f l : Int} {z : ZS} (h : zFt (rwlM N n (stM N n) sw js k f l z).1.1 = 0) : zFt z.1 = 0 := by sorry
theorem nx_e {l : Int} {j : Nat} {z : ZS} : (nxM l j z).1 = z.1 ∧ psM (nxM l j z) = psM z ∧ (nxM l j z).2.2.2.1.2 = z.2.2.2.1.2 ∧ (∀ i : Nat, ¬ (i : Int) = l → reS (nxM l j z) i = reS z i) ∧ (0 ≤ l → reS (nxM l j z) l.toNat = sNx j (reS z l.toNat)) := by sorry
theorem rwl_q {N : Int → Int} {n : Nat} (s : SdS N (n + 1)) {sw : Int} {js : Nat} : ∀ (k : Nat) (f l : Int) (z : ZS), l < (snM z : Int) → (0 ≤ l → njS z l.toNat = -1) → ((f = -1 ∧ l < 0) ∨ (0 ≤ f ∧ 0 ≤ l)) → ∀ r, rwlM N (n + 1) (stM N (n + 1)) sw js k f l z = r → zFt r.1.1 = 0 →
    ∃ L, (r.2 = if f < 0 then hdI L else f) ∧ r.1.2.2.2.1.2 = z.2.2.2.1.2 ∧ snM z ≤ snM r.1 ∧ (∀ i : Nat, i < snM z → ¬ (i : Int) = l → reS r.1 i = reS z i) ∧ (0 ≤ l → reS r.1 l.toNat = sNx (hdI L) (reS z l.toNat)) ∧ (∀ j L', L = j :: L' → j = snM z ∧ j < snM r.1 ∧ (sw = 1 → f < 0 → kjS r.1 j = 62 ∨ kjS r.1 j = 63)) ∧ ∀ (Z : ZS) (M : Int), Cq Z M z → AgF Z r.1 (snM z) → RwD (StD N M Z (n + 1)) Z (lvN (n + 1)) sw js z.2.2.2.1.2 L (psM z) (psM r.1) := by sorry
theorem sd_ls {N : Int → Int} : ∀ n, SdS N n ∧ SdW N n := by sorry
/-- a method; a program: the numbers of the bodies -/
def MeD (N : Int → Int) (Z : ZS) (M : Nat) (p q : Ps) : Prop := ∃ (q1 : Ps) (t : Int), BkD (RwD (StD N M Z 20) Z (lvN 20)) Z (lvN 21) (-1) (p.1, p.2.1 + 1, p.2.2) q1 ∧ q = (q1.1, q1.2.1, cIy 54 M 0 t :: q1.2.2)
def PrD (N : Int → Int) (Z : ZS) : List Nat → Nat → Ps → Ps → Prop
  | [], _, p, q => q = p
  | j :: L, M, p, q => j = p.1 ∧ ∃ p1, MeD N Z M p p1 ∧ PrD N Z L (M + 1) p1 q
/-- between methods -/
def Cp (Z z : ZS) : Prop := (zK Z.1 = zK z.1 ∧ 0 ≤ zAt z.1 ∧ zAt z.1 ≤ 500) ∧ (∀ i, i < snM Z → paS Z i < (i : Int)) ∧ snM z ≤ snM Z ∧ ∀ i, i < snM z → (reS Z i).1 = (reS z i).1 ∧ thS Z i = thS z i ∧ (kjS z i = 6 → ljS Z i = ljS z i)
section
variable {N : Int → Int} {z : ZS}
theorem pa2_e {i : Nat} {ty f : Int} : psM (pa2M N i ty f z) = psM z ∧ (pa2M N i ty f z).2.2.2.1.2 = z.2.2.2.1.2 ∧ ∀ j, reS (pa2M N i ty f z) j = reS z j := by sorry
theorem pa1_e {i : Nat} : psM (pa1M N i z) = psM z ∧ (pa1M N i z).2.2.2.1.2 = z.2.2.2.1.2 ∧ ∀ j, reS (pa1M N i z) j = reS z j := by sorry
end
theorem pal_e {N : Int → Int} : ∀ (f i : Nat) (z : ZS), psM (palM N f i z) = psM z ∧ (palM N f i z).2.2.2.1.2 = z.2.2.2.1.2 ∧ ∀ j, reS (palM N f i z) j = reS z j := by sorry
theorem pa_e {N : Int → Int} {z : ZS} : psM (paM N z) = psM z ∧ (paM N z).2.2.2.1.2 = z.2.2.2.1.2 ∧ ∀ j, reS (paM N z) j = reS z j := by sorry
theorem kp_pa {N : Int → Int} {z : ZS} : KpY z.1 (paM N z).1 := by sorry
/-! what reading lays: methods, the program -/
theorem me_q {N : Int → Int} {z : ZS} (h : zFt (meM N z).1 = 0) : (∀ i, i < snM z → reS (meM N z) i = reS z i) ∧ snM z < snM (meM N z) ∧ (zMs (meM N z).1).length = (zMs z.1).length + 1 ∧ NpY z.1 (meM N z).1 ∧ GpY z.1 (meM N z).1 ∧ ∀ Z, Cp Z z → AgF Z (meM N z) (snM z) → MeD N Z (zMs z.1).length (psM z) (psM (meM N z)) := by sorry
theorem pr_q {N : Int → Int} : ∀ (f : Nat) (z : ZS), zFt (prM N f z).1 = 0 → ∃ L : List Nat, (∀ i, i < snM z → reS (prM N f z) i = reS z i) ∧ snM z ≤ snM (prM N f z) ∧ (zMs (prM N f z).1).length = (zMs z.1).length + L.length ∧ NpY z.1 (prM N f z).1 ∧
    (∀ q : (Nat → Nat) × (Nat → Nat), (∀ k, k < (zMs z.1).length → (jfM N f z q).1 k = q.1 k) ∧ ∀ (i j : Nat), L[i]? = some j → (jfM N f z q).1 ((zMs z.1).length + i) = j) ∧ ∀ Z, Cp Z z → AgF Z (prM N f z) (snM z) → PrD N Z L (zMs z.1).length (psM z) (psM (prM N f z)) := by sorry
/-- all that is read, S by S -/
theorem pr_d {N : Int → Int} {f : Nat} {s : SpC} (h : zFt (prM N f (z0S s)).1 = 0) (hs : zAt s = 0 ∧ zMs s = []) : ∃ L : List Nat, L.length = (zMs (prM N f (z0S s)).1).length ∧ (∀ (q : (Nat → Nat) × (Nat → Nat)) (i j : Nat), L[i]? = some j → (jfM N f (z0S s) q).1 i = j) ∧ PrD N (prM N f (z0S s)) L 0 (0, 0, []) (psM (prM N f (z0S s))) := by sorry
/-! what each code asks is what its S asks: pieces -/
/-- all codes of S's that are laid from l to l' -/
def AlB (Φ : List ItZ → Int × Int × Int × Int × Int → Prop) (l l' : List ItZ) : Prop := ∀ y m, (.inr y :: m) <:+ l' → l.length ≤ m.length → Φ m y
section
variable {Φ : List ItZ → Int × Int × Int × Int × Int → Prop} {l l' l'' : List ItZ}
theorem alb_tr (h1 : l <:+ l') (h2 : l' <:+ l'') : AlB Φ l l'' ↔ AlB Φ l l' ∧ AlB Φ l' l'' := by sorry
theorem alb_rf : AlB Φ l l := by sorry
theorem alb_1 {y : Int × Int × Int × Int × Int} : AlB Φ l (.inr y :: l) ↔ Φ l y := by sorry
theorem alb_xs (h : XsR l l') : AlB Φ l l' := by sorry
theorem ExX.xs {r : XrZ} {lv : Int} (h : ExX lv l l' r) : XsR l l' := by sorry
theorem ExX.sf {r : XrZ} {lv : Int} (h : ExX lv l l' r) : l <:+ l' := h.xs.ig
theorem alb_ex {r : XrZ} {lv : Int} (h : ExX lv l l' r) : AlB Φ l l' := alb_xs h.xs
/-- one code, then more -/
theorem alb_c {y : Int × Int × Int × Int × Int} (h : (.inr y :: l) <:+ l') : AlB Φ l l' ↔ Φ l y ∧ AlB Φ (.inr y :: l) l' := by sorry
/-- the last code -/
theorem alb_e {y : Int × Int × Int × Int × Int} (h : l <:+ l') : AlB Φ l (.inr y :: l') ↔ AlB Φ l l' ∧ Φ l' y := by sorry
/-- an exp, then more -/
theorem alb_m {r : XrZ} {lv : Int} (h : ExX lv l l' r) (g : l' <:+ l'') : AlB Φ l l'' ↔ AlB Φ l' l'' := by sorry
end
/-- codes that ask nothing -/
abbrev TrO (o : Int) : Prop := o = 20 ∨ o = 22 ∨ (24 ≤ o ∧ o ≤ 26) ∨ (28 ≤ o ∧ o ≤ 30) ∨ o = 32 ∨ (34 ≤ o ∧ o ≤ 36) ∨ o = 40 ∨ o = 42 ∨ o = 45 ∨ (50 ≤ o ∧ o ≤ 54)
section
variable {C : CxT} {N : Int → Int} {T : TbT} {l : List ItZ} {a b t e : Int}
theorem ok_t {y : Int × Int × Int × Int × Int} (h : TrO y.1 ∨ (y.1 = 33 ∧ y.2.2.1 = 0)) : okS C N T l y := by sorry
theorem ok_21 : okS C N T l (21, a, b, t, e) ↔ ¬ a = 0 := by sorry
theorem ok_cd {o : Int} (ho : o = 23 ∨ o = 27 ∨ o = 31 ∨ (o = 33 ∧ ¬ b = 0)) : okS C N T l (o, a, b, t, e) ↔ (opT T e).1 = 0 := by sorry
theorem ok_37 : okS C N T l (37, a, b, t, e) ↔ 1 ≤ (opT T e).1 ∧ (opT T e).1 ≤ 3 := by sorry
theorem ok_38 : okS C N T l (38, a, b, t, e) ↔ (¬ (opT T e).2.1 = 0 ∧ ftT (opT T e) (opT T (swZ a l)).1) ∧ ∀ o x, itN l o = some (.inr x) → x.1 = 38 → x.2.1 = a → ¬ (opT T x.2.2.2.2).2.2.1 = (opT T e).2.2.1 := by sorry
theorem ok_39 : okS C N T l (39, a, b, t, e) ↔ dfZ a l < 0 := by sorry
theorem ok_41 : okS C N T l (41, a, b, t, e) ↔ ∀ p ∈ lbZ l, ¬ N p.2 = N t := by sorry
theorem ok_46 {o : Int} (ho : o = 46 ∨ o = 47) : okS C N T l (o, a, b, t, e) ↔ 0 ≤ a := by sorry
theorem ok_48 : okS C N T l (48, a, b, t, e) ↔ (a = 0 → mtyT C (mdZ l) = 5) ∧ (¬ a = 0 → ¬ mtyT C (mdZ l) = 5 ∧ ftT (opT T e) (mtyT C (mdZ l))) := by sorry
theorem ok_49 : okS C N T l (49, a, b, t, e) ↔ ftT (opT T e) 3 := by sorry
end
/-! what an S asks, by its kind -/
section
variable {N : Int → Int} {Z : ZS} {T : TbT} {ms : MfT} {j : Nat}
theorem skk_tr (h : kjS Z j = 2 ∨ kjS Z j = 4 ∨ kjS Z j = 68 ∨ (91 ≤ kjS Z j ∧ kjS Z j ≤ 93) ∨ kjS Z j = 62 ∨ kjS Z j = 63) : skT N Z T ms j := by sorry
theorem skk_90 (h : kjS Z j = 90 ∨ kjS Z j = 94) : skT N Z T ms j ↔ (0 ≤ xjS Z j → (xth Z (xjS Z j).toNat).1.1 = 9 ∨ (xth Z (xjS Z j).toNat).1.1 = 6 ∨ (xth Z (xjS Z j).toNat).1.1 = 10) := by sorry
theorem skk_cd (h : kjS Z j = 56 ∨ kjS Z j = 58 ∨ kjS Z j = 59 ∨ kjS Z j = 60) : skT N Z T ms j ↔ (0 ≤ xjS Z j → (T.1 (xjS Z j).toNat).1 = 0) := by sorry
theorem skk_61 (h : kjS Z j = 61) : skT N Z T ms j ↔ swP Z T j := by sorry
theorem skk_64 (h : kjS Z j = 64 ∨ kjS Z j = 65) : skT N Z T ms j ↔ 0 ≤ tjT N Z j := by sorry
theorem skk_66 (h : kjS Z j = 66) : skT N Z T ms j ↔ ∀ m, ms (ljS Z j).toNat = some m → rtT' Z T m j := by sorry
theorem skk_67 (h : kjS Z j = 67) : skT N Z T ms j ↔ (0 ≤ xjS Z j → ftT (T.1 (xjS Z j).toNat) 3) := by sorry
theorem skk_6 (h : kjS Z j = 6) : skT N Z T ms j ↔ lbT N Z (ljS Z j) (snM Z) (paS Z j) := by sorry
end
/-! records of an S -/
section
variable {Z : ZS} {j : Nat} {k t lv a b o g x lk th : Int}
theorem ReD.kj (h : ReD Z j (k, t, lv, a) (b, o, g, x, lk, th)) : kjS Z j = k := congrArg (fun v : Int × Int × Int × Int => v.1) h.1
theorem ReD.fi (h : ReD Z j (k, t, lv, a) (b, o, g, x, lk, th)) : fiS Z j = t := congrArg (fun v : Int × Int × Int × Int => v.2.1) h.1
theorem ReD.lev (h : ReD Z j (k, t, lv, a) (b, o, g, x, lk, th)) : lvS Z j = lv := congrArg (fun v : Int × Int × Int × Int => v.2.2.1) h.1
theorem ReD.pa (h : ReD Z j (k, t, lv, a) (b, o, g, x, lk, th)) : paS Z j = a := congrArg (fun v : Int × Int × Int × Int => v.2.2.2) h.1
theorem ReD.bj (h : ReD Z j (k, t, lv, a) (b, o, g, x, lk, th)) : bjS Z j = b := by sorry
theorem ReD.oj (h : ReD Z j (k, t, lv, a) (b, o, g, x, lk, th)) : ojS Z j = o := by sorry
theorem ReD.gj (h : ReD Z j (k, t, lv, a) (b, o, g, x, lk, th)) : gjS Z j = g := by sorry
theorem ReD.xj (h : ReD Z j (k, t, lv, a) (b, o, g, x, lk, th)) : xjS Z j = x := by sorry
theorem ReD.lj (h : ReD Z j (k, t, lv, a) (b, o, g, x, lk, th)) : ljS Z j = lk := by sorry
theorem ReD.thi (h : ReD Z j (k, t, lv, a) (b, o, g, x, lk, th)) : thS Z j = th := by sorry
end
/-- an exp's number -/
theorem ExX.nn {l m : List ItZ} {r : XrZ} {lv : Int} (h : ExX lv l m r) : ((xcZ m : Int) - 1).toNat = xcZ m - 1 ∧ 0 ≤ (xcZ m : Int) - 1 ∧ xcZ l ≤ xcZ m - 1 ∧ 1 ≤ xcZ m := by sorry
theorem ExX.at {l m L : List ItZ} {r : XrZ} {lv : Int} (h : ExX lv l m r) (g : m <:+ L) : xgZ L (xcZ m - 1) = r := by sorry
/-! what each code asks is what its S asks -/
/-- labels that stand open, methods that have ended: the same -/
def Nb (l l' : List ItZ) : Prop := l <:+ l' ∧ lbZ l' = lbZ l ∧ mdZ l' = mdZ l
theorem Nb.rf {l : List ItZ} : Nb l l := ⟨List.suffix_rfl, rfl, rfl⟩
theorem Nb.tr {l l' l'' : List ItZ} (h : Nb l l') (g : Nb l' l'') : Nb l l'' := ⟨h.1.trans g.1, g.2.1.trans h.2.1, g.2.2.trans h.2.2⟩
theorem nb_r {l : List ItZ} {y : Int × Int × Int × Int × Int} (h : ¬ y.1 = 41 ∧ ¬ y.1 = 42 ∧ ¬ y.1 = 54) : Nb l (.inr y :: l) := by sorry
theorem nb_ci {l : List ItZ} {o a b t : Int} (h : ¬ o = 41 ∧ ¬ o = 42 ∧ ¬ o = 54) : Nb l (cIy o a b t :: l) := nb_r h
theorem nb_ce {l m : List ItZ} {o a b t : Int} (h : ¬ o = 41 ∧ ¬ o = 42 ∧ ¬ o = 54) : Nb l (cEy o a b t m :: l) := nb_r h
theorem nb_l {l : List ItZ} {x : XrZ} : Nb l (.inl x :: l) := ⟨List.suffix_cons _ _, rfl, rfl⟩
theorem nb_xs {l l' : List ItZ} (h : XsR l l') : Nb l l' := by sorry
theorem ExX.nb {l l' : List ItZ} {r : XrZ} {lv : Int} (h : ExX lv l l' r) : Nb l l' := nb_xs h.xs
section
variable {C : CxT} {N : Int → Int} {T : TbT} {l l' m : List ItZ} {o a b t : Int}
theorem ok_ei (h : l <:+ l') (ho : TrO o) : AlB (okS C N T) l (cIy o a b t :: l') ↔ AlB (okS C N T) l l' := by sorry
theorem ok_ci (h : (cIy o a b t :: l) <:+ l') (ho : TrO o) : AlB (okS C N T) l l' ↔ AlB (okS C N T) (cIy o a b t :: l) l' := by sorry
/-- STEP, ENDS -/
theorem ok_wr {t' c : Int} (h : (cIy 20 0 0 t :: l) <:+ m) : AlB (okS C N T) l (cIy 45 c 0 t' :: m) ↔ AlB (okS C N T) (cIy 20 0 0 t :: l) m := by sorry
end
/-- S's from i to j -/
def SkB (N : Int → Int) (Z : ZS) (T : TbT) (ms : MfT) (i j : Nat) : Prop := ∀ k, i ≤ k → k < j → skT N Z T ms k
section
variable {N : Int → Int} {Z : ZS} {T : TbT} {ms : MfT} {i j k : Nat}
theorem skb_0 : SkB N Z T ms i i := fun k a b => by omega
theorem skb_c (h : i < j) : SkB N Z T ms i j ↔ skT N Z T ms i ∧ SkB N Z T ms (i + 1) j := by sorry
theorem skb_1 : SkB N Z T ms i (i + 1) ↔ skT N Z T ms i := by sorry
theorem skb_tr (h : i ≤ j) (g : j ≤ k) : SkB N Z T ms i k ↔ SkB N Z T ms i j ∧ SkB N Z T ms j k := by sorry
theorem lb_fu {t : Int} (hp : ∀ i, i < snM Z → paS Z i < (i : Int)) : ∀ (f g : Nat) (x : Int), x < (f : Int) → x < (g : Int) → x < (snM Z : Int) → (lbT N Z t f x ↔ lbT N Z t g x) := by sorry
end
/-- things that codes name are there -/
def ThB (l : List ItZ) (k : Nat) : Prop := ∀ y, Sum.inr y ∈ l → thO y.1 = true → y.2.1 < (k : Int)
theorem ThB.mo {l : List ItZ} {k k' : Nat} (h : ThB l k) (q : k ≤ k') : ThB l k' := fun y a b => by have := h y a b; omega
theorem ThB.r {l : List ItZ} {k : Nat} {y : Int × Int × Int × Int × Int} (h : ThB l k) (q : thO y.1 = true → y.2.1 < (k : Int)) : ThB (.inr y :: l) k := by sorry
theorem ThB.ci {l : List ItZ} {k : Nat} {o a b t : Int} (h : ThB l k) (q : thO o = true → a < (k : Int)) : ThB (cIy o a b t :: l) k := h.r q
theorem ThB.ce {l m : List ItZ} {k : Nat} {o a b t : Int} (h : ThB l k) (q : thO o = true → a < (k : Int)) : ThB (cEy o a b t m :: l) k := h.r q
theorem ThB.c0 {l : List ItZ} {k : Nat} {o a b t : Int} (h : ThB l k) (q : thO o = false) : ThB (cIy o a b t :: l) k := h.r (fun z => absurd (q.symm.trans z) (by decide))
theorem ThB.e0 {l m : List ItZ} {k : Nat} {o a b t : Int} (h : ThB l k) (q : thO o = false) : ThB (cEy o a b t m :: l) k := h.r (fun z => absurd (q.symm.trans z) (by decide))
theorem ThB.l {l : List ItZ} {k : Nat} {x : XrZ} (h : ThB l k) : ThB (.inl x :: l) k := by sorry
theorem ThB.xs {l l' : List ItZ} {k : Nat} (h : ThB l k) (q : XsR l l') : ThB l' k := by sorry
theorem ThB.ex {l l' : List ItZ} {k : Nat} {r : XrZ} (h : ThB l k) {lv : Int} (q : ExX lv l l' r) : ThB l' k := h.xs q.xs
theorem ThB.pg {js : Int} {p q : Ps} (h : ThB p.2.2 p.2.1) (g : PgD js p q) (hj : js < (q.2.1 : Int)) : ThB q.2.2 q.2.1 := by sorry
/-- what is fixed -/
def HxD (C : CxT) (Z : ZS) (ms : MfT) (M : Int) : Prop := (∀ i, i < snM Z → paS Z i < (i : Int)) ∧ (∃ m, ms M.toNat = some m) ∧ (∀ i, i < snM Z → 0 ≤ thS Z i) ∧ C.2.2.2 = ms
/-- what stands ahead of an S -/
def KxD (N : Int → Int) (Z : ZS) (M : Int) (a : Int) (p q : Ps) : Prop := q.2.2 <:+ Z.2.1 ∧ q.1 ≤ snM Z ∧ a < (p.1 : Int) ∧ (mdZ p.2.2 : Int) = M ∧ (∀ t, (∀ e ∈ lbZ p.2.2, ¬ N e.2 = N t) ↔ lbT N Z t (snM Z) a) ∧ ThB p.2.2 p.2.1
def RsD (C : CxT) (N : Int → Int) (Z : ZS) (T : TbT) (ms : MfT) (p q : Ps) : Prop := (AlB (okS C N T) p.2.2 q.2.2 ↔ SkB N Z T ms p.1 q.1) ∧ Nb p.2.2 q.2.2 ∧ p.1 ≤ q.1
theorem PgD.sf {js : Int} {p q : Ps} (h : PgD js p q) : p.2.2 <:+ q.2.2 := by sorry
theorem StD.pg {N : Int → Int} {M : Int} {Z : ZS} {n : Nat} {a : Int} {p q : Ps} (h : StD N M Z n a p q) : PgD (-1) p q ∧ p.1 < q.1 := by sorry
section
variable {N : Int → Int} {Z : ZS} {T : TbT} {ms : MfT} {C : CxT} {M a : Int}
/-- into an S that is no label: what stands there -/
theorem KxD.in_ {p q : Ps} {j : Nat} {p1 q1 : Ps} (H : HxD C Z ms M) (K : KxD N Z M a p q) (hj : j = p.1) (hk : ¬ kjS Z j = 6) (hpa : paS Z j = a) (h1 : q1.2.2 <:+ q.2.2) (h2 : q1.1 ≤ q.1) (h3 : j < p1.1) (h4 : Nb p.2.2 p1.2.2) (h5 : p.1 < q.1) (h7 : ThB p1.2.2 p1.2.1) : KxD N Z M j p1 q1 := by sorry
/-- into a label -/
theorem KxD.la {p q : Ps} {p1 q1 : Ps} {k t0 : Int} (H : HxD C Z ms M) (K : KxD N Z M a p q) (hk : kjS Z p.1 = 6) (hl : ljS Z p.1 = t0) (hpa : paS Z p.1 = a) (h1 : q1.2.2 <:+ q.2.2) (h2 : q1.1 ≤ q.1) (h3 : p.1 < p1.1) (h4 : lbZ p1.2.2 = (k, t0) :: lbZ p.2.2) (h6 : mdZ p1.2.2 = mdZ p.2.2) (h5 : p.1 < q.1) (h7 : ThB p1.2.2 p1.2.1) : KxD N Z M p.1 p1 q1 := by sorry
end
/-! what each code asks is what its S asks: by its kind -/
theorem acz_i {r : XrZ} : ¬ acZ r = 0 ↔ (r.1.1 = 9 ∨ r.1.1 = 6 ∨ r.1.1 = 10) := by sorry
/-- inside of an S -/
def RsI (C : CxT) (N : Int → Int) (Z : ZS) (T : TbT) (ms : MfT) (j : Nat) (l : List ItZ) (q : Ps) : Prop := (AlB (okS C N T) l q.2.2 ↔ SkB N Z T ms j q.1) ∧ Nb l q.2.2 ∧ j < q.1
abbrev StOk (C : CxT) (N : Int → Int) (Z : ZS) (T : TbT) (ms : MfT) (M : Int) (St : SsT) : Prop := ∀ a p q, St a p q → (PgD (-1) p q ∧ p.1 < q.1) ∧ (KxD N Z M a p q → RsD C N Z T ms p q)
abbrev RwOk (C : CxT) (N : Int → Int) (Z : ZS) (T : TbT) (ms : MfT) (M : Int) (Rw : RsT) : Prop := ∀ a L p q, Rw 0 0 a L p q → (p.2.2 <:+ q.2.2 ∧ p.1 ≤ q.1 ∧ PgD (-1) p q) ∧ (KxD N Z M a p q → RsD C N Z T ms p q)
section
variable {N : Int → Int} {Z : ZS} {T : TbT} {ms : MfT} {C : CxT} {M a lv t c : Int} {j k : Nat} {l : List ItZ} {q : Ps} {St : SsT} {Rw : RsT}
/-- an exp that is a condition -/
theorem cd_i {m l : List ItZ} {r : XrZ} {o b e d : Int} (hx : ExX lv l m r) (ho : o = 23 ∨ o = 27 ∨ o = 31 ∨ (o = 33 ∧ ¬ d = 0)) (hk : kjS Z j = 56 ∨ kjS Z j = 58 ∨ kjS Z j = 59 ∨ kjS Z j = 60) (hxj : xjS Z j = (xcZ m : Int) - 1) : okS C N T m (o, b, d, e, (xcZ m : Int) - 1) ↔ skT N Z T ms j := by sorry
theorem xs_i {m l : List ItZ} {r : XrZ} {b e : Int} (hx : ExX lv l m r) (hZ : m <:+ Z.2.1) (hk : kjS Z j = 90 ∨ kjS Z j = 94) (hxj : xjS Z j = (xcZ m : Int) - 1) : okS C N T m (21, acZ r, b, e, (xcZ m : Int) - 1) ↔ skT N Z T ms j := by sorry
theorem ri_xs (h : XsD Z lv a j k t l q) (hZ : q.2.2 <:+ Z.2.1) : RsI C N Z T ms j l q := by sorry
theorem va_i {h : Int × Int × Int × Int} {th : Int} {l m : List ItZ} (v : VaD Z j h th l m) : AlB (okS C N T) l m ∧ Nb l m ∧ (reS Z j).1 = h := by sorry
theorem ri_to (h : ToD Z lv a j k t l q) : RsI C N Z T ms j l q := by sorry
theorem ri_em (h : EmD Z lv a j k t l q) : RsI C N Z T ms j l q := by sorry
theorem ri_bl (hR : RwOk C N Z T ms M Rw) (H : HxD C Z ms M) (h : BlD Rw Z lv a j k t (cIy 20 0 0 t :: l) q) (K : KxD N Z M a (j, k, l) (q.1, q.2.1, cIy 45 c 0 t :: q.2.2)) : RsI C N Z T ms j (cIy 20 0 0 t :: l) q := by sorry
theorem ri_la (hS : StOk C N Z T ms M St) (H : HxD C Z ms M) (h : LaD St Z lv a j k t (cIy 20 0 0 t :: l) q) (K : KxD N Z M a (j, k, l) (q.1, q.2.1, cIy 45 c 0 t :: q.2.2)) : RsI C N Z T ms j (cIy 20 0 0 t :: l) q := by sorry
theorem ri_if (hS : StOk C N Z T ms M St) (H : HxD C Z ms M) (h : IfD St Z lv a j k t (cIy 20 0 0 t :: l) q) (K : KxD N Z M a (j, k, l) (q.1, q.2.1, cIy 45 c 0 t :: q.2.2)) : RsI C N Z T ms j (cIy 20 0 0 t :: l) q := by sorry
theorem ri_wh (hS : StOk C N Z T ms M St) (H : HxD C Z ms M) (h : WhD St Z lv a j k t (cIy 20 0 0 t :: l) q) (K : KxD N Z M a (j, k, l) (q.1, q.2.1, cIy 45 c 0 t :: q.2.2)) : RsI C N Z T ms j (cIy 20 0 0 t :: l) q := by sorry
theorem ri_do (hS : StOk C N Z T ms M St) (H : HxD C Z ms M) (h : DoD St Z lv a j k t (cIy 20 0 0 t :: l) q) (K : KxD N Z M a (j, k, l) (q.1, q.2.1, cIy 45 c 0 t :: q.2.2)) : RsI C N Z T ms j (cIy 20 0 0 t :: l) q := by sorry
end
/-! what each code asks is what its S asks: for, try, jumps, return, throw; rows -/
section
variable {N : Int → Int} {Z : ZS} {T : TbT} {ms : MfT} {C : CxT} {M a lv t c : Int} {j k : Nat} {l : List ItZ} {q : Ps} {St : SsT} {Rw : RsT}
theorem fx_sf {Z : ZS} {lv a : Int} : ∀ {L : List Nat} {p q : Ps}, FxD Z lv a L p q → Nb p.2.2 q.2.2 ∧ p.1 ≤ q.1 ∧ p.2.1 = q.2.1 ∧ XsR [] [] := by sorry
theorem fx_i {Z : ZS} {lv a : Int} : ∀ {L : List Nat} {p q : Ps}, FxD Z lv a L p q → q.2.2 <:+ Z.2.1 → (AlB (okS C N T) p.2.2 q.2.2 ↔ SkB N Z T ms p.1 q.1) := by sorry
theorem fx_th {Z : ZS} {lv a : Int} : ∀ {L : List Nat} {p q : Ps} {k : Nat}, FxD Z lv a L p q → ThB p.2.2 k → ThB q.2.2 k := by sorry
theorem va_th {h : Int × Int × Int × Int} {th : Int} {l m : List ItZ} {k : Nat} (v : VaD Z j h th l m) (g : ThB l k) : ThB m k := by sorry
theorem fi_i {o : Int} {p q : Ps} (h : FiD Z lv j o p q) (hZ : q.2.2 <:+ Z.2.1) : (AlB (okS C N T) p.2.2 q.2.2 ↔ SkB N Z T ms p.1 q.1) ∧ Nb p.2.2 q.2.2 ∧ p.1 ≤ q.1 ∧ p.2.1 = q.2.1 ∧ ∀ k, ThB p.2.2 k → ThB q.2.2 k := by sorry
theorem fc_i {x : Int} {l m : List ItZ} (h : FcD lv k t x l m) (hk : kjS Z j = 60) (hx : xjS Z j = x) : (AlB (okS C N T) l m ↔ skT N Z T ms j) ∧ Nb l m ∧ ∀ k', k < k' → ThB l k' → ThB m k' := by sorry
theorem ri_fo (hS : StOk C N Z T ms M St) (H : HxD C Z ms M) (h : FoD St Z lv a j k t (cIy 20 0 0 t :: l) q) (K : KxD N Z M a (j, k, l) (q.1, q.2.1, cIy 45 c 0 t :: q.2.2)) : RsI C N Z T ms j (cIy 20 0 0 t :: l) q := by sorry
theorem bk_i (hR : RwOk C N Z T ms M Rw) (H : HxD C Z ms M) {p q : Ps} (h : BkD Rw Z lv a p q) (K : KxD N Z M a p q) : RsD C N Z T ms p q ∧ p.1 < q.1 := by sorry
theorem bk_sf (hR : RwOk C N Z T ms M Rw) {p q : Ps} (h : BkD Rw Z lv a p q) : p.2.2 <:+ q.2.2 ∧ p.1 < q.1 := by sorry
end
/-! what each code asks is what its S asks: try, jumps, return, throw -/
section
variable {N : Int → Int} {Z : ZS} {T : TbT} {ms : MfT} {C : CxT} {M a lv t c : Int} {j k : Nat} {l : List ItZ} {q : Ps} {St : SsT} {Rw : RsT}
theorem bk_pg (hR : RwOk C N Z T ms M Rw) {p q : Ps} (h : BkD Rw Z lv a p q) : PgD (-1) p q := by sorry
/-- a block behind a code, or none -/
theorem op_i (hR : RwOk C N Z T ms M Rw) (H : HxD C Z ms M) {y : Int × Int × Int × Int × Int} {q1 q2 : Ps} (h : q2 = q1 ∨ BkD Rw Z lv j (q1.1, q1.2.1, .inr y :: q1.2.2) q2) (ho : TrO y.1 ∧ ¬ y.1 = 41 ∧ ¬ y.1 = 42 ∧ ¬ y.1 = 54) (hy : y.2.1 < (q1.2.1 : Int)) (th : ThB q1.2.2 q1.2.1) (hK : ∀ p1 : Ps, p1 = (q1.1, q1.2.1, .inr y :: q1.2.2) → p1.2.2 <:+ q2.2.2 → Nb q1.2.2 p1.2.2 → ThB p1.2.2 p1.2.1 → KxD N Z M j p1 q2) : (AlB (okS C N T) q1.2.2 q2.2.2 ↔ SkB N Z T ms q1.1 q2.1) ∧ Nb q1.2.2 q2.2.2 ∧ q1.1 ≤ q2.1 ∧ ThB q2.2.2 q2.2.1 ∧ q1.2.1 ≤ q2.2.1 := by sorry
theorem ri_ty (hR : RwOk C N Z T ms M Rw) (H : HxD C Z ms M) (h : TyD Rw Z lv a j k t (cIy 20 0 0 t :: l) q) (K : KxD N Z M a (j, k, l) (q.1, q.2.1, cIy 45 c 0 t :: q.2.2)) : RsI C N Z T ms j (cIy 20 0 0 t :: l) q := by sorry
theorem ri_ju (H : HxD C Z ms M) (h : JuD N Z lv a j k t l q) (hj : j < snM Z) (ha : a < (j : Int)) : RsI C N Z T ms j l q := by sorry
theorem mty_c (H : HxD C Z ms M) {d : Nat} (hd : (d : Int) = M) : ∃ m, ms M.toNat = some m ∧ mtyT C d = m.2.1 := by sorry
theorem ri_gi (H : HxD C Z ms M) (h : GiD M Z lv a j k t l q) (hM : (mdZ l : Int) = M) : RsI C N Z T ms j l q := by sorry
end
/-! what each code asks is what its S asks: rows, switches, all S's -/
theorem itN_m {x : ItZ} : ∀ {l : List ItZ}, (∃ o, itN l o = some x) ↔ x ∈ l := by sorry
theorem sw_ap {k : Int} {l : List ItZ} : ∀ {t : List ItZ}, (∀ y, Sum.inr y ∈ t → y.1 = 37 → ¬ y.2.1 = k) → swZ k (t ++ l) = swZ k l := by sorry
theorem df_ap {k : Int} {l : List ItZ} : ∀ {t : List ItZ}, (∀ y, Sum.inr y ∈ t → y.1 = 39 → ¬ y.2.1 = k) → dfZ k (t ++ l) = dfZ k l := by sorry
/-- cases and defaults of switch k that stand ahead; its exp x -/
def CsX (Z : ZS) (k : Nat) (x : Int) (ahd : List Nat) (l : List ItZ) : Prop := swZ k l = x ∧ (∀ y, Sum.inr y ∈ l → y.1 = 38 → y.2.1 = (k : Int) → ∃ u ∈ ahd, kjS Z u = 62 ∧ xjS Z u = y.2.2.2.2) ∧ (∀ u ∈ ahd, kjS Z u = 62 → 0 ≤ xjS Z u ∧ ∃ y, Sum.inr y ∈ l ∧ y.1 = 38 ∧ y.2.1 = (k : Int) ∧ y.2.2.2.2 = xjS Z u) ∧ (dfZ k l < 0 ↔ ∀ u ∈ ahd, ¬ kjS Z u = 63)
theorem CsX.ap {Z : ZS} {k : Nat} {x : Int} {ahd : List Nat} {l t : List ItZ} (h : CsX Z k x ahd l) (g : ∀ y, Sum.inr y ∈ t → thO y.1 = true → ¬ y.2.1 = (k : Int)) : CsX Z k x ahd (t ++ l) := by sorry
theorem CsX.xs {Z : ZS} {k : Nat} {x : Int} {ahd : List Nat} {l l' : List ItZ} (h : CsX Z k x ahd l) (g : XsR l l') : CsX Z k x ahd l' := by sorry
theorem CsX.pg {Z : ZS} {k : Nat} {x : Int} {ahd : List Nat} {p q : Ps} (h : CsX Z k x ahd p.2.2) (g : PgD (-1) p q) (hk : k < p.2.1) : CsX Z k x ahd q.2.2 := by sorry
/-- an S that is no case, no default -/
theorem CsX.no {Z : ZS} {k : Nat} {x : Int} {ahd : List Nat} {l : List ItZ} {j : Nat} (h : CsX Z k x ahd l) (h1 : ¬ kjS Z j = 62) (h2 : ¬ kjS Z j = 63) : CsX Z k x (ahd ++ [j]) l := by sorry
theorem CsX.cs {Z : ZS} {k : Nat} {x : Int} {ahd : List Nat} {l : List ItZ} {j : Nat} {b t e : Int} (h : CsX Z k x ahd l) (h1 : kjS Z j = 62) (h2 : xjS Z j = e) (h3 : 0 ≤ e) : CsX Z k x (ahd ++ [j]) (.inr (38, (k : Int), b, t, e) :: l) := by sorry
theorem CsX.df {Z : ZS} {k : Nat} {x : Int} {ahd : List Nat} {l : List ItZ} {j : Nat} {b t e : Int} (h : CsX Z k x ahd l) (h1 : kjS Z j = 63) : CsX Z k x (ahd ++ [j]) (.inr (39, (k : Int), b, t, e) :: l) := by sorry
section
variable {N : Int → Int} {Z : ZS} {T : TbT} {ms : MfT} {C : CxT} {M a lv : Int} {k : Nat} {x ty : Int} {St : SsT}
def CnX (Z : ZS) (T : TbT) (ahd : List Nat) : Prop := ∀ u ∈ ahd, kjS Z u = 62 → ¬ (T.1 (xjS Z u).toNat).2.1 = 0
theorem cs_i {ahd : List Nat} {m : List ItZ} {j : Nat} {b t e : Int} (hx : CsX Z k x ahd m) (hc : CnX Z T ahd) (ht : (opT T x).1 = ty) (h2 : xjS Z j = e) (h3 : 0 ≤ e) : okS C N T m (38, (k : Int), b, t, e) ↔ csT' Z T ty ahd j := by sorry
theorem rw_sf (hS : StOk C N Z T ms M St) {sw : Int} : ∀ {L : List Nat} {p q : Ps}, RwD St Z lv sw k a L p q → p.2.2 <:+ q.2.2 ∧ p.1 ≤ q.1 ∧ p.2.1 ≤ q.2.1 := by sorry
/-- one part behind another -/
theorem KxD.nx {p p1 q : Ps} (K : KxD N Z M a p q) (nb : Nb p.2.2 p1.2.2) (h1 : p.1 ≤ p1.1) (th : ThB p1.2.2 p1.2.1) : KxD N Z M a p1 q := by sorry
theorem KxD.hd {p p1 q : Ps} (K : KxD N Z M a p q) (h : p1.2.2 <:+ q.2.2) (h1 : p1.1 ≤ q.1) : KxD N Z M a p p1 := ⟨h.trans K.1, Nat.le_trans h1 K.2.1, K.2.2⟩
theorem rw_nb (hS : StOk C N Z T ms M St) {sw : Int} : ∀ {L : List Nat} {p q : Ps}, RwD St Z lv sw k a L p q → KxD N Z M a p q → (sw = 1 → k < p.2.1) → Nb p.2.2 q.2.2 ∧ ThB q.2.2 q.2.1 := by sorry
theorem rw1_i (hS : StOk C N Z T ms M St) (hk : ∀ a p q, St a p q → ¬ kjS Z p.1 = 62 ∧ ¬ kjS Z p.1 = 63) (ht : (opT T x).1 = ty) : ∀ {L : List Nat} {p q : Ps} {ahd : List Nat}, RwD St Z lv 1 k a L p q → KxD N Z M a p q → k < p.2.1 → CsX Z k x ahd p.2.2 → CnX Z T ahd → (AlB (okS C N T) p.2.2 q.2.2 ↔ swT' Z T ty ahd L ∧ SkB N Z T ms p.1 q.1) := by sorry
theorem rw_rz (hS : StOk C N Z T ms M St) {sw : Int} : ∀ {L : List Nat} {p q : Ps}, RwD St Z lv sw k a L p q → q.1 ≤ snM Z → RwZ Z (hdI L) L := by sorry
theorem ri_sw (hS : StOk C N Z T ms M St) (hk : ∀ a p q, St a p q → ¬ kjS Z p.1 = 62 ∧ ¬ kjS Z p.1 = 63) (H : HxD C Z ms M) {lv' t c : Int} {j : Nat} {l : List ItZ} {q : Ps} (h : SwD (RwD St Z lv') Z lv a j k t (cIy 20 0 0 t :: l) q) (K : KxD N Z M a (j, k, l) (q.1, q.2.1, cIy 45 c 0 t :: q.2.2)) : RsI C N Z T ms j (cIy 20 0 0 t :: l) q := by sorry
end
/-! what each code asks is what its S asks: all S's, methods, the program -/
section
variable {N : Int → Int} {Z : ZS} {T : TbT} {ms : MfT} {C : CxT} {M : Int}
theorem PgD.tr {p q r : Ps} (h : PgD (-1) p q) (g : PgD (-1) q r) : PgD (-1) p r := by sorry
theorem PgD.rf {js : Int} {p : Ps} : PgD js p p := by sorry
theorem rw0_i {St : SsT} {lv : Int} (hS : StOk C N Z T ms M St) : RwOk C N Z T ms M (RwD St Z lv) := by sorry
theorem st_kd {n : Nat} {a : Int} {p q : Ps} (h : StD N M Z n a p q) : ¬ kjS Z p.1 = 62 ∧ ¬ kjS Z p.1 = 63 := by sorry
/-- every S -/
theorem ok_st (H : HxD C Z ms M) : ∀ n, StOk C N Z T ms M (StD N M Z n) := by sorry
end
/-- the program: every code is fine iff every S is -/
theorem ok_pr {N : Int → Int} {Z : ZS} {T : TbT} {ms : MfT} {C : CxT} {nm : Nat} (hp : ∀ i, i < snM Z → paS Z i < (i : Int)) (hm : ∀ k, k < nm → ∃ m, ms k = some m) (ht : ∀ i, i < snM Z → 0 ≤ thS Z i) (hc : C.2.2.2 = ms) : ∀ (L : List Nat) (M : Nat) (p q : Ps), PrD N Z L M p q → M + L.length ≤ nm → q.2.2 <:+ Z.2.1 → q.1 ≤ snM Z → mdZ p.2.2 = M → lbZ p.2.2 = [] → ThB p.2.2 p.2.1 →
    (p.2.2 <:+ q.2.2 ∧ p.1 ≤ q.1) ∧ (AlB (okS C N T) p.2.2 q.2.2 ↔ SkB N Z T ms p.1 q.1) := by sorry
/-! REACHED and SURELY assigned together, purely: what an S does with the bits it begins with -/
/-- a jump: the S that it leads to, whether by continue, whether it gets there, its bits -/
abbrev JmZ : Type := Int × Bool × Bool × Int64
/-- ends, bits behind it, jumps that leave it; of each S inside: bits ahead of it, whether it ends -/
abbrev ReG : Type := Bool × Int64 × List JmZ × List (Nat × Int64 × Bool)
def cmB (k : Int) (on : Bool) : List JmZ → Int64
  | [] => allB
  | x :: J => if x.1 = k ∧ x.2.1 = on then x.2.2.2 &&& cmB k on J else cmB k on J
def cmA (k : Int) (on : Bool) : List JmZ → Bool
  | [] => false
  | x :: J => if x.1 = k ∧ x.2.1 = on then x.2.2.1 || cmA k on J else cmA k on J
def cmR (k : Int) (on : Bool) : List JmZ → List JmZ
  | [] => []
  | x :: J => if x.1 = k ∧ x.2.1 = on then cmR k on J else x :: cmR k on J
/-- through a finally: whether it ends, its bits -/
def fnJ (e : Bool) (b : Int64) (x : JmZ) : JmZ := (x.1, x.2.1, x.2.2.1 && e, if e = true then x.2.2.2 ||| b else allB)
/-- an exp, or none: when true, when false -/
def exD (z : ZS) (T : TbT) (x : Int) (m : Int64) : Option (Int64 × Int64) := if (bxW z T x m (m, m, [], false)).2.2.2 = true then none else some ((bxW z T x m (m, m, [], false)).1, (bxW z T x m (m, m, [], false)).2.1)
/-- rows; rows of a switch (bits of its exp, alive, bits, default told); S's -/
abbrev DzT : Type := (Int → Bool → Int64 → Option ReG) × (Int → Int64 → Bool → Int64 → Bool → Option (Bool × ReG)) × (Nat → Bool → Int64 → Option ReG)
def apG (r s : ReG) : ReG := (s.1, s.2.1, r.2.2.1 ++ s.2.2.1, r.2.2.2 ++ s.2.2.2)
def bdD (F : DzT) (z : ZS) (j : Nat) (a : Bool) (m : Int64) : Option ReG := if bjS z j < 0 then none else F.2.2 (bjS z j).toNat a m
def rwD' (F : DzT) (z : ZS) (j : Nat) (m : Int64) : Option ReG := F.1 (bjS z j) true m
def xsD' (z : ZS) (T : TbT) (j : Nat) (m : Int64) : Option ReG := (exD z T (xjS z j) m).map (fun e => (true, e.1 &&& e.2, [], []))
def tdD (z : ZS) (T : TbT) (j : Nat) (m : Int64) : Option ReG := if xjS z j < 0 then some (true, m &&& (lkBz z j ^^^ allB), [], []) else (exD z T (xjS z j) (m &&& (lkBz z j ^^^ allB))).map (fun e => (true, (e.1 &&& e.2) ||| lkBz z j, [], []))
def giD' (z : ZS) (T : TbT) (j : Nat) (m : Int64) : Option ReG := (exD z T (xjS z j) m).map (fun _ => (false, allB, [], []))
def juD' (N : Int → Int) (z : ZS) (j : Nat) (m : Int64) : Option ReG := some (false, allB, [(tjT N z j, decide (kjS z j = 65), true, m)], [])
def laD' (F : DzT) (z : ZS) (j : Nat) (m : Int64) : Option ReG := (bdD F z j true m).map (fun r => (r.1 || cmA j false r.2.2.1, r.2.1 &&& cmB j false r.2.2.1, cmR j false r.2.2.1, r.2.2.2))
def ifD' (F : DzT) (z : ZS) (T : TbT) (j : Nat) (m : Int64) : Option ReG := (exD z T (xjS z j) m).bind (fun e => (bdD F z j true e.1).bind (fun r => if ojS z j < 0 then some (true, r.2.1 &&& e.2, r.2.2.1, r.2.2.2) else (F.2.2 (ojS z j).toNat true e.2).map (fun s => (s.1 || r.1, r.2.1 &&& s.2.1, r.2.2.1 ++ s.2.2.1, r.2.2.2 ++ s.2.2.2))))
def doD' (F : DzT) (z : ZS) (T : TbT) (j : Nat) (m : Int64) : Option ReG := (bdD F z j true m).bind (fun r => (exD z T (xjS z j) (r.2.1 &&& cmB j true r.2.2.1)).map (fun e => (((r.1 || cmA j true r.2.2.1) && !(alwT z T j 1)) || cmA j false r.2.2.1, e.2 &&& cmB j false r.2.2.1, cmR j false (cmR j true r.2.2.1), r.2.2.2)))
def whD' (F : DzT) (z : ZS) (T : TbT) (j : Nat) (m : Int64) : Option ReG := (if kjS z j = 60 then F.1 (ojS z j) true m else some (true, m, [], [])).bind (fun i => (exD z T (xjS z j) i.2.1).bind (fun e => (bdD F z j (!(alwT z T j 0)) e.1).bind (fun r => (if kjS z j = 60 then F.1 (gjS z j) true (r.2.1 &&& cmB j true r.2.2.1) else some (true, m, [], [])).map (fun u => (!(alwT z T j 1) || cmA j false r.2.2.1, (if xjS z j < 0 then allB else e.2) &&& cmB j false r.2.2.1, cmR j false (cmR j true r.2.2.1), r.2.2.2)))))
def swD' (F : DzT) (z : ZS) (T : TbT) (j : Nat) (m : Int64) : Option ReG := (exD z T (xjS z j) m).bind (fun e => (F.2.1 (bjS z j) (e.1 &&& e.2) false allB false).map (fun q => ((q.2.1 || !q.1) || cmA j false q.2.2.2.1, (if q.1 = true then q.2.2.1 else q.2.2.1 &&& (e.1 &&& e.2)) &&& cmB j false q.2.2.2.1, cmR j false q.2.2.2.1, q.2.2.2.2)))
/-- a block of try -/
def bkD' (F : DzT) (z : ZS) (x : Int) (m : Int64) : Option ReG := if x < 0 then none else F.1 (bjS z x.toNat) true m
def tyD' (F : DzT) (z : ZS) (j : Nat) (m : Int64) : Option ReG := (bkD' F z (bjS z j) m).bind (fun a => (if ojS z j < 0 then some a else (bkD' F z (ojS z j) (if ljS z j < 0 then m else m ||| bitQ (ljS z j))).map (fun b => (a.1 || b.1, a.2.1 &&& b.2.1, a.2.2.1 ++ b.2.2.1, a.2.2.2 ++ b.2.2.2))).bind (fun c => if gjS z j < 0 then some c else (bkD' F z (gjS z j) m).map (fun d => (c.1 && d.1, c.2.1 ||| d.2.1, c.2.2.1.map (fnJ d.1 d.2.1) ++ d.2.2.1, c.2.2.2 ++ d.2.2.2))))
def inD' (F : DzT) (N : Int → Int) (z : ZS) (T : TbT) (j : Nat) (m : Int64) : Option ReG :=
  if kjS z j = 2 then rwD' F z j m
  else if kjS z j = 91 ∨ kjS z j = 93 then tdD z T j m
  else if kjS z j = 90 ∨ kjS z j = 94 then xsD' z T j m
  else if kjS z j = 66 ∨ kjS z j = 67 then giD' z T j m
  else if kjS z j = 64 ∨ kjS z j = 65 then juD' N z j m
  else if kjS z j = 6 then laD' F z j m
  else if kjS z j = 56 then ifD' F z T j m
  else if kjS z j = 59 then doD' F z T j m
  else if kjS z j = 58 ∨ kjS z j = 60 then whD' F z T j m
  else if kjS z j = 61 then swD' F z T j m
  else if kjS z j = 68 then tyD' F z j m
  else some (true, m, [], [])
def stD' (F : DzT) (N : Int → Int) (z : ZS) (T : TbT) (j : Nat) (a : Bool) (m : Int64) : Option ReG := if a = true then (inD' F N z T j m).map (fun r => (r.1, r.2.1, r.2.2.1, (j, m, r.1) :: r.2.2.2)) else none
def dF (N : Int → Int) (z : ZS) (T : TbT) : Nat → DzT
  | 0 => (fun _ a m => some (a, m, [], []), fun _ _ a m d => some (d, a, m, [], []), fun _ a m => some (a, m, [], []))
  | n + 1 => (fun x a m => if x < 0 then some (a, m, [], []) else ((dF N z T n).2.2 x.toNat a m).bind (fun r => ((dF N z T n).1 (njS z x.toNat) r.1 r.2.1).map (apG r)),
      fun x ch a m d => if x < 0 then some (d, a, m, [], []) else if kjS z x.toNat = 62 ∨ kjS z x.toNat = 63 then (dF N z T n).2.1 (njS z x.toNat) ch true (m &&& ch) (d || decide (kjS z x.toNat = 63)) else ((dF N z T n).2.2 x.toNat a m).bind (fun r => ((dF N z T n).2.1 (njS z x.toNat) ch r.1 r.2.1 d).map (fun s => (s.1, apG r s.2))),
      stD' (dF N z T n) N z T)
section
variable {N : Int → Int} {z : ZS} {T : TbT} {n j : Nat} {m ch : Int64} {a d : Bool} {x : Int}
theorem d_st : (dF N z T (n + 1)).2.2 = stD' (dF N z T n) N z T := rfl
theorem d_r0 (h : x < 0) : (dF N z T n).1 x a m = some (a, m, [], []) := by sorry
theorem d_r1 : (dF N z T (n + 1)).1 (j : Int) a m = ((dF N z T n).2.2 j a m).bind (fun r => ((dF N z T n).1 (njS z j) r.1 r.2.1).map (apG r)) := by sorry
theorem d_s0 (h : x < 0) : (dF N z T n).2.1 x ch a m d = some (d, a, m, [], []) := by sorry
theorem d_s1 (h : kjS z j = 62 ∨ kjS z j = 63) : (dF N z T (n + 1)).2.1 (j : Int) ch a m d = (dF N z T n).2.1 (njS z j) ch true (m &&& ch) (d || decide (kjS z j = 63)) := by sorry
theorem d_s2 (h : ¬ (kjS z j = 62 ∨ kjS z j = 63)) : (dF N z T (n + 1)).2.1 (j : Int) ch a m d = ((dF N z T n).2.2 j a m).bind (fun r => ((dF N z T n).2.1 (njS z j) ch r.1 r.2.1 d).map (fun s => (s.1, apG r s.2))) := by sorry
theorem d_f : stD' (dF N z T n) N z T j false m = none := if_neg (by decide)
theorem d_t : stD' (dF N z T n) N z T j true m = (inD' (dF N z T n) N z T j m).map (fun r => (r.1, r.2.1, r.2.2.1, (j, m, r.1) :: r.2.2.2)) := if_pos rfl
variable {F : DzT}
theorem i_2 (h : kjS z j = 2) : inD' F N z T j m = rwD' F z j m := by sorry
theorem i_91 (h : kjS z j = 91 ∨ kjS z j = 93) : inD' F N z T j m = tdD z T j m := by sorry
theorem i_90 (h : kjS z j = 90 ∨ kjS z j = 94) : inD' F N z T j m = xsD' z T j m := by sorry
theorem i_66 (h : kjS z j = 66 ∨ kjS z j = 67) : inD' F N z T j m = giD' z T j m := by sorry
theorem i_64 (h : kjS z j = 64 ∨ kjS z j = 65) : inD' F N z T j m = juD' N z j m := by sorry
theorem i_6 (h : kjS z j = 6) : inD' F N z T j m = laD' F z j m := by sorry
theorem i_56 (h : kjS z j = 56) : inD' F N z T j m = ifD' F z T j m := by sorry
theorem i_59 (h : kjS z j = 59) : inD' F N z T j m = doD' F z T j m := by sorry
theorem i_58 (h : kjS z j = 58 ∨ kjS z j = 60) : inD' F N z T j m = whD' F z T j m := by sorry
theorem i_61 (h : kjS z j = 61) : inD' F N z T j m = swD' F z T j m := by sorry
theorem i_68 (h : kjS z j = 68) : inD' F N z T j m = tyD' F z j m := by sorry
theorem i_4 (h : kjS z j = 4) : inD' F N z T j m = some (true, m, [], []) := by sorry
end
/-! jumps, together -/
section
variable {k i : Int} {on o : Bool}
theorem cmA_ap {J K : List JmZ} : cmA k on (J ++ K) = (cmA k on J || cmA k on K) := by sorry
theorem cmA_ne {J : List JmZ} (h : ¬ (i = k ∧ o = on)) : cmA i o (cmR k on J) = cmA i o J := by sorry
theorem cmA_fn {e : Bool} {b : Int64} {J : List JmZ} : cmA k on (J.map (fnJ e b)) = (cmA k on J && e) := by sorry
end
/-! REACHED, as the class goes, is what the function of y20 says: pieces -/
/-- finallys on the way from x outwards lie at hi or behind it -/
def FaC (z : ZS) (hi : Nat) : Nat → Int → Prop
  | 0, _ => True
  | k + 1, x => x < 0 ∨ ((hfA z x.toNat = true → (hi : Int) ≤ gjS z (paS z x.toNat).toNat) ∧ FaC z hi k (paS z x.toNat))
section
variable {z : ZS} {hi : Nat} {en en' : Nat → Bool} {tg : Int}
theorem FaC.mo {lo : Nat} (h : lo ≤ hi) : ∀ {k : Nat} {x : Int}, FaC z hi k x → FaC z lo k x := by sorry
theorem fac_in {j : Nat} {a : Int} (hk : ¬ kjS z j = 92) (hpa : paS z j = a) (h : ∀ k, FaC z hi k a) : ∀ k, FaC z hi k (j : Int) := by sorry
theorem fac_bk {j : Nat} {a : Int} (hpa : paS z j = a) (hg : 0 ≤ gjS z a.toNat → ¬ gjS z a.toNat = (j : Int) → (hi : Int) ≤ gjS z a.toNat) (h : ∀ k, FaC z hi k a) : ∀ k, FaC z hi k (j : Int) := by sorry
theorem mt_ag (he : ∀ i, hi ≤ i → en' i = en i) : ∀ {k : Nat} {x : Int}, FaC z hi k x → mtF z en' tg k x = mtF z en tg k x := by sorry
theorem mt_fu (hp : ∀ i, i < snM z → paS z i < (i : Int)) : ∀ (k k' : Nat) (x : Int), x < (k : Int) → x < (k' : Int) → x < (snM z : Int) → mtF z en tg k x = mtF z en tg k' x := by sorry
/-- whether a jump gets from x to where it leads -/
def mtP (z : ZS) (en : Nat → Bool) (tg x : Int) : Bool := mtF z en tg (snM z) x
theorem mtp_s (hp : ∀ i, i < snM z → paS z i < (i : Int)) {j : Nat} (hj : j < snM z) (h : ¬ (j : Int) = tg) : mtP z en tg (j : Int) = if (hfA z j && !(en (gjS z (paS z j).toNat).toNat)) = true then false else mtP z en tg (paS z j) := by sorry
theorem mtp_e : mtP z en tg tg = true := mt_eq rfl
theorem mtp_in (hp : ∀ i, i < snM z → paS z i < (i : Int)) {j : Nat} (hj : j < snM z) (h : ¬ (j : Int) = tg) (hk : ¬ kjS z j = 92) : mtP z en tg (j : Int) = mtP z en tg (paS z j) := by sorry
end
/-- between: which ends, jumps' targets change (only S's from lo on, below hi, but for where jumps lead to) -/
def UrD (z : ZS) (a : Int) (lo hi : Nat) (r r' : RR) (J : List JmZ) : Prop := (∀ i, ¬ (lo ≤ i ∧ i < hi) → r'.1 i = r.1 i) ∧ (∀ i, hi ≤ i → r'.2.1 i = r.2.1 i ∧ r'.2.2.1 i = r.2.2.1 i) ∧ (∀ i : Nat, i < lo → r'.2.1 i = (r.2.1 i || (cmA i false J && mtP z r.1 i a)) ∧ r'.2.2.1 i = (r.2.2.1 i || (cmA i true J && mtP z r.1 i a))) ∧ r'.2.2.2 = r.2.2.2
section
variable {z : ZS} {a : Int} {lo hi : Nat} {r r1 r2 : RR} {J K : List JmZ}
theorem UrD.rf : UrD z a lo hi r r [] := by sorry
theorem UrD.wd {lo' hi' : Nat} (h : UrD z a lo' hi' r r1 J) (h1 : lo ≤ lo') (h2 : hi' ≤ hi) : UrD z a lo hi r r1 J := by sorry
theorem UrD.tr (h : UrD z a lo hi r r1 J) (g : UrD z a lo hi r1 r2 K) (hf : ∀ k, FaC z hi k a) : UrD z a lo hi r r2 (J ++ K) := by sorry
/-- out of an S that is no block of try -/
theorem UrD.up {j : Nat} {e : Bool} (hp : ∀ i, i < snM z → paS z i < (i : Int)) (h : UrD z (j : Int) lo hi r r1 J) (hl : j < lo) (hh : lo ≤ hi) (hj : j < snM z) (hk : ¬ kjS z j = 92) (hpa : paS z j = a) (hJ : ∀ (i : Nat) (o : Bool), i < j → cmA i o K = cmA i o J) : UrD z a j hi r (rrE j e r1) K := by sorry
theorem UrD.ee {j : Nat} {e : Bool} (h : UrD z a lo hi r r1 J) (hj : lo ≤ j) (hj2 : j < hi) : UrD z a lo hi r (rrE j e r1) J := by sorry
/-- out of a block of try; en: whether what leaves it gets through the finally -/
theorem UrD.bk {j t : Nat} {e en : Bool} (hp : ∀ i, i < snM z → paS z i < (i : Int)) (h : UrD z (t : Int) lo hi r r1 J) (hl : t < lo) (hh : lo ≤ hi) (ht : t < snM z) (hpa : paS z t = (j : Int)) (hj : j < t) (hen : (hfA z t && !(r.1 (gjS z j).toNat)) = !en) (hJ : ∀ (i : Nat) (o : Bool), cmA i o K = (cmA i o J && en)) : UrD z (j : Int) (j + 1) hi r (rrE t e r1) K := by sorry
end
/-- S's whose ends, bits ahead are asked for -/
def StK (z : ZS) (i : Nat) : Prop := ¬ kjS z i = 92 ∧ ¬ kjS z i = 93 ∧ ¬ kjS z i = 94
def LgR (z : ZS) (lo hi : Nat) (r : RR) (G : List (Nat × Int64 × Bool)) : Prop := ∀ x ∈ G, (lo ≤ x.1 ∧ x.1 < hi) ∧ (StK z x.1 → r.1 x.1 = x.2.2)
def FrR (lo hi : Nat) (r : RR) : Prop := ∀ i, lo ≤ i → i < hi → r.2.1 i = false ∧ r.2.2.1 i = false
section
variable {z : ZS} {a : Int} {lo hi mi : Nat} {r r1 r2 : RR} {J : List JmZ} {G H : List (Nat × Int64 × Bool)}
theorem LgR.nil : LgR z lo hi r [] := fun _ h => absurd h List.not_mem_nil
theorem LgR.wd {lo' hi' : Nat} (h : LgR z lo' hi' r G) (h1 : lo ≤ lo') (h2 : hi' ≤ hi) : LgR z lo hi r G := fun x q => ⟨by have := (h x q).1; omega, (h x q).2⟩
theorem LgR.fr {lo' hi' : Nat} (h : LgR z lo' hi' r G) (e : ∀ i, lo' ≤ i → i < hi' → r1.1 i = r.1 i) : LgR z lo' hi' r1 G := by sorry
theorem LgR.ap (h : LgR z lo hi r G) (g : LgR z lo hi r H) : LgR z lo hi r (G ++ H) := fun x q => (List.mem_append.mp q).elim (h x) (g x)
theorem LgR.co {j : Nat} {e : Bool} {m : Int64} (h : LgR z (j + 1) hi r G) (hj : j < hi) : LgR z j hi (rrE j e r) ((j, m, e) :: G) := by sorry
theorem FrR.wd {lo' hi' : Nat} (h : FrR lo hi r) (h1 : lo ≤ lo') (h2 : hi' ≤ hi) : FrR lo' hi' r := fun i a b => h i (by omega) (by omega)
theorem FrR.nx {hi' : Nat} (h : FrR lo hi' r) (g : UrD z a lo hi r r1 J) (q : lo ≤ hi) : FrR hi hi' r1 := by sorry
theorem FrR.e {j : Nat} {e : Bool} (h : FrR lo hi r) : FrR lo hi (rrE j e r) := h
end
/-! REACHED, as the class goes, is what the function of y20 says: by kinds -/
def KrD (z : ZS) (a : Int) (j hi : Nat) : Prop := hi ≤ snM z ∧ a < (j : Int) ∧ j < hi ∧ (∀ k, FaC z hi k a) ∧ ∀ i, i < snM z → paS z i < (i : Int)
def RcO (N : Int → Int) (z : ZS) (T : TbT) (a : Int) (lo hi : Nat) (r : RR) (R : ReG) (o : Bool × RR) : Prop := o.1 = R.1 ∧ UrD z a lo hi r o.2 R.2.2.1 ∧ LgR z lo hi o.2 R.2.2.2
abbrev RcSo (N : Int → Int) (z : ZS) (T : TbT) (St : SsT) : Prop := ∀ a p q, St a p q → p.1 < q.1 ∧ ∀ (f : Nat) (r : RR) (m : Int64) (R : ReG), 2 * (q.1 - p.1) ≤ f + 1 → KrD z a p.1 q.1 → FrR p.1 q.1 r → (dF N z T f).2.2 p.1 true m = some R → RcO N z T a p.1 q.1 r R ((rcF N z T f).2.2 p.1 true r)
def KrW (z : ZS) (a : Int) (j hi : Nat) : Prop := hi ≤ snM z ∧ a < (j : Int) ∧ (∀ k, FaC z hi k a) ∧ ∀ i, i < snM z → paS z i < (i : Int)
abbrev RcRo (N : Int → Int) (z : ZS) (T : TbT) (Rw : RsT) : Prop := ∀ a L p q, Rw 0 0 a L p q → p.1 ≤ q.1 ∧ ∀ (f : Nat) (r : RR) (al : Bool) (m : Int64) (R : ReG), 2 * (q.1 - p.1) ≤ f → KrW z a p.1 q.1 → FrR p.1 q.1 r → (dF N z T f).1 (hdI L) al m = some R → RcO N z T a p.1 q.1 r R ((rcF N z T f).1 (hdI L) al r)
/-- inside of an S -/
def RcI (N : Int → Int) (z : ZS) (T : TbT) (a : Int) (j hi : Nat) : Prop := ∀ (f : Nat) (r : RR) (m : Int64) (R : ReG), 2 * (hi - j) ≤ f + 2 → KrD z a j hi → FrR j hi r → inD' (dF N z T f) N z T j m = some R → (inR (rcF N z T f) N z T j r).1 = R.1 ∧ UrD z a j hi r (rrE j R.1 (inR (rcF N z T f) N z T j r).2) R.2.2.1 ∧ LgR z (j + 1) hi (inR (rcF N z T f) N z T j r).2 R.2.2.2
section
variable {N : Int → Int} {z : ZS} {T : TbT} {a lv t : Int} {j k : Nat} {l : List ItZ} {q : Ps} {St : SsT} {Rw : RsT}
theorem KrD.w {hi : Nat} (K : KrD z a j hi) : KrW z a j hi := ⟨K.1, K.2.1, K.2.2.2⟩
theorem KrD.in_ {hi lo hi' : Nat} (K : KrD z a j hi) (hk : ¬ kjS z j = 92) (hpa : paS z j = a) (h1 : j < lo) (h2 : hi' ≤ hi) (h3 : lo < hi') : KrD z (j : Int) lo hi' := by sorry
theorem KrD.iw {hi lo hi' : Nat} (K : KrD z a j hi) (hk : ¬ kjS z j = 92) (hpa : paS z j = a) (h1 : j < lo) (h2 : hi' ≤ hi) : KrW z (j : Int) lo hi' := by sorry
theorem rrE_2 {e : Bool} {r : RR} : rrE j e (rrE j e r) = rrE j e r := by sorry
theorem ur_leaf {r : RR} {e : Bool} {hi : Nat} (h : j < hi) : UrD z a j hi r (rrE j e r) [] := UrD.ee UrD.rf (Nat.le_refl _) h
theorem omap {α β : Type} {o : Option α} {f : α → β} {y : β} (h : o.map f = some y) : ∃ x, o = some x ∧ f x = y := Option.map_eq_some_iff.mp h
theorem obind {α β : Type} {o : Option α} {f : α → Option β} {y : β} (h : o.bind f = some y) : ∃ x, o = some x ∧ f x = some y := Option.bind_eq_some_iff.mp h
/-- S's that neither lead anywhere nor hold others -/
theorem rc_lf (hk : kjS z j = 90 ∨ kjS z j = 94 ∨ kjS z j = 91 ∨ kjS z j = 93 ∨ kjS z j = 4 ∨ kjS z j = 66 ∨ kjS z j = 67) : RcI N z T a j (j + 1) := by sorry
theorem rc_ju (hk : kjS z j = 64 ∨ kjS z j = 65) (hpa : paS z j = a) (ht : tjT N z j ≤ (j : Int)) : RcI N z T a j (j + 1) := by sorry
theorem rc_bl (hR : RcRo N z T Rw) {L : List Nat} {p : Nat × List ItZ} (hr : Rw 0 0 j L (j + 1, p) q) (hk : kjS z j = 2) (hpa : paS z j = a) (hb : bjS z j = hdI L) : RcI N z T a j q.1 := by sorry
theorem bdR_e {F : RcT} {b : Nat} {al : Bool} {r : RR} (h : bjS z j = (b : Int)) : bdR F z j al r = F.2.2 b al r := by sorry
theorem bdD_e {F : DzT} {b : Nat} {al : Bool} {m : Int64} (h : bjS z j = (b : Int)) : bdD F z j al m = F.2.2 b al m := by sorry
/-- a jump to j itself: gets there -/
theorem ur_j {lo hi : Nat} {r r1 : RR} {J : List JmZ} (h : UrD z (j : Int) lo hi r r1 J) (hl : j < lo) (hF : r.2.1 j = false ∧ r.2.2.1 j = false) : r1.2.1 j = cmA j false J ∧ r1.2.2.1 j = cmA j true J := by sorry
theorem rc_la (hS : RcSo N z T St) {p : Nat × List ItZ} {q1 : Ps} (hs : St j (j + 1, p) q1) (hk : kjS z j = 6) (hpa : paS z j = a) (hb : bjS z j = ((j + 1 : Nat) : Int)) : RcI N z T a j q1.1 := by sorry
theorem rc_if1 (hS : RcSo N z T St) {p : Nat × List ItZ} {q1 : Ps} (hs : St j (j + 1, p) q1) (hk : kjS z j = 56) (hpa : paS z j = a) (hb : bjS z j = ((j + 1 : Nat) : Int)) (ho : ojS z j = -1) : RcI N z T a j q1.1 := by sorry
theorem rc_if2 (hS : RcSo N z T St) {p : Nat × List ItZ} {q1 q2 : Ps} {p2 : Nat × List ItZ} (hs : St j (j + 1, p) q1) (hs2 : St j (q1.1, p2) q2) (hk : kjS z j = 56) (hpa : paS z j = a) (hb : bjS z j = ((j + 1 : Nat) : Int)) (ho : ojS z j = (q1.1 : Int)) : RcI N z T a j q2.1 := by sorry
end
/-! REACHED, as the class goes, is what the function of y20 says: loops, switch, try; all S's -/
theorem d_fa {N : Int → Int} {z : ZS} {T : TbT} {f j : Nat} {m : Int64} (h : 1 ≤ f) : (dF N z T f).2.2 j false m = none := by sorry
section
variable {N : Int → Int} {z : ZS} {T : TbT} {a lv t : Int} {j k : Nat} {l : List ItZ} {q : Ps} {St : SsT} {Rw : RsT}
theorem UrD.cg {lo hi : Nat} {r r1 : RR} {J K : List JmZ} (h : UrD z a lo hi r r1 J) (e : ∀ (i : Nat) (o : Bool), i < lo → cmA i o K = cmA i o J) : UrD z a lo hi r r1 K := by sorry
theorem rc_wh (hS : RcSo N z T St) {b : Nat} {p : Nat × List ItZ} {q1 : Ps} (hs : St j (b, p) q1) (hjb : j < b) (hk : kjS z j = 58 ∨ kjS z j = 60) (hpa : paS z j = a) (hb : bjS z j = (b : Int)) : RcI N z T a j q1.1 := by sorry
theorem rc_do (hS : RcSo N z T St) {p : Nat × List ItZ} {q1 : Ps} (hs : St j (j + 1, p) q1) (hk : kjS z j = 59) (hpa : paS z j = a) (hb : bjS z j = ((j + 1 : Nat) : Int)) : RcI N z T a j q1.1 := by sorry
theorem KrW.hd {lo hi hi' : Nat} (K : KrW z a lo hi) (h : hi' ≤ hi) (h2 : lo < hi') : KrD z a lo hi' := by sorry
theorem KrW.nx {lo lo' hi : Nat} (K : KrW z a lo hi) (h : lo ≤ lo') : KrW z a lo' hi := ⟨K.1, by have := K.2.1; omega, K.2.2⟩
/-- rows -/
theorem rc_row (hS : RcSo N z T St) : RcRo N z T (RwD St z lv) := by sorry
/-- rows of a switch -/
theorem rc_srow (hS : RcSo N z T St) (hkd : ∀ a p q, St a p q → ¬ kjS z p.1 = 62 ∧ ¬ kjS z p.1 = 63) : ∀ (L : List Nat) (p q : Ps), RwD St z lv 1 k a L p q → p.1 ≤ q.1 ∧ ∀ (f : Nat) (r : RR) (al d : Bool) (m ch : Int64) (R : Bool × ReG), 2 * (q.1 - p.1) ≤ f → KrW z a p.1 q.1 → FrR p.1 q.1 r → (dF N z T f).2.1 (hdI L) ch al m d = some R → ((rcF N z T f).2.1 (hdI L) al d r).1 = R.2.1 ∧ ((rcF N z T f).2.1 (hdI L) al d r).2.1 = R.1 ∧ UrD z a p.1 q.1 r ((rcF N z T f).2.1 (hdI L) al d r).2.2 R.2.2.2.1 ∧ LgR z p.1 q.1 ((rcF N z T f).2.1 (hdI L) al d r).2.2 R.2.2.2.2 := by sorry
theorem rc_sw (hS : RcSo N z T St) (hkd : ∀ a p q, St a p q → ¬ kjS z p.1 = 62 ∧ ¬ kjS z p.1 = 63) {L : List Nat} {p : Nat × List ItZ} {q1 : Ps} (hr : RwD St z lv 1 k j L (j + 1, p) q1) (hk : kjS z j = 61) (hpa : paS z j = a) (hb : bjS z j = hdI L) : RcI N z T a j q1.1 := by sorry
end
/-! jumps lead to S's around -/
abbrev LpK (k : Int) : Prop := k = 58 ∨ k = 59 ∨ k = 60
def ChO (z : ZS) (on : Bool) : Nat → Int → Int → Prop
  | 0, _, _ => False
  | k + 1, a, x => 0 ≤ a ∧ ((x = a ∧ (LpK (kjS z a.toNat) ∨ (on = false ∧ (kjS z a.toNat = 61 ∨ kjS z a.toNat = 6)))) ∨ (x = a + 1 ∧ kjS z a.toNat = 6 ∧ on = true ∧ LpK (kjS z (a.toNat + 1))) ∨ ChO z on k (paS z a.toNat) x)
def JtO (z : ZS) (a : Int) (J : List JmZ) : Prop := ∀ x ∈ J, x.1 < 0 ∨ ∃ k, ChO z x.2.1 k a x.1
section
variable {N : Int → Int} {z : ZS} {T : TbT} {a lv t : Int} {j : Nat} {J K : List JmZ}
theorem tg_ch {on : Bool} {lk : Int} : ∀ (k : Nat) (x : Int), tgZ N z.2.2.1.2 on lk k x < 0 ∨ ChO z on k x (tgZ N z.2.2.1.2 on lk k x) := by sorry
theorem JtO.nil : JtO z a [] := fun _ h => absurd h List.not_mem_nil
theorem JtO.ap (h : JtO z a J) (g : JtO z a K) : JtO z a (J ++ K) := fun x q => (List.mem_append.mp q).elim (h x) (g x)
theorem cmR_m {k : Int} {on : Bool} {x : JmZ} : ∀ {J : List JmZ}, x ∈ cmR k on J → x ∈ J ∧ ¬ (x.1 = k ∧ x.2.1 = on) := by sorry
/-- out of an S -/
theorem jt_up (h : JtO z (j : Int) J) (hpa : paS z j = a) (hK : ∀ x ∈ K, x ∈ J ∧ ¬ x.1 = (j : Int) ∧ (kjS z j = 6 → ¬ x.1 = (j : Int) + 1)) : JtO z a K := by sorry
theorem ch_le (hp : ∀ i, i < snM z → paS z i < (i : Int)) {on : Bool} : ∀ {k : Nat} {a x : Int}, ChO z on k a x → a < (snM z : Int) → x ≤ a + 1 ∧ (x = a + 1 → LpK (kjS z (a.toNat + 1))) := by sorry
/-- no jump from around leads to an S that is no loop -/
theorem ch_ne (hp : ∀ i, i < snM z → paS z i < (i : Int)) {on : Bool} {k : Nat} (h : ChO z on k a (j : Int)) (ha : a < (j : Int)) (hj : j < snM z) : LpK (kjS z j) := by sorry
/-- jumps inside an S that lead to it -/
theorem jt_self (hp : ∀ i, i < snM z → paS z i < (i : Int)) (h : JtO z (j : Int) J) (hj : j < snM z) {x : JmZ} (hx : x ∈ J) (e : x.1 = (j : Int)) : LpK (kjS z j) ∨ (x.2.1 = false ∧ (kjS z j = 61 ∨ kjS z j = 6)) := by sorry
/-- from an S that no jump leads to: outwards -/
theorem jt_out (h : JtO z (j : Int) J) (hk : ¬ (LpK (kjS z j) ∨ kjS z j = 61 ∨ kjS z j = 6)) (hpa : paS z j = a) : JtO z a J := by sorry
end
/-- no jump of an S leads to itself -/
def JtS (z : ZS) (a : Int) (j : Nat) (J : List JmZ) : Prop := JtO z a J ∧ ∀ x ∈ J, ¬ x.1 = (j : Int)
abbrev JtSo (N : Int → Int) (z : ZS) (T : TbT) (St : SsT) : Prop := ∀ a p q, St a p q → p.1 < q.1 ∧ ∀ (f : Nat) (m : Int64) (R : ReG), 2 * (q.1 - p.1) ≤ f + 1 → a < (p.1 : Int) → q.1 ≤ snM z → (dF N z T f).2.2 p.1 true m = some R → JtS z a p.1 R.2.2.1
abbrev JtRo (N : Int → Int) (z : ZS) (T : TbT) (Rw : RsT) : Prop := ∀ sw k a L p q, Rw sw k a L p q → p.1 ≤ q.1 ∧ ∀ (f : Nat) (al : Bool) (m : Int64), 2 * (q.1 - p.1) ≤ f → a < (p.1 : Int) → q.1 ≤ snM z → (sw = 0 → ∀ R : ReG, (dF N z T f).1 (hdI L) al m = some R → JtO z a R.2.2.1) ∧ (sw = 1 → ∀ (ch : Int64) (d : Bool) (R : Bool × ReG), (dF N z T f).2.1 (hdI L) ch al m d = some R → JtO z a R.2.2.2.1)
def JtI (N : Int → Int) (z : ZS) (T : TbT) (a : Int) (j hi : Nat) : Prop := ∀ (f : Nat) (m : Int64) (R : ReG), 2 * (hi - j) ≤ f + 2 → a < (j : Int) → hi ≤ snM z → inD' (dF N z T f) N z T j m = some R → JtS z a j R.2.2.1
section
variable {N : Int → Int} {z : ZS} {T : TbT} {a lv t : Int} {j k : Nat} {q : Ps} {St : SsT} {Rw : RsT}
theorem bkD_e {F : DzT} {b : Nat} {x : Int} {m : Int64} (h : x = (b : Int)) : bkD' F z x m = F.1 (bjS z b) true m := by sorry
theorem jts_nil : JtS z a j [] := ⟨JtO.nil, fun _ h => absurd h List.not_mem_nil⟩
theorem jt_lf {hi : Nat} (hk : kjS z j = 90 ∨ kjS z j = 94 ∨ kjS z j = 91 ∨ kjS z j = 93 ∨ kjS z j = 4 ∨ kjS z j = 66 ∨ kjS z j = 67) : JtI N z T a j hi := by sorry
theorem jt_ju {hi : Nat} (hk : kjS z j = 64 ∨ kjS z j = 65) (hpa : paS z j = a) (hp : ∀ i, i < snM z → paS z i < (i : Int)) (hj : j < hi) : JtI N z T a j hi := by sorry
theorem jts_pl (hp : ∀ i, i < snM z → paS z i < (i : Int)) {J : List JmZ} (h : JtO z (j : Int) J) (hj : j < snM z) (hk : ¬ (LpK (kjS z j) ∨ kjS z j = 61 ∨ kjS z j = 6)) (hpa : paS z j = a) : JtS z a j J := by sorry
theorem jt_bl (hp : ∀ i, i < snM z → paS z i < (i : Int)) (hR : JtRo N z T Rw) {L : List Nat} {p : Nat × List ItZ} (hr : Rw 0 0 j L (j + 1, p) q) (hk : kjS z j = 2) (hpa : paS z j = a) (hb : bjS z j = hdI L) : JtI N z T a j q.1 := by sorry
theorem jt_la (hp : ∀ i, i < snM z → paS z i < (i : Int)) (hS : JtSo N z T St) {p : Nat × List ItZ} {q1 : Ps} (hs : St j (j + 1, p) q1) (hk : kjS z j = 6) (hpa : paS z j = a) (hb : bjS z j = ((j + 1 : Nat) : Int)) : JtI N z T a j q1.1 := by sorry
theorem jt_if1 (hp : ∀ i, i < snM z → paS z i < (i : Int)) (hS : JtSo N z T St) {p : Nat × List ItZ} {q1 : Ps} (hs : St j (j + 1, p) q1) (hk : kjS z j = 56) (hpa : paS z j = a) (hb : bjS z j = ((j + 1 : Nat) : Int)) (ho : ojS z j = -1) : JtI N z T a j q1.1 := by sorry
theorem jt_if2 (hp : ∀ i, i < snM z → paS z i < (i : Int)) (hS : JtSo N z T St) {p : Nat × List ItZ} {q1 q2 : Ps} {p2 : Nat × List ItZ} (hs : St j (j + 1, p) q1) (hs2 : St j (q1.1, p2) q2) (hk : kjS z j = 56) (hpa : paS z j = a) (hb : bjS z j = ((j + 1 : Nat) : Int)) (ho : ojS z j = (q1.1 : Int)) : JtI N z T a j q2.1 := by sorry
theorem jts_lp {J : List JmZ} (h : JtO z (j : Int) J) (hk : LpK (kjS z j)) (hpa : paS z j = a) : JtS z a j (cmR j false (cmR j true J)) := by sorry
theorem jt_wh (hS : JtSo N z T St) {b : Nat} {p : Nat × List ItZ} {q1 : Ps} (hs : St j (b, p) q1) (hjb : j < b) (hk : kjS z j = 58 ∨ kjS z j = 60) (hpa : paS z j = a) (hb : bjS z j = (b : Int)) : JtI N z T a j q1.1 := by sorry
theorem jt_do (hS : JtSo N z T St) {p : Nat × List ItZ} {q1 : Ps} (hs : St j (j + 1, p) q1) (hk : kjS z j = 59) (hpa : paS z j = a) (hb : bjS z j = ((j + 1 : Nat) : Int)) : JtI N z T a j q1.1 := by sorry
theorem jt_row (hS : JtSo N z T St) (hkd : ∀ a p q, St a p q → ¬ kjS z p.1 = 62 ∧ ¬ kjS z p.1 = 63) : JtRo N z T (RwD St z lv) := by sorry
theorem jt_sw (hp : ∀ i, i < snM z → paS z i < (i : Int)) (hR : JtRo N z T Rw) {L : List Nat} {p : Nat × List ItZ} {q1 : Ps} (hr : Rw 1 k j L (j + 1, p) q1) (hk : kjS z j = 61) (hpa : paS z j = a) (hb : bjS z j = hdI L) : JtI N z T a j q1.1 := by sorry
theorem jt_fn {J : List JmZ} {e : Bool} {b : Int64} (h : JtO z a J) : JtO z a (J.map (fnJ e b)) := by sorry
theorem jt_bk (hR : JtRo N z T Rw) {p q : Ps} (hB : BkD Rw z lv (j : Int) p q) {f : Nat} {m : Int64} {R : ReG} (hf : 2 * (q.1 - p.1) ≤ f + 2) (hz : q.1 ≤ snM z) (h : (dF N z T f).1 (bjS z p.1) true m = some R) : JtO z (j : Int) R.2.2.1 ∧ p.1 < q.1 := by sorry
theorem jt_ty (hp : ∀ i, i < snM z → paS z i < (i : Int)) (hR : JtRo N z T Rw) {p : Nat × List ItZ} {q1 q2 q3 : Ps} {o g : Int} (B1 : BkD Rw z lv (j : Int) (j + 1, p) q1) (B2 : (o = -1 ∧ q2.1 = q1.1) ∨ (o = (q1.1 : Int) ∧ ∃ p2, BkD Rw z lv (j : Int) (q1.1, p2) q2)) (B3 : (g = -1 ∧ q3.1 = q2.1) ∨ (g = (q2.1 : Int) ∧ ∃ p3, BkD Rw z lv (j : Int) (q2.1, p3) q3)) (hk : kjS z j = 68) (hpa : paS z j = a) (hb : bjS z j = ((j + 1 : Nat) : Int)) (ho : ojS z j = o) (hg : gjS z j = g) : JtI N z T a j q3.1 := by sorry
end
/-! REACHED, as the class goes, is what the function of y20 says: try; all S's -/
section
variable {N : Int → Int} {z : ZS} {T : TbT} {a lv t : Int} {j k : Nat} {l : List ItZ} {q : Ps} {St : SsT} {Rw : RsT}
theorem hfa_t {b : Nat} (hk : kjS z b = 92) (hpa : paS z b = (j : Int)) : hfA z b = (decide (0 ≤ gjS z j) && !decide (gjS z j = (b : Int))) := by sorry
theorem cmA_0 {i : Int} {o : Bool} : ∀ {J : List JmZ}, (∀ x ∈ J, ¬ x.1 = i) → cmA i o J = false := by sorry
/-- no jump from around j leads behind j, where j + 1 is no loop -/
theorem jt_gt (hp : ∀ i, i < snM z → paS z i < (i : Int)) (hj : j < snM z) {J : List JmZ} (h : JtO z (j : Int) J) (hk : ¬ LpK (kjS z (j + 1))) (i : Nat) (hi : j < i) : ∀ x ∈ J, ¬ x.1 = (i : Int) := by sorry
/-- a block of try -/
theorem rc_bk (hp : ∀ i, i < snM z → paS z i < (i : Int)) (hR : RcRo N z T Rw) (hT : JtRo N z T Rw) {p q : Ps} (hB : BkD Rw z lv (j : Int) p q) {hi : Nat} (hpj : j < p.1) (hq : q.1 ≤ hi) (K : KrD z a j hi) (hk : ¬ kjS z j = 92) (hk1 : ¬ LpK (kjS z (j + 1))) (hpa : paS z j = a) (hg : 0 ≤ gjS z j → ¬ gjS z j = (p.1 : Int) → (q.1 : Int) ≤ gjS z j) {f : Nat} {r : RR} {m : Int64} {R : ReG} (hf : 2 * (q.1 - p.1) ≤ f + 2) (hF : FrR p.1 q.1 r) (h : (dF N z T f).1 (bjS z p.1) true m = some R) {en : Bool} (hen : (hfA z p.1 && !(r.1 (gjS z j).toNat)) = !en) :
    p.1 < q.1 ∧ (rwR (rcF N z T f) z p.1 r).1 = R.1 ∧ UrD z (j : Int) (j + 1) q.1 r (rwR (rcF N z T f) z p.1 r).2 (R.2.2.1.map (fnJ en 0)) ∧ LgR z p.1 q.1 (rwR (rcF N z T f) z p.1 r).2 R.2.2.2 ∧ (rwR (rcF N z T f) z p.1 r).2.1 p.1 = R.1 ∧ ∀ i, ¬ (p.1 ≤ i ∧ i < q.1) → (rwR (rcF N z T f) z p.1 r).2.1 i = r.1 i ∧ (j < i → (rwR (rcF N z T f) z p.1 r).2.2.1 i = r.2.1 i ∧ (rwR (rcF N z T f) z p.1 r).2.2.2.1 i = r.2.2.1 i) := by sorry
theorem rc_ty (hp : ∀ i, i < snM z → paS z i < (i : Int)) (hR : RcRo N z T Rw) (hT : JtRo N z T Rw) {p : Nat × List ItZ} {q1 q2 q3 : Ps} {o g : Int} (B1 : BkD Rw z lv (j : Int) (j + 1, p) q1) (B2 : (o = -1 ∧ q2.1 = q1.1) ∨ (o = (q1.1 : Int) ∧ ∃ p2, BkD Rw z lv (j : Int) (q1.1, p2) q2)) (B3 : (g = -1 ∧ q3.1 = q2.1) ∨ (g = (q2.1 : Int) ∧ ∃ p3, BkD Rw z lv (j : Int) (q2.1, p3) q3)) (hk : kjS z j = 68) (hpa : paS z j = a) (hb : bjS z j = ((j + 1 : Nat) : Int)) (ho : ojS z j = o) (hg : gjS z j = g) : RcI N z T a j q3.1 := by sorry
end
theorem fx_le {Z : ZS} {lv a : Int} : ∀ {L : List Nat} {p q : Ps}, FxD Z lv a L p q → p.1 ≤ q.1 := fun h => (fx_sf h).2.1
theorem fi_le {Z : ZS} {lv : Int} {j : Nat} {o : Int} {p q : Ps} (h : FiD Z lv j o p q) : p.1 ≤ q.1 := by sorry
/-- every S -/
theorem rc_jt {N : Int → Int} {M : Int} {z : ZS} {T : TbT} (hp : ∀ i, i < snM z → paS z i < (i : Int)) : ∀ n, JtSo N z T (StD N M z n) ∧ RcSo N z T (StD N M z n) := by sorry
/-! SURELY assigned, as the class goes, is what the function of y20 says: pieces -/
theorem b64_e {a b : Int64} (h : ∀ i, i < 64 → a.toBitVec.getLsbD i = b.toBitVec.getLsbD i) : a = b := Int64.toBitVec_inj.mp (BitVec.eq_of_getLsbD_eq h)
theorem allB_g {i : Nat} (h : i < 64) : allB.toBitVec.getLsbD i = true := by sorry
theorem b64_and {a b : Int64} {i : Nat} : (a &&& b).toBitVec.getLsbD i = (a.toBitVec.getLsbD i && b.toBitVec.getLsbD i) := by sorry
theorem b64_or {a b : Int64} {i : Nat} : (a ||| b).toBitVec.getLsbD i = (a.toBitVec.getLsbD i || b.toBitVec.getLsbD i) := by sorry
theorem an_as {a b c : Int64} : (a &&& b) &&& c = a &&& (b &&& c) := by sorry
theorem an_co {a b : Int64} : a &&& b = b &&& a := b64_e (fun i _ => by rw [b64_and, b64_and, Bool.and_comm])
theorem an_al {a : Int64} : a &&& allB = a := b64_e (fun i h => by rw [b64_and, allB_g h, Bool.and_true])
theorem al_an {a : Int64} : allB &&& a = a := by sorry
theorem or_al {a : Int64} : a ||| allB = allB := b64_e (fun i h => by rw [b64_or, allB_g h, Bool.or_true])
theorem al_or {a : Int64} : allB ||| a = allB := b64_e (fun i h => by rw [b64_or, allB_g h, Bool.true_or])
theorem or_ze {a : Int64} : a ||| zerB = a := by sorry
theorem or_co {a b : Int64} : a ||| b = b ||| a := b64_e (fun i _ => by rw [b64_or, b64_or, Bool.or_comm])
theorem an_id {a : Int64} : a &&& a = a := b64_e (fun i _ => by rw [b64_and, Bool.and_self])
/-! what an exp makes does not look at whether an ERROR is told -/
def weq (w v : WzS) (b : Bool) : Prop := w.1 = v.1 ∧ w.2.1 = v.2.1 ∧ w.2.2.1 = v.2.2.1 ∧ w.2.2.2 = (b || v.2.2.2)
section
variable {w v : WzS} {b : Bool} {t : TvT} {m n : Int64}
theorem weq.er (h : weq w v b) : weq (erW w) (erW v) b := by sorry
theorem weq.jn (h : weq w v b) : weq (jnT t m w) (jnT t m v) b := by sorry
theorem weq.tk {lk : Int} (h : weq w v b) : weq (tkW t lk w) (tkW t lk v) b := by sorry
theorem weq.to (h : weq w v b) : weq (toA m w) (toA m v) b := by sorry
theorem weq.fr (h : weq w v b) : (frA w).1 = (frA v).1 ∧ weq (frA w).2 (frA v).2 b := by sorry
theorem weq.be (h : weq w v b) : weq (beW m w) (beW m v) b := ⟨rfl, rfl, h.2.2⟩
theorem weq.fk (h : weq w v b) (e1 : m = n) : weq (fkW m w.1 w) (fkW n v.1 v) b := by sorry
theorem weq.fk2 (h : weq w v b) (e1 : m = n) : weq (fkW m w.2.1 w) (fkW n v.2.1 v) b := by sorry
theorem weq.el (h : weq w v b) : weq (elW w) (elW v) b := by sorry
theorem weq.af (h : weq w v b) : weq (andF w) (andF v) b := by sorry
theorem weq.at (h : weq w v b) : weq (andT w) (andT v) b := by sorry
theorem weq.pa {x : XrZ} (h : weq w v b) : weq (paW x t w) (paW x t v) b := by sorry
end
theorem bxl_w {z : ZS} {T : TbT} {b : Bool} : ∀ (n k : Nat) (w v : WzS), weq w v b → weq (bxL z T n k w) (bxL z T n k v) b := by sorry
/-- an exp by its number: with whatever was told before -/
theorem bx_e {z : ZS} {T : TbT} {x : Int} {m : Int64} {w : WzS} : weq (bxW z T x m w) (bxW z T x m (m, m, [], false)) w.2.2.2 := by sorry
theorem ex_some {z : ZS} {T : TbT} {x : Int} {m : Int64} {w : WzS} {e : Int64 × Int64} (h : exD z T x m = some e) : (bxW z T x m w).1 = e.1 ∧ (bxW z T x m w).2.1 = e.2 ∧ (bxW z T x m w).2.2.2 = w.2.2.2 := by sorry
theorem ex_none {z : ZS} {T : TbT} {x : Int} {m : Int64} {w : WzS} (h : exD z T x m = none) : (bxW z T x m w).2.2.2 = true := by sorry
theorem ex_stk {z : ZS} {T : TbT} {x : Int} {m : Int64} {w : WzS} (h : w.2.2.2 = true) : (bxW z T x m w).2.2.2 = true := by sorry
/-! what a jump takes along -/
section
variable {z : ZS} {hi : Nat} {bh bh' : Nat → Int64} {tg : Int}
theorem lt_ag (he : ∀ i, hi ≤ i → bh' i = bh i) : ∀ {k : Nat} {x : Int} {m : Int64}, FaC z hi k x → ltM z bh' tg k x m = ltM z bh tg k x m := by sorry
theorem lt_fu (hp : ∀ i, i < snM z → paS z i < (i : Int)) : ∀ (k k' : Nat) (x : Int) (m : Int64), x < (k : Int) → x < (k' : Int) → x < (snM z : Int) → ltM z bh tg k x m = ltM z bh tg k' x m := by sorry
def ltP (z : ZS) (bh : Nat → Int64) (tg x : Int) (m : Int64) : Int64 := ltM z bh tg (snM z) x m
theorem ltp_s (hp : ∀ i, i < snM z → paS z i < (i : Int)) {j : Nat} {m : Int64} (hj : j < snM z) (h : ¬ (j : Int) = tg) : ltP z bh tg (j : Int) m = ltP z bh tg (paS z j) (if hfA z j = true then m ||| bh (gjS z (paS z j).toNat).toNat else m) := by sorry
theorem ltp_e {m : Int64} : ltP z bh tg tg m = m := ltx_eq rfl
theorem ltp_in (hp : ∀ i, i < snM z → paS z i < (i : Int)) {j : Nat} {m : Int64} (hj : j < snM z) (h : ¬ (j : Int) = tg) (hk : ¬ kjS z j = 92) : ltP z bh tg (j : Int) m = ltP z bh tg (paS z j) m := by sorry
def cmP (z : ZS) (bh : Nat → Int64) (tg : Int) (on : Bool) (a : Int) : List JmZ → Int64
  | [] => allB
  | x :: J => if x.1 = tg ∧ x.2.1 = on then ltP z bh tg a x.2.2.2 &&& cmP z bh tg on a J else cmP z bh tg on a J
theorem cmP_ap {on : Bool} {a : Int} {J K : List JmZ} : cmP z bh tg on a (J ++ K) = cmP z bh tg on a J &&& cmP z bh tg on a K := by sorry
theorem cmP_e {on : Bool} {J : List JmZ} : cmP z bh tg on tg J = cmB tg on J := by sorry
theorem cmP_f {on : Bool} {a b : Int} {J : List JmZ} {g : Int64 → Int64} (h : ∀ m, ltP z bh' tg b m = ltP z bh tg a (g m)) : cmP z bh' tg on b J = cmP z bh tg on a (J.map (fun x => (x.1, x.2.1, x.2.2.1, g x.2.2.2))) := by sorry
theorem cmP_g {on : Bool} {a b : Int} {J : List JmZ} (h : ∀ m, ltP z bh' tg b m = ltP z bh tg a m) : cmP z bh' tg on b J = cmP z bh tg on a J := by sorry
theorem cmP_ne {k a : Int} {on o : Bool} {J : List JmZ} (h : ¬ (tg = k ∧ o = on)) : cmP z bh tg o a (cmR k on J) = cmP z bh tg o a J := by sorry
theorem cmP_0 {a : Int} {o : Bool} : ∀ {J : List JmZ}, (∀ x ∈ J, ¬ x.1 = tg) → cmP z bh tg o a J = allB := by sorry
end
/-! SURELY assigned, as the class goes, is what the function of y20 says: between -/
def UaD (z : ZS) (a : Int) (lo hi : Nat) (g g' : GzA) (J : List JmZ) : Prop := (∀ i, ¬ (lo ≤ i ∧ i < hi) → g'.1 i = g.1 i ∧ g'.2.1 i = g.2.1 i) ∧ (∀ i, hi ≤ i → g'.2.2.1 i = g.2.2.1 i ∧ g'.2.2.2.1 i = g.2.2.2.1 i) ∧ (∀ i : Nat, i < lo → g'.2.2.1 i = g.2.2.1 i &&& cmP z g.2.1 i false a J ∧ g'.2.2.2.1 i = g.2.2.2.1 i &&& cmP z g.2.1 i true a J) ∧ g'.2.2.2.2.2.2.2 = g.2.2.2.2.2.2.2
section
variable {z : ZS} {a : Int} {lo hi : Nat} {g g1 g2 : GzA} {J K : List JmZ}
theorem UaD.rf : UaD z a lo hi g g [] := by sorry
theorem UaD.wd {lo' hi' : Nat} (h : UaD z a lo' hi' g g1 J) (h1 : lo ≤ lo') (h2 : hi' ≤ hi) : UaD z a lo hi g g1 J := by sorry
theorem UaD.tr (h : UaD z a lo hi g g1 J) (g' : UaD z a lo hi g1 g2 K) (hf : ∀ k, FaC z hi k a) : UaD z a lo hi g g2 (J ++ K) := by sorry
/-- exps change nothing of it -/
theorem UaD.w {w : WzS} (h : UaD z a lo hi g g1 J) (hw : w.2.2.2 = g1.2.2.2.2.2.2.2) : UaD z a lo hi g (gaW w g1) J := ⟨h.1, h.2.1, h.2.2.1, hw.trans h.2.2.2⟩
theorem UaD.b {j : Nat} {m : Int64} (h : UaD z a lo hi g g1 J) (h1 : lo ≤ j) (h2 : j < hi) : UaD z a lo hi g (gaB j m g1) J := by sorry
theorem UaD.h {j : Nat} {m : Int64} (h : UaD z a lo hi g g1 J) (h1 : lo ≤ j) (h2 : j < hi) : UaD z a lo hi g (gaH j m g1) J := by sorry
/-- begun with an S's own bits -/
theorem UaD.pb {j : Nat} {m : Int64} (hf : ∀ k, FaC z hi k a) (hj : lo ≤ j) (hj2 : j < hi) (h : UaD z a lo hi (gaB j m g) g1 J) : UaD z a lo hi g g1 J := by sorry
/-- out of an S that is no block of try -/
theorem UaD.up {j : Nat} {m e : Int64} (hp : ∀ i, i < snM z → paS z i < (i : Int)) (h : UaD z (j : Int) lo hi (gaB j m g) g1 J) (hl : j < lo) (hh : lo ≤ hi) (hj : j < snM z) (hk : ¬ kjS z j = 92) (hpa : paS z j = a) (hJ : ∀ (i : Nat) (o : Bool), i < j → cmP z g.2.1 i o a K = cmP z g.2.1 i o a J) : UaD z a j hi g (gaH j e g1) K := by sorry
/-- out of a block of try: fb: bits of the finally that what leaves it goes through -/
theorem UaD.bk {j t : Nat} {m e : Int64} {f : Int64 → Int64} (hp : ∀ i, i < snM z → paS z i < (i : Int)) (h : UaD z (t : Int) lo hi (gaB t m g) g1 J) (hl : t < lo) (hh : lo ≤ hi) (ht : t < snM z) (hpa : paS z t = (j : Int)) (hj : j < t) (hen : ∀ m : Int64, (if hfA z t = true then m ||| g.2.1 (gjS z j).toNat else m) = f m) : UaD z (j : Int) (j + 1) hi g (gaH t e g1) (J.map (fun x => (x.1, x.2.1, x.2.2.1, f x.2.2.2))) := by sorry
end
def LgA (z : ZS) (lo hi : Nat) (g : GzA) (G : List (Nat × Int64 × Bool)) : Prop := ∀ x ∈ G, (lo ≤ x.1 ∧ x.1 < hi) ∧ g.1 x.1 = x.2.1
def FrAd (lo hi : Nat) (g : GzA) : Prop := ∀ i, lo ≤ i → i < hi → g.2.2.1 i = allB ∧ g.2.2.2.1 i = allB
section
variable {z : ZS} {a : Int} {lo hi mi : Nat} {g g1 g2 : GzA} {J : List JmZ} {G H : List (Nat × Int64 × Bool)}
theorem LgA.nil : LgA z lo hi g [] := fun _ h => absurd h List.not_mem_nil
theorem LgA.wd {lo' hi' : Nat} (h : LgA z lo' hi' g G) (h1 : lo ≤ lo') (h2 : hi' ≤ hi) : LgA z lo hi g G := fun x q => ⟨by have := (h x q).1; omega, (h x q).2⟩
theorem LgA.fr {lo' hi' : Nat} (h : LgA z lo' hi' g G) (e : ∀ i, lo' ≤ i → i < hi' → g1.1 i = g.1 i) : LgA z lo' hi' g1 G := by sorry
theorem LgA.ap (h : LgA z lo hi g G) (k : LgA z lo hi g H) : LgA z lo hi g (G ++ H) := fun x q => (List.mem_append.mp q).elim (h x) (k x)
theorem LgA.co {j : Nat} {e : Bool} {m : Int64} (h : LgA z (j + 1) hi g G) (hj : j < hi) (hb : g.1 j = m) : LgA z j hi g ((j, m, e) :: G) := by sorry
theorem FrAd.wd {lo' hi' : Nat} (h : FrAd lo hi g) (h1 : lo ≤ lo') (h2 : hi' ≤ hi) : FrAd lo' hi' g := fun i a b => h i (by omega) (by omega)
theorem FrAd.nx {hi' : Nat} (h : FrAd lo hi' g) (k : UaD z a lo hi g g1 J) (q : lo ≤ hi) : FrAd hi hi' g1 := by sorry
theorem FrAd.b {j : Nat} {m : Int64} (h : FrAd lo hi g) : FrAd lo hi (gaB j m g) := h
theorem FrAd.w {w : WzS} (h : FrAd lo hi g) : FrAd lo hi (gaW w g) := h
/-- a jump to j itself -/
theorem ua_j {j : Nat} (h : UaD z (j : Int) lo hi g g1 J) (hl : j < lo) (hF : g.2.2.1 j = allB ∧ g.2.2.2.1 j = allB) : g1.2.2.1 j = cmB j false J ∧ g1.2.2.2.1 j = cmB j true J := by sorry
end
/-! SURELY assigned, as the class goes, is what the function of y20 says: by kinds -/
def AsO (z : ZS) (a : Int) (lo hi : Nat) (g : GzA) (R : ReG) (o : Int64 × GzA) : Prop := o.1 = R.2.1 ∧ UaD z a lo hi g o.2 R.2.2.1 ∧ LgA z lo hi o.2 R.2.2.2
abbrev AsSo (N : Int → Int) (z : ZS) (T : TbT) (St : SsT) : Prop := ∀ a p q, St a p q → p.1 < q.1 ∧ ∀ (f f' : Nat) (g : GzA) (m : Int64) (R : ReG), 2 * (q.1 - p.1) ≤ f + 1 → 2 * (q.1 - p.1) ≤ f' + 1 → KrD z a p.1 q.1 → FrAd p.1 q.1 g → (dF N z T f).2.2 p.1 true m = some R → AsO z a p.1 q.1 g R ((asF N z T f').2.2 p.1 m g)
abbrev AsRo (N : Int → Int) (z : ZS) (T : TbT) (Rw : RsT) : Prop := ∀ a L p q, Rw 0 0 a L p q → p.1 ≤ q.1 ∧ ∀ (f f' : Nat) (g : GzA) (al : Bool) (m : Int64) (R : ReG), 2 * (q.1 - p.1) ≤ f → 2 * (q.1 - p.1) ≤ f' → KrW z a p.1 q.1 → FrAd p.1 q.1 g → (dF N z T f).1 (hdI L) al m = some R → AsO z a p.1 q.1 g R ((asF N z T f').1 (hdI L) m g)
def AsI (N : Int → Int) (z : ZS) (T : TbT) (a : Int) (j hi : Nat) : Prop := ∀ (f f' : Nat) (g : GzA) (m : Int64) (R : ReG), 2 * (hi - j) ≤ f + 2 → 2 * (hi - j) ≤ f' + 2 → KrD z a j hi → FrAd j hi g → inD' (dF N z T f) N z T j m = some R → (inA (asF N z T f') N z T j m (gaB j m g)).1 = R.2.1 ∧ UaD z a j hi g (gaH j R.2.1 (inA (asF N z T f') N z T j m (gaB j m g)).2) R.2.2.1 ∧ LgA z (j + 1) hi (inA (asF N z T f') N z T j m (gaB j m g)).2 R.2.2.2 ∧ (inA (asF N z T f') N z T j m (gaB j m g)).2.1 j = m
section
variable {N : Int → Int} {z : ZS} {T : TbT} {F : AsT} {j : Nat} {m : Int64} {g : GzA}
theorem ia_2 (h : kjS z j = 2 ∨ kjS z j = 92) : inA F N z T j m g = F.1 (bjS z j) m g := by sorry
theorem ia_91 (h : kjS z j = 91 ∨ kjS z j = 93) : inA F N z T j m g = tdA z T j m g := by sorry
theorem ia_90 (h : kjS z j = 90 ∨ kjS z j = 94) : inA F N z T j m g = exB z T (xjS z j) m g := by sorry
theorem ia_66 (h : kjS z j = 66 ∨ kjS z j = 67) : inA F N z T j m g = (allB, (exB z T (xjS z j) m g).2) := by sorry
theorem ia_64 (h : kjS z j = 64 ∨ kjS z j = 65) : inA F N z T j m g = (allB, ldT N z j m g) := by sorry
theorem ia_6 (h : kjS z j = 6) : inA F N z T j m g = laA F z j m g := by sorry
theorem ia_56 (h : kjS z j = 56) : inA F N z T j m g = ifA F z T j m g := by sorry
theorem ia_59 (h : kjS z j = 59) : inA F N z T j m g = doA F z T j m g := by sorry
theorem ia_58 (h : kjS z j = 58 ∨ kjS z j = 60) : inA F N z T j m g = whA F z T j m g := by sorry
theorem ia_61 (h : kjS z j = 61) : inA F N z T j m g = swA F z T j m g := by sorry
theorem ia_68 (h : kjS z j = 68) : inA F N z T j m g = tyA F z j m g := by sorry
theorem ia_4 (h : kjS z j = 4) : inA F N z T j m g = (m, g) := by sorry
/-- an exp -/
theorem exb_s {x : Int} {e : Int64 × Int64} (h : exD z T x m = some e) : (exB z T x m g).1 = e.1 &&& e.2 ∧ (exB z T x m g).2.2.2.2.2.1 = e.1 ∧ (exB z T x m g).2.2.2.2.2.2.1 = e.2 ∧ (exB z T x m g).2 = gaW (bxW z T x m g.2.2.2.2) g ∧ (bxW z T x m g.2.2.2.2).2.2.2 = g.2.2.2.2.2.2.2 := by sorry
theorem ga_bj : (gaB j m g).1 j = m := if_pos rfl
end
section
variable {N : Int → Int} {z : ZS} {T : TbT} {a lv t : Int} {j k : Nat} {l : List ItZ} {q : Ps} {St : SsT} {Rw : RsT}
theorem ua_leaf {g : GzA} {m e : Int64} {w : WzS} (hw : w.2.2.2 = g.2.2.2.2.2.2.2) : UaD z a j (j + 1) g (gaH j e (gaW w (gaB j m g))) [] := by sorry
theorem ua_leaf0 {g : GzA} {m e : Int64} : UaD z a j (j + 1) g (gaH j e (gaB j m g)) [] := by sorry
theorem as_lf (hk : kjS z j = 90 ∨ kjS z j = 94 ∨ kjS z j = 91 ∨ kjS z j = 93 ∨ kjS z j = 4 ∨ kjS z j = 66 ∨ kjS z j = 67) : AsI N z T a j (j + 1) := by sorry
theorem as_ju (hk : kjS z j = 64 ∨ kjS z j = 65) (hpa : paS z j = a) (ht : tjT N z j ≤ (j : Int)) : AsI N z T a j (j + 1) := by sorry
theorem as_bl (hR : AsRo N z T Rw) {L : List Nat} {p : Nat × List ItZ} (hr : Rw 0 0 j L (j + 1, p) q) (hk : kjS z j = 2) (hpa : paS z j = a) (hb : bjS z j = hdI L) : AsI N z T a j q.1 := by sorry
theorem bdA_e {F : AsT} {b : Nat} {m : Int64} {g : GzA} (h : bjS z j = (b : Int)) : bdA F z j m g = F.2.2 b m g := by sorry
theorem as_la (hS : AsSo N z T St) {p : Nat × List ItZ} {q1 : Ps} (hs : St j (j + 1, p) q1) (hk : kjS z j = 6) (hpa : paS z j = a) (hb : bjS z j = ((j + 1 : Nat) : Int)) : AsI N z T a j q1.1 := by sorry
/-- an exp first -/
theorem as_ex {g : GzA} {m : Int64} {x : Int} {e : Int64 × Int64} (h : exD z T x m = some e) : ∃ g0, exB z T x m g = (e.1 &&& e.2, g0) ∧ g0.2.2.2.2.1 = e.1 ∧ g0.2.2.2.2.2.1 = e.2 ∧ (∀ (a : Int) (lo hi : Nat), UaD z a lo hi g g0 []) ∧ g0.1 = g.1 ∧ g0.2.2.1 = g.2.2.1 ∧ g0.2.2.2.1 = g.2.2.2.1 := by sorry
theorem FrAd.c {lo hi : Nat} {g g0 : GzA} (h : FrAd lo hi g) (e1 : g0.2.2.1 = g.2.2.1) (e2 : g0.2.2.2.1 = g.2.2.2.1) : FrAd lo hi g0 := fun i a b => by rw [e1, e2]; exact h i a b
theorem as_if1 (hS : AsSo N z T St) {p : Nat × List ItZ} {q1 : Ps} (hs : St j (j + 1, p) q1) (hk : kjS z j = 56) (hpa : paS z j = a) (hb : bjS z j = ((j + 1 : Nat) : Int)) (ho : ojS z j = -1) : AsI N z T a j q1.1 := by sorry
theorem as_if2 (hS : AsSo N z T St) {p : Nat × List ItZ} {q1 q2 : Ps} {p2 : Nat × List ItZ} (hs : St j (j + 1, p) q1) (hs2 : St j (q1.1, p2) q2) (hk : kjS z j = 56) (hpa : paS z j = a) (hb : bjS z j = ((j + 1 : Nat) : Int)) (ho : ojS z j = (q1.1 : Int)) : AsI N z T a j q2.1 := by sorry
theorem as_do (hS : AsSo N z T St) {p : Nat × List ItZ} {q1 : Ps} (hs : St j (j + 1, p) q1) (hk : kjS z j = 59) (hpa : paS z j = a) (hb : bjS z j = ((j + 1 : Nat) : Int)) : AsI N z T a j q1.1 := by sorry
end
/-! SURELY assigned, as the class goes, is what the function of y20 says: rows, loops, switch, try -/
section
variable {N : Int → Int} {z : ZS} {T : TbT} {a lv t : Int} {j k : Nat} {l : List ItZ} {q : Ps} {St : SsT} {Rw : RsT}
/-- an S, out of its inside -/
theorem as_S {hi : Nat} (h : AsI N z T a j hi) (hl : lvS z j ≤ 20) (hj : j < hi) {f f' : Nat} {g : GzA} {m : Int64} {R : ReG} (hf : 2 * (hi - j) ≤ f + 1) (hf' : 2 * (hi - j) ≤ f' + 1) (K : KrD z a j hi) (hF : FrAd j hi g) (hd : (dF N z T f).2.2 j true m = some R) : AsO z a j hi g R ((asF N z T f').2.2 j m g) ∧ ((asF N z T f').2.2 j m g).2.2.1 j = R.2.1 := by sorry
/-- one more in front of a row -/
theorem as_cons {p1 hi : Nat} {L : List Nat} (e2 : njS z j = hdI L) (s1 : j < p1) (i1 : p1 ≤ hi) (K : KrW z a j hi) {f f' : Nat} {g : GzA} {al : Bool} {m : Int64} {R : ReG} (hf : 2 * (hi - j) ≤ f) (hf' : 2 * (hi - j) ≤ f') (h : (dF N z T f).1 ((j : Nat) : Int) al m = some R)
    (hS : ∀ (f f' : Nat) (R1 : ReG), 2 * (p1 - j) ≤ f + 1 → 2 * (p1 - j) ≤ f' + 1 → (dF N z T f).2.2 j true m = some R1 → AsO z a j p1 g R1 ((asF N z T f').2.2 j m g))
    (hL : ∀ (f f' : Nat) (g' : GzA) (al : Bool) (m' : Int64) (R2 : ReG) (J : List JmZ), UaD z a j p1 g g' J → 2 * (hi - p1) ≤ f → 2 * (hi - p1) ≤ f' → (dF N z T f).1 (hdI L) al m' = some R2 → AsO z a p1 hi g' R2 ((asF N z T f').1 (hdI L) m' g')) : AsO z a j hi g R ((asF N z T f').1 ((j : Nat) : Int) m g) := by sorry
theorem as_nil {lo hi : Nat} {f f' : Nat} {g : GzA} {al : Bool} {m : Int64} {R : ReG} (h : (dF N z T f).1 (-1) al m = some R) : AsO z a lo hi g R ((asF N z T f').1 (-1) m g) := by sorry
/-- rows -/
theorem as_row (hS : AsSo N z T St) : AsRo N z T (RwD St z lv) := by sorry
/-- exps of for -/
theorem as_fx (hl : lv ≤ 20) : ∀ (L : List Nat) (p q : Ps), FxD z lv a L p q → p.1 ≤ q.1 ∧ ∀ (f f' : Nat) (g : GzA) (al : Bool) (m : Int64) (R : ReG), 2 * (q.1 - p.1) ≤ f → 2 * (q.1 - p.1) ≤ f' → KrW z a p.1 q.1 → FrAd p.1 q.1 g → (dF N z T f).1 (hdI L) al m = some R → AsO z a p.1 q.1 g R ((asF N z T f').1 (hdI L) m g) ∧ R.2.2.1 = [] := by sorry
/-- what stands ahead in for -/
theorem as_fi (hl : lv ≤ 20) {o : Int} {p q : Ps} (h : FiD z lv j o p q) {f f' : Nat} {g : GzA} {m : Int64} {R : ReG} (hf : 2 * (q.1 - p.1) ≤ f) (hf' : 2 * (q.1 - p.1) ≤ f') (K : KrW z (j : Int) p.1 q.1) (hF : FrAd p.1 q.1 g) (hd : (dF N z T f).1 o true m = some R) : AsO z (j : Int) p.1 q.1 g R ((asF N z T f').1 o m g) ∧ R.2.2.1 = [] := by sorry
theorem as_wh (hS : AsSo N z T St) {p : Nat × List ItZ} {q1 : Ps} (hs : St j (j + 1, p) q1) (hk : kjS z j = 58) (hpa : paS z j = a) (hb : bjS z j = ((j + 1 : Nat) : Int)) : AsI N z T a j q1.1 := by sorry
theorem fx_kd : ∀ {L : List Nat} {p q : Ps}, FxD z lv a L p q → ∀ i, p.1 ≤ i → i < q.1 → kjS z i = 94 := by sorry
theorem as_fo (hp : ∀ i, i < snM z → paS z i < (i : Int)) (hS : AsSo N z T St) (hT : JtSo N z T St) (hl : lv ≤ 20) {p1 : Nat × List ItZ} {q1 q3 q4 : Ps} {p3 p4 : Nat × List ItZ} {o gg : Int} {L : List Nat} (h1 : FiD z lv j o (j + 1, p1) q1) (h3 : FxD z lv (j : Int) L (q1.1, p3) q3) (hs : St j (q3.1, p4) q4) (hgL : gg = hdI L) (hk : kjS z j = 60) (hpa : paS z j = a) (hb : bjS z j = (q3.1 : Int)) (ho : ojS z j = o) (hg : gjS z j = gg) : AsI N z T a j q4.1 := by sorry
end
/-! SURELY assigned, as the class goes, is what the function of y20 says: switch, try; all S's -/
/-- a row that does not end: all holds behind it -/
abbrev DaRo (N : Int → Int) (z : ZS) (T : TbT) (Rw : RsT) : Prop := ∀ a L p q, Rw 0 0 a L p q → ∀ (f : Nat) (m : Int64) (R : ReG), 2 * (q.1 - p.1) ≤ f → (dF N z T f).1 (hdI L) true m = some R → R.1 = false → R.2.1 = allB
section
variable {N : Int → Int} {z : ZS} {T : TbT} {a lv t : Int} {j k : Nat} {l : List ItZ} {q : Ps} {St : SsT} {Rw : RsT}
theorem as_srow (hS : AsSo N z T St) (hkd : ∀ a p q, St a p q → ¬ kjS z p.1 = 62 ∧ ¬ kjS z p.1 = 63) : ∀ (L : List Nat) (p q : Ps), RwD St z lv 1 k a L p q → p.1 ≤ q.1 ∧ ∀ (f f' : Nat) (g : GzA) (al d : Bool) (m ch : Int64) (R : Bool × ReG), 2 * (q.1 - p.1) ≤ f → 2 * (q.1 - p.1) ≤ f' → KrW z a p.1 q.1 → FrAd p.1 q.1 g → (dF N z T f).2.1 (hdI L) ch al m d = some R → ((asF N z T f').2.1 (hdI L) ch m d g).1 = R.2.2.1 ∧ ((asF N z T f').2.1 (hdI L) ch m d g).2.1 = R.1 ∧ UaD z a p.1 q.1 g ((asF N z T f').2.1 (hdI L) ch m d g).2.2 R.2.2.2.1 ∧ LgA z p.1 q.1 ((asF N z T f').2.1 (hdI L) ch m d g).2.2 R.2.2.2.2 := by sorry
theorem as_sw (hS : AsSo N z T St) (hkd : ∀ a p q, St a p q → ¬ kjS z p.1 = 62 ∧ ¬ kjS z p.1 = 63) {L : List Nat} {p : Nat × List ItZ} {q1 : Ps} (hr : RwD St z lv 1 k j L (j + 1, p) q1) (hk : kjS z j = 61) (hpa : paS z j = a) (hb : bjS z j = hdI L) : AsI N z T a j q1.1 := by sorry
/-- a block of try, as the class goes into it -/
theorem as_bk (hp : ∀ i, i < snM z → paS z i < (i : Int)) (hR : AsRo N z T Rw) (hT : JtRo N z T Rw) (hl : lv ≤ 20) {p q : Ps} (hB : BkD Rw z lv (j : Int) p q) {hi : Nat} (hpj : j < p.1) (hq : q.1 ≤ hi) (K : KrD z a j hi) (hk : ¬ kjS z j = 92) (hk1 : ¬ LpK (kjS z (j + 1))) (hpa : paS z j = a) (hg : 0 ≤ gjS z j → ¬ gjS z j = (p.1 : Int) → (q.1 : Int) ≤ gjS z j) {f f' : Nat} {g : GzA} {m : Int64} {R : ReG} (hf : 2 * (q.1 - p.1) ≤ f + 2) (hf' : 2 * (q.1 - p.1) ≤ f' + 1) (hF : FrAd p.1 q.1 g) (h : (dF N z T f).1 (bjS z p.1) true m = some R) {fn : Int64 → Int64} (hen : ∀ m : Int64, (if hfA z p.1 = true then m ||| g.2.1 (gjS z j).toNat else m) = fn m) :
    p.1 < q.1 ∧ ((asF N z T f').2.2 p.1 m g).1 = R.2.1 ∧ UaD z (j : Int) (j + 1) q.1 g ((asF N z T f').2.2 p.1 m g).2 (R.2.2.1.map (fun x => (x.1, x.2.1, x.2.2.1, fn x.2.2.2))) ∧ LgA z p.1 q.1 ((asF N z T f').2.2 p.1 m g).2 R.2.2.2 ∧ ((asF N z T f').2.2 p.1 m g).2.2.1 p.1 = R.2.1 ∧ ∀ i, ¬ (p.1 ≤ i ∧ i < q.1) → (((asF N z T f').2.2 p.1 m g).2.1 i = g.1 i ∧ ((asF N z T f').2.2 p.1 m g).2.2.1 i = g.2.1 i) ∧ (j < i → ((asF N z T f').2.2 p.1 m g).2.2.2.1 i = g.2.2.1 i ∧ ((asF N z T f').2.2 p.1 m g).2.2.2.2.1 i = g.2.2.2.1 i) := by sorry
theorem cmP_cg {bh : Nat → Int64} {tg : Int} {on : Bool} {J : List JmZ} {f h : Int64 → Int64} {u v : JmZ → Bool} (e : ∀ x ∈ J, f x.2.2.2 = h x.2.2.2) : cmP z bh tg on a (J.map (fun x => (x.1, x.2.1, u x, f x.2.2.2))) = cmP z bh tg on a (J.map (fun x => (x.1, x.2.1, v x, h x.2.2.2))) := by sorry
theorem map_id4 {J : List JmZ} : J.map (fun x => (x.1, x.2.1, x.2.2.1, x.2.2.2)) = J := List.map_id J
theorem as_ty (hp : ∀ i, i < snM z → paS z i < (i : Int)) (hR : AsRo N z T Rw) (hT : JtRo N z T Rw) (hD : DaRo N z T Rw) (hl : lv ≤ 20) {p : Nat × List ItZ} {q1 q2 q3 : Ps} {o g v : Int} (B1 : BkD Rw z lv (j : Int) (j + 1, p) q1) (B2 : (o = -1 ∧ q2.1 = q1.1) ∨ (o = (q1.1 : Int) ∧ ∃ p2, BkD Rw z lv (j : Int) (q1.1, p2) q2)) (B3 : (g = -1 ∧ q3.1 = q2.1) ∨ (g = (q2.1 : Int) ∧ ∃ p3, BkD Rw z lv (j : Int) (q2.1, p3) q3)) (hk : kjS z j = 68) (hpa : paS z j = a) (hb : bjS z j = ((j + 1 : Nat) : Int)) (ho : ojS z j = o) (hg : gjS z j = g) : AsI N z T a j q3.1 := by sorry
end
/-! a CONSTANT condition: all holds on the side that is never gone -/
/-- judged: the tables, and values of CONSTANTS are of their TYPES -/
def JdL (C : CxT) (z : ZS) (T : TbT) : Prop := tbT C (fun i => xth z i) (xnM z) = some T ∧ ∀ i, i < xnM z → (xth z i).1.1 ≤ 10 → VaT (T.1 i)
theorem jd_x {C : CxT} {z : ZS} {T : TbT} (h : JdL C z T) {i : Nat} (hi : i < xnM z) : ∃ U : TbT, exT C U i (xth z i) = some (T.1 i) ∧ ∀ k, k < i → U.1 k = T.1 k := by sorry
/-- an exp that is worked out: bits when it is true, false -/
def CnD (T : TbT) (a : Int) (t f : Int64) : Prop := ((T.1 a.toNat).1 = 0 → ¬ (T.1 a.toNat).2.1 = 0 → ((T.1 a.toNat).2.2.1 = 1 → f = allB) ∧ ((T.1 a.toNat).2.2.1 = 0 → t = allB)) ∧ (¬ (T.1 a.toNat).1 = 0 → t = f)
/-- what stands open, what is left for later, bits now; A: all held at first -/
def AwR (T : TbT) (A : Prop) : MkF → List Int64 → Int64 → Int64 → Prop
  | [], L, t, f => L = [] ∧ (A → t = allB ∧ f = allB)
  | (k, a, b) :: G, L, t, f =>
    if k = 3 then ∃ vf vt sq vq L', L = vf :: vt :: L' ∧ (CnD T a sq vq ∧ CnD T b vt vf) ∧ (sq = allB → vt = allB ∧ vf = allB) ∧ (vq = allB → t = allB ∧ f = allB) ∧ AwR T A G L' sq vq
    else if k = 1 then ∃ v s L', L = v :: L' ∧ CnD T a v s ∧ (s = allB → t = allB ∧ f = allB) ∧ AwR T A G L' v s
    else ∃ v s L', L = v :: L' ∧ CnD T a s v ∧ (s = allB → t = allB ∧ f = allB) ∧ AwR T A G L' s v
theorem aw_len {T : TbT} {A : Prop} : ∀ {F : MkF} {L : List Int64} {t f : Int64}, AwR T A F L t f → L.length ≤ 2 * F.length := by sorry
/-- bits change, and stay all where they are all -/
theorem aw_mo {T : TbT} {A : Prop} {F : MkF} {L : List Int64} {t f t' f' : Int64} (h : AwR T A F L t f) (q : t = allB → f = allB → t' = allB ∧ f' = allB) : AwR T A F L t' f' := by sorry
theorem fxT_iff {t : TvT} : fxT t = true ↔ ¬ t.2.1 = 0 ∧ t.1 = 0 := by sorry
theorem fx_1 : (Int64.ofNat ((1 : Fin 2) : Nat)) = 1 := by sorry
theorem ze_0 : zerB = 0 := by sorry
/-- both sides come together -/
theorem jn_c {T : TbT} {i : Nat} {more : Int64} {w : WzS} : CnD T (i : Int) (jnT (T.1 i) more w).1 (jnT (T.1 i) more w).2.1 ∧ (w.1 = allB → w.2.1 = allB → (jnT (T.1 i) more w).1 = allB ∧ (jnT (T.1 i) more w).2.1 = allB) ∧ (jnT (T.1 i) more w).2.2 = w.2.2 := by sorry
theorem toA_l {m : Int64} {w : WzS} (h : w.2.2.1.length < 500) : (toA m w).2.2.1 = m :: w.2.2.1 := by sorry
/-- one exp or mark more -/
theorem aw_st {C : CxT} {z : ZS} {T : TbT} {A : Prop} (hJ : JdL C z T) {l : List ItZ} {x : XrZ} {G F : MkF} {w : WzS} (hi : xcZ l < xnM z) (hx : xth z (xcZ l) = x) (hk : 0 ≤ x.1.1 ∧ x.1.1 ≤ 15) (hS : MkS l x G F) (hG : G.length ≤ 100) (hF : F.length ≤ 100) (hc : LsO l → CnD T ((xcZ l : Int) - 1) w.1 w.2.1) (ha : ∀ q ∈ opsZ x, (0 ≤ q ∧ q < (xcZ l : Int)) ∧ VaT (T.1 q.toNat)) (h : AwR T A G w.2.2.1 w.1 w.2.1) : AwR T A F (paW x (T.1 (xcZ l)) w).2.2.1 (paW x (T.1 (xcZ l)) w).1 (paW x (T.1 (xcZ l)) w).2.1 ∧ (x.1.1 ≤ 10 → CnD T (xcZ l : Int) (paW x (T.1 (xcZ l)) w).1 (paW x (T.1 (xcZ l)) w).2.1) := by sorry
/-! what stands open: nothing, between S's -/
section
variable {l m : List ItZ} {o a b t lv : Int} {r : XrZ}
theorem mkp_c (h : MkP 100 l []) : MkP 100 (cIy o a b t :: l) [] := ⟨rfl, h⟩
theorem mkp_r {y : Int × Int × Int × Int × Int} (h : MkP 100 l []) : MkP 100 (.inr y :: l) [] := ⟨rfl, h⟩
theorem mkp_e (h : MkP 100 l []) : MkP 100 (cEy o a b t m :: l) [] := ⟨rfl, h⟩
theorem mkp_x (h : MkP 100 l []) (hx : ExX lv l m r) (hl : 0 ≤ lv) : MkP 100 m [] := by sorry
theorem mkp_15 {x : XrZ} (h : MkP 100 l []) (hk : x.1.1 = 15) : MkP 100 (.inl x :: l) [] := ⟨Nat.zero_le _, [], h, (mks_o (by omega)).mpr rfl⟩
end
section
variable {N : Int → Int} {M : Int} {z : ZS}
theorem mkp_va {j : Nat} {h : Int × Int × Int × Int} {th : Int} {l m : List ItZ} (v : VaD z j h th l m) (hl : 0 ≤ h.2.2.1) (k : MkP 100 l []) : MkP 100 m [] := by sorry
theorem mkp_fx {lv a : Int} (hl : 0 ≤ lv) : ∀ {L : List Nat} {p q : Ps}, FxD z lv a L p q → MkP 100 p.2.2 [] → MkP 100 q.2.2 [] := by sorry
theorem mkp_fi {lv : Int} (hl : 0 ≤ lv) {j : Nat} {o : Int} {p q : Ps} (h : FiD z lv j o p q) (k : MkP 100 p.2.2 []) : MkP 100 q.2.2 [] := by sorry
theorem mkp_row {St : SsT} {lv : Int} (hl : 0 ≤ lv) {sw : Int} {k : Nat} {a : Int} (hS : ∀ a p q, St a p q → MkP 100 p.2.2 [] → MkP 100 q.2.2 []) : ∀ {L : List Nat} {p q : Ps}, RwD St z lv sw k a L p q → MkP 100 p.2.2 [] → MkP 100 q.2.2 [] := by sorry
theorem mkp_st : ∀ n, n ≤ 21 → ∀ a p q, StD N M z n a p q → MkP 100 p.2.2 [] → MkP 100 q.2.2 [] := by sorry
end
theorem mkp_pr {N : Int → Int} {z : ZS} : ∀ (L : List Nat) (M : Nat) (p q : Ps), PrD N z L M p q → MkP 100 p.2.2 [] → MkP 100 q.2.2 [] := by sorry
/-! whole exps -/
theorem mkp_un {B : Nat} : ∀ {l : List ItZ} {F G : MkF}, MkP B l F → MkP B l G → F = G := by sorry
theorem mkp_sf {B : Nat} {l : List ItZ} : ∀ {L : List ItZ} {F : MkF}, MkP B L F → l <:+ L → ∃ G, MkP B l G := by sorry
theorem mkp_le {B : Nat} {l : List ItZ} {F : MkF} (h : MkP B l F) : F.length ≤ B := by sorry
theorem sk_kd : ∀ {l : List ItZ} {S : List Int}, SkP l S → ∀ q ∈ S, (xgZ l q.toNat).1.1 ≤ 10 := by sorry
theorem bxl_sn {z : ZS} {T : TbT} : ∀ (n k : Nat) (w : WzS), bxL z T (n + 1) k w = paW (xth z (k + n)) (T.1 (k + n)) (bxL z T n k w) := by sorry
/-- what is fixed of all that is read and judged -/
def ZjD (C : CxT) (z : ZS) (T : TbT) : Prop := JdL C z T ∧ SkP z.2.1 [] ∧ (∀ i, i < xnM z → 0 ≤ (xth z i).1.1 ∧ (xth z i).1.1 ≤ 15) ∧ MkP 100 z.2.1 []
theorem xc_mp {t : List XrZ} {l : List ItZ} : xcZ (t.map Sum.inl ++ l) = xcZ l + t.length := by sorry
theorem ex_run {C : CxT} {z : ZS} {T : TbT} (H : ZjD C z T) {l : List ItZ} {mm : Int64} {er : Bool} (hn : ¬ LsO l) (hl : MkP 100 l []) : ∀ (t : List XrZ), (t.map Sum.inl ++ l) <:+ z.2.1 → ∃ F, MkP 100 (t.map Sum.inl ++ l) F ∧ AwR T (mm = allB) F (bxL z T t.length (xcZ l) (mm, mm, [], er)).2.2.1 (bxL z T t.length (xcZ l) (mm, mm, [], er)).1 (bxL z T t.length (xcZ l) (mm, mm, [], er)).2.1 ∧ (LsO (t.map Sum.inl ++ l) → CnD T ((xcZ (t.map Sum.inl ++ l) : Int) - 1) (bxL z T t.length (xcZ l) (mm, mm, [], er)).1 (bxL z T t.length (xcZ l) (mm, mm, [], er)).2.1) := by sorry
/-- a code of an S stands last, or nothing -/
def HdR (l : List ItZ) : Prop := l = [] ∨ ∃ y l', l = .inr y :: l'
theorem HdR.n {l : List ItZ} (h : HdR l) : ¬ LsO l := by sorry
theorem hdr_c {l : List ItZ} {o a b t : Int} : HdR (cIy o a b t :: l) := Or.inr ⟨_, _, rfl⟩
theorem hdr_e {l m : List ItZ} {o a b t : Int} : HdR (cEy o a b t m :: l) := Or.inr ⟨_, _, rfl⟩
/-- a whole exp is worked out from its first one on -/
theorem bxw_run {z : ZS} {T : TbT} {lv : Int} {l m : List ItZ} {r : XrZ} {mm : Int64} {w : WzS} (hx : ExX lv l m r) (hm : m <:+ z.2.1) {t : List XrZ} (ht : m = t.map Sum.inl ++ l) : bxW z T ((xcZ m : Int) - 1) mm w = bxL z T t.length (xcZ l) (mm, mm, [], w.2.2.2) := by sorry
/-- an exp's bits -/
theorem ex_cn {C : CxT} {z : ZS} {T : TbT} (H : ZjD C z T) {lv : Int} {l m : List ItZ} {r : XrZ} {mm : Int64} {w : WzS} (hx : ExX lv l m r) (hl0 : 0 ≤ lv) (hh : HdR l) (hm : m <:+ z.2.1) : (bxW z T ((xcZ m : Int) - 1) mm w).2.2.1 = [] ∧ (mm = allB → (bxW z T ((xcZ m : Int) - 1) mm w).1 = allB ∧ (bxW z T ((xcZ m : Int) - 1) mm w).2.1 = allB) ∧ CnD T ((xcZ m : Int) - 1) (bxW z T ((xcZ m : Int) - 1) mm w).1 (bxW z T ((xcZ m : Int) - 1) mm w).2.1 := by sorry
/-! where an S does not end, all holds behind it -/
def DaO (R : ReG) : Prop := (R.1 = false → R.2.1 = allB) ∧ ∀ x ∈ R.2.2.1, x.2.2.1 = false → x.2.2.2 = allB
theorem da_cm {k : Int} {on : Bool} : ∀ {J : List JmZ}, (∀ x ∈ J, x.2.2.1 = false → x.2.2.2 = allB) → cmA k on J = false → cmB k on J = allB := by sorry
theorem da_cr {k : Int} {on : Bool} {J : List JmZ} (h : ∀ x ∈ J, x.2.2.1 = false → x.2.2.2 = allB) : ∀ x ∈ cmR k on J, x.2.2.1 = false → x.2.2.2 = allB := fun x hx => h x (cmR_m hx).1
/-- what is fixed -/
def DfX (N : Int → Int) (C : CxT) (z : ZS) (T : TbT) (ms : MfT) : Prop := ZjD C z T ∧ ∀ j, j < snM z → skT N z T ms j
abbrev DaSo (N : Int → Int) (z : ZS) (T : TbT) (St : SsT) : Prop := ∀ a p q, St a p q → (p.1 < q.1 ∧ p.2.2 <:+ q.2.2) ∧ ∀ (f : Nat) (m : Int64) (R : ReG), 2 * (q.1 - p.1) ≤ f + 1 → q.1 ≤ snM z → q.2.2 <:+ z.2.1 → (dF N z T f).2.2 p.1 true m = some R → DaO R
abbrev DaRw (N : Int → Int) (z : ZS) (T : TbT) (Rw : RsT) : Prop := ∀ sw k a L p q, Rw sw k a L p q → (p.1 ≤ q.1 ∧ p.2.2 <:+ q.2.2) ∧ ∀ (f : Nat) (al : Bool) (m : Int64), 2 * (q.1 - p.1) ≤ f → q.1 ≤ snM z → q.2.2 <:+ z.2.1 → (al = false → m = allB) → (sw = 0 → ∀ R : ReG, (dF N z T f).1 (hdI L) al m = some R → DaO R) ∧ (sw = 1 → ∀ (ch : Int64) (d : Bool) (R : Bool × ReG), (dF N z T f).2.1 (hdI L) ch al m d = some R → DaO R.2)
def DaI (N : Int → Int) (z : ZS) (T : TbT) (j hi : Nat) : Prop := ∀ (f : Nat) (m : Int64) (R : ReG), 2 * (hi - j) ≤ f + 2 → inD' (dF N z T f) N z T j m = some R → DaO R
section
variable {N : Int → Int} {z : ZS} {T : TbT} {C : CxT} {ms : MfT} {a lv t : Int} {j k : Nat} {q : Ps} {St : SsT} {Rw : RsT}
theorem da_tt {b : Int64} {J : List JmZ} {G : List (Nat × Int64 × Bool)} (h : ∀ x ∈ J, x.2.2.1 = false → x.2.2.2 = allB) : DaO (true, b, J, G) := ⟨fun q => absurd (show true = false from q) (by decide), h⟩
theorem da_nil : ∀ x ∈ ([] : List JmZ), x.2.2.1 = false → x.2.2.2 = allB := fun _ h => absurd h List.not_mem_nil
theorem da_lf {hi : Nat} (hk : kjS z j = 90 ∨ kjS z j = 94 ∨ kjS z j = 91 ∨ kjS z j = 93 ∨ kjS z j = 4 ∨ kjS z j = 66 ∨ kjS z j = 67 ∨ kjS z j = 64 ∨ kjS z j = 65) : DaI N z T j hi := by sorry
theorem da_bl (hR : DaRw N z T Rw) {L : List Nat} {p : Nat × List ItZ} (hr : Rw 0 0 j L (j + 1, p) q) (hk : kjS z j = 2) (hb : bjS z j = hdI L) (hz : q.1 ≤ snM z) (hq : q.2.2 <:+ z.2.1) : DaI N z T j q.1 := by sorry
theorem da_la (hS : DaSo N z T St) {p : Nat × List ItZ} {q1 : Ps} (hs : St j (j + 1, p) q1) (hk : kjS z j = 6) (hb : bjS z j = ((j + 1 : Nat) : Int)) (hz : q1.1 ≤ snM z) (hq : q1.2.2 <:+ z.2.1) : DaI N z T j q1.1 := by sorry
theorem da_if1 (hS : DaSo N z T St) {p : Nat × List ItZ} {q1 : Ps} (hs : St j (j + 1, p) q1) (hk : kjS z j = 56) (hb : bjS z j = ((j + 1 : Nat) : Int)) (ho : ojS z j = -1) (hz : q1.1 ≤ snM z) (hq : q1.2.2 <:+ z.2.1) : DaI N z T j q1.1 := by sorry
theorem da_ap {J K : List JmZ} (h : ∀ x ∈ J, x.2.2.1 = false → x.2.2.2 = allB) (g : ∀ x ∈ K, x.2.2.1 = false → x.2.2.2 = allB) : ∀ x ∈ J ++ K, x.2.2.1 = false → x.2.2.2 = allB := fun x hx => (List.mem_append.mp hx).elim (h x) (g x)
theorem da_if2 (hS : DaSo N z T St) {p : Nat × List ItZ} {q1 q2 : Ps} {p2 : Nat × List ItZ} (hs : St j (j + 1, p) q1) (hs2 : St j (q1.1, p2) q2) (hk : kjS z j = 56) (hb : bjS z j = ((j + 1 : Nat) : Int)) (ho : ojS z j = (q1.1 : Int)) (hz : q2.1 ≤ snM z) (hq1 : q1.2.2 <:+ z.2.1) (hq : q2.2.2 <:+ z.2.1) : DaI N z T j q2.1 := by sorry
/-- a condition: always true; from where all holds -/
theorem al_cn (H : DfX N C z T ms) {l m : List ItZ} {r : XrZ} {mm : Int64} {e : Int64 × Int64} (hx : ExX lv l m r) (hl : 0 ≤ lv) (hh : HdR l) (hm : m <:+ z.2.1) (hk : kjS z j = 58 ∨ kjS z j = 59 ∨ kjS z j = 60) (hj : j < snM z) (hxj : xjS z j = (xcZ m : Int) - 1) (he : exD z T (xjS z j) mm = some e) : (alwT z T j 1 = true → e.2 = allB) ∧ (mm = allB → e.1 = allB ∧ e.2 = allB) := by sorry
theorem da_wh (H : DfX N C z T ms) (hS : DaSo N z T St) {b : Nat} {p : Nat × List ItZ} {q1 : Ps} (hs : St j (b, p) q1) (hjb : j < b) (hk : kjS z j = 58 ∨ kjS z j = 60) (hb : bjS z j = (b : Int)) (hz : q1.1 ≤ snM z) (hq : q1.2.2 <:+ z.2.1) (hX : xjS z j < 0 ∨ ∃ (l m : List ItZ) (r : XrZ), ExX lv l m r ∧ HdR l ∧ m <:+ z.2.1 ∧ xjS z j = (xcZ m : Int) - 1) (hl : 0 ≤ lv) : DaI N z T j q1.1 := by sorry
theorem da_do (H : DfX N C z T ms) (hS : DaSo N z T St) {p : Nat × List ItZ} {q1 : Ps} (hs : St j (j + 1, p) q1) (hk : kjS z j = 59) (hb : bjS z j = ((j + 1 : Nat) : Int)) (hz : q1.1 ≤ snM z) (hq : q1.2.2 <:+ z.2.1) {l m1 : List ItZ} {r : XrZ} (hx : ExX lv l m1 r) (hh : HdR l) (hm : m1 <:+ z.2.1) (hxj : xjS z j = (xcZ m1 : Int) - 1) (hl : 0 ≤ lv) : DaI N z T j q1.1 := by sorry
theorem da_row (hS : DaSo N z T St) (hkd : ∀ a p q, St a p q → ¬ kjS z p.1 = 62 ∧ ¬ kjS z p.1 = 63) : DaRw N z T (RwD St z lv) := by sorry
theorem da_sw (hR : DaRw N z T Rw) {L : List Nat} {p : Nat × List ItZ} {q1 : Ps} (hr : Rw 1 k j L (j + 1, p) q1) (hk : kjS z j = 61) (hb : bjS z j = hdI L) (hz : q1.1 ≤ snM z) (hq : q1.2.2 <:+ z.2.1) : DaI N z T j q1.1 := by sorry
theorem da_bk (hR : DaRw N z T Rw) {p q : Ps} (hB : BkD Rw z lv a p q) {f : Nat} {m : Int64} {R : ReG} (hf : 2 * (q.1 - p.1) ≤ f + 2) (hz : q.1 ≤ snM z) (hq : q.2.2 <:+ z.2.1) (h : (dF N z T f).1 (bjS z p.1) true m = some R) : DaO R := by sorry
theorem bk_le (hR : DaRw N z T Rw) {p q : Ps} (hB : BkD Rw z lv a p q) : p.1 + 1 ≤ q.1 ∧ p.2.2 <:+ q.2.2 := by sorry
theorem da_ty (hR : DaRw N z T Rw) {p : Nat × List ItZ} {q1 q2 q3 : Ps} {o g : Int} (B1 : BkD Rw z lv (j : Int) (j + 1, p) q1) (B2 : (o = -1 ∧ q2.1 = q1.1) ∨ (o = (q1.1 : Int) ∧ ∃ p2, BkD Rw z lv (j : Int) (q1.1, p2) q2)) (B3 : (g = -1 ∧ q3.1 = q2.1) ∨ (g = (q2.1 : Int) ∧ ∃ p3, BkD Rw z lv (j : Int) (q2.1, p3) q3)) (hk : kjS z j = 68) (hb : bjS z j = ((j + 1 : Nat) : Int)) (ho : ojS z j = o) (hg : gjS z j = g) (hz : q3.1 ≤ snM z) (hq1 : q1.2.2 <:+ z.2.1) (hq2 : q2.2.2 <:+ z.2.1) (hq3 : q3.2.2 <:+ z.2.1) : DaI N z T j q3.1 := by sorry
end
/-- every S -/
theorem da_st {N : Int → Int} {M : Int} {C : CxT} {z : ZS} {T : TbT} {ms : MfT} (H : DfX N C z T ms) : ∀ n, n ≤ 21 → DaSo N z T (StD N M z n) := by sorry
/-! SURELY assigned, as the class goes, is what the function of y20 says: every S -/
/-- S's inside of what was read -/
def StW (z : ZS) (St : SsT) : SsT := fun a p q => St a p q ∧ q.1 ≤ snM z ∧ q.2.2 <:+ z.2.1
section
variable {N : Int → Int} {z : ZS} {T : TbT} {a lv t : Int} {j k : Nat} {l : List ItZ} {q : Ps} {St : SsT} {Rw : RsT}
theorem cs_sf {js : Nat} {p p1 : Ps} (h : CsD z lv js a p p1) : p1.1 = p.1 + 1 ∧ p.2.2 <:+ p1.2.2 := by sorry
theorem rw_w (hS : ∀ a p q, St a p q → p.1 < q.1 ∧ p.2.2 <:+ q.2.2) {sw : Int} : ∀ (L : List Nat) (p q : Ps), RwD St z lv sw k a L p q → (p.1 ≤ q.1 ∧ p.2.2 <:+ q.2.2) ∧ (q.1 ≤ snM z → q.2.2 <:+ z.2.1 → RwD (StW z St) z lv sw k a L p q) := by sorry
theorem bk_w (hS : ∀ a p q, St a p q → p.1 < q.1 ∧ p.2.2 <:+ q.2.2) {lv' : Int} {p q : Ps} (h : BkD (RwD St z lv) z lv' a p q) (hz : q.1 ≤ snM z) (hq : q.2.2 <:+ z.2.1) : BkD (RwD (StW z St) z lv) z lv' a p q := by sorry
theorem da_ro (hD : DaSo N z T St) (hkd : ∀ a p q, St a p q → ¬ kjS z p.1 = 62 ∧ ¬ kjS z p.1 = 63) : DaRo N z T (RwD (StW z St) z lv) := by sorry
end
/-- every S -/
theorem as_all {N : Int → Int} {M : Int} {C : CxT} {z : ZS} {T : TbT} {ms : MfT} (H : DfX N C z T ms) (hp : ∀ i, i < snM z → paS z i < (i : Int)) : ∀ n, n ≤ 21 → AsSo N z T (StW z (StD N M z n)) := by sorry
/-! an ERROR of flow that is told stays told, as the class goes -/
section
variable {N : Int → Int} {z : ZS} {T : TbT} {j : Nat}
abbrev RSk (F : RcT) : Prop := (∀ x a r, (F.1 x a r).2.2.2.2 = false → r.2.2.2 = false) ∧ (∀ x a d r, (F.2.1 x a d r).2.2.2.2.2 = false → r.2.2.2 = false) ∧ ∀ j a r, (F.2.2 j a r).2.2.2.2 = false → r.2.2.2 = false
theorem rsk_rw {F : RcT} {r : RR} (h : RSk F) (q : (rwR F z j r).2.2.2.2 = false) : r.2.2.2 = false := h.1 _ _ _ q
theorem rsk_bd {F : RcT} {r : RR} {a : Bool} (h : RSk F) (q : (bdR F z j a r).2.2.2.2 = false) : r.2.2.2 = false := by sorry
theorem rsk_in {F : RcT} {r : RR} (h : RSk F) (q : (inR F N z T j r).2.2.2.2 = false) : r.2.2.2 = false := by sorry
theorem rsk_F : ∀ n, RSk (rcF N z T n) := by sorry
/-- none goes on where nothing is reached -/
theorem rc_al {f : Nat} {r : RR} {a : Bool} (hf : 1 ≤ f) (q : ((rcF N z T f).2.2 j a r).2.2.2.2 = false) : a = true := by sorry
abbrev geA (g : GzA) : Bool := g.2.2.2.2.2.2.2
abbrev ASk (F : AsT) : Prop := (∀ x m g, geA (F.1 x m g).2 = false → geA g = false) ∧ (∀ x ch m d g, geA (F.2.1 x ch m d g).2.2 = false → geA g = false) ∧ ∀ j m g, geA (F.2.2 j m g).2 = false → geA g = false
theorem ask_ex {g : GzA} {x : Int} {m : Int64} (q : geA (exB z T x m g).2 = false) : geA g = false := by sorry
/-- no ERROR in it: it is told -/
theorem ex_get {g : GzA} {x : Int} {m : Int64} (q : geA (exB z T x m g).2 = false) : ∃ e, exD z T x m = some e := by sorry
theorem ask_bd {F : AsT} {g : GzA} {m : Int64} (h : ASk F) (q : geA (bdA F z j m g).2 = false) : geA g = false := by sorry
theorem ask_in {F : AsT} {g : GzA} {m : Int64} (h : ASk F) (q : geA (inA F N z T j m g).2 = false) : geA g = false := by sorry
theorem ask_F : ∀ n, ASk (asF N z T n) := by sorry
end
/-! no ERROR of flow, as the class goes: then the function of y20 tells it -/
abbrev NcSo (N : Int → Int) (z : ZS) (T : TbT) (St : SsT) : Prop := ∀ a p q, St a p q → ∀ (f f' : Nat) (r : RR) (g : GzA) (m : Int64), 2 * (q.1 - p.1) ≤ f + 1 → 2 * (q.1 - p.1) ≤ f' + 1 → KrD z a p.1 q.1 → FrR p.1 q.1 r → FrAd p.1 q.1 g → ((rcF N z T f).2.2 p.1 true r).2.2.2.2 = false → geA ((asF N z T f').2.2 p.1 m g).2 = false → ∃ R, (dF N z T f).2.2 p.1 true m = some R
abbrev NcRo (N : Int → Int) (z : ZS) (T : TbT) (Rw : RsT) : Prop := ∀ a L p q, Rw 0 0 a L p q → ∀ (f f' : Nat) (r : RR) (g : GzA) (al : Bool) (m : Int64), 2 * (q.1 - p.1) ≤ f → 2 * (q.1 - p.1) ≤ f' → KrW z a p.1 q.1 → FrR p.1 q.1 r → FrAd p.1 q.1 g → ((rcF N z T f).1 (hdI L) al r).2.2.2.2 = false → geA ((asF N z T f').1 (hdI L) m g).2 = false → ∃ R, (dF N z T f).1 (hdI L) al m = some R
def NcI (N : Int → Int) (z : ZS) (T : TbT) (a : Int) (j hi : Nat) : Prop := ∀ (f f' : Nat) (r : RR) (g : GzA) (m : Int64), 2 * (hi - j) ≤ f + 2 → 2 * (hi - j) ≤ f' + 2 → KrD z a j hi → FrR j hi r → FrAd j hi g → (inR (rcF N z T f) N z T j r).2.2.2.2 = false → geA (inA (asF N z T f') N z T j m (gaB j m g)).2 = false → ∃ R, inD' (dF N z T f) N z T j m = some R
section
variable {N : Int → Int} {z : ZS} {T : TbT} {a lv t : Int} {j k : Nat} {l : List ItZ} {q : Ps} {St : SsT} {Rw : RsT}
theorem nb_S (hN : NcSo N z T St) (hC : RcSo N z T St) (hA : AsSo N z T St) {p q : Ps} (hs : St a p q) {f f' : Nat} {r : RR} {g : GzA} {m : Int64} (hf : 2 * (q.1 - p.1) ≤ f + 1) (hf' : 2 * (q.1 - p.1) ≤ f' + 1) (K : KrD z a p.1 q.1) (hr : FrR p.1 q.1 r) (hg : FrAd p.1 q.1 g) (q1 : ((rcF N z T f).2.2 p.1 true r).2.2.2.2 = false) (q2 : geA ((asF N z T f').2.2 p.1 m g).2 = false) : ∃ R, (dF N z T f).2.2 p.1 true m = some R ∧ RcO N z T a p.1 q.1 r R ((rcF N z T f).2.2 p.1 true r) ∧ AsO z a p.1 q.1 g R ((asF N z T f').2.2 p.1 m g) := by sorry
theorem nc_lf (hk : kjS z j = 90 ∨ kjS z j = 94 ∨ kjS z j = 91 ∨ kjS z j = 93 ∨ kjS z j = 4 ∨ kjS z j = 66 ∨ kjS z j = 67) {f f' : Nat} {g : GzA} {m : Int64} (q2 : geA (inA (asF N z T f') N z T j m (gaB j m g)).2 = false) : ∃ R, inD' (dF N z T f) N z T j m = some R := by sorry
theorem nc_ju (hk : kjS z j = 64 ∨ kjS z j = 65) : NcI N z T a j (j + 1) := by sorry
theorem nc_bl (hR : NcRo N z T Rw) (hle : ∀ a L p q, Rw 0 0 a L p q → p.1 ≤ q.1) {L : List Nat} {p : Nat × List ItZ} (hr : Rw 0 0 j L (j + 1, p) q) (hk : kjS z j = 2) (hpa : paS z j = a) (hb : bjS z j = hdI L) : NcI N z T a j q.1 := by sorry
theorem nc_la (hS : NcSo N z T St) (hC : RcSo N z T St) {p : Nat × List ItZ} {q1 : Ps} (hs : St j (j + 1, p) q1) (hk : kjS z j = 6) (hpa : paS z j = a) (hb : bjS z j = ((j + 1 : Nat) : Int)) : NcI N z T a j q1.1 := by sorry
theorem nc_if1 (hS : NcSo N z T St) (hC : RcSo N z T St) {p : Nat × List ItZ} {q1 : Ps} (hs : St j (j + 1, p) q1) (hk : kjS z j = 56) (hpa : paS z j = a) (hb : bjS z j = ((j + 1 : Nat) : Int)) (ho : ojS z j = -1) : NcI N z T a j q1.1 := by sorry
theorem nc_if2 (hS : NcSo N z T St) (hC : RcSo N z T St) (hA : AsSo N z T St) {p : Nat × List ItZ} {q1 q2 : Ps} {p2 : Nat × List ItZ} (hs : St j (j + 1, p) q1) (hs2 : St j (q1.1, p2) q2) (hk : kjS z j = 56) (hpa : paS z j = a) (hb : bjS z j = ((j + 1 : Nat) : Int)) (ho : ojS z j = (q1.1 : Int)) : NcI N z T a j q2.1 := by sorry
theorem nc_do (hS : NcSo N z T St) (hC : RcSo N z T St) (hA : AsSo N z T St) {p : Nat × List ItZ} {q1 : Ps} (hs : St j (j + 1, p) q1) (hk : kjS z j = 59) (hpa : paS z j = a) (hb : bjS z j = ((j + 1 : Nat) : Int)) : NcI N z T a j q1.1 := by sorry
theorem nc_wh (hS : NcSo N z T St) (hC : RcSo N z T St) {p : Nat × List ItZ} {q1 : Ps} (hs : St j (j + 1, p) q1) (hk : kjS z j = 58) (hpa : paS z j = a) (hb : bjS z j = ((j + 1 : Nat) : Int)) : NcI N z T a j q1.1 := by sorry
/-- exps of for -/
theorem nc_S1 (hk : kjS z j = 94 ∨ kjS z j = 93) (hl : lvS z j ≤ 20) {f f' : Nat} {g : GzA} {m : Int64} (hf : 1 ≤ f) (hf' : 1 ≤ f') (q2 : geA ((asF N z T f').2.2 j m g).2 = false) : ∃ R, (dF N z T f).2.2 j true m = some R ∧ R.1 = true := by sorry
theorem nc_fx (hl : lv ≤ 20) : ∀ (L : List Nat) (p q : Ps), FxD z lv a L p q → ∀ (f f' : Nat) (g : GzA) (m : Int64), 2 * (q.1 - p.1) ≤ f → 2 * (q.1 - p.1) ≤ f' → KrW z a p.1 q.1 → FrAd p.1 q.1 g → geA ((asF N z T f').1 (hdI L) m g).2 = false → ∃ R, (dF N z T f).1 (hdI L) true m = some R := by sorry
theorem nc_fi (hl : lv ≤ 20) {o : Int} {p q : Ps} (h : FiD z lv j o p q) {f f' : Nat} {g : GzA} {m : Int64} (hf : 2 * (q.1 - p.1) ≤ f) (hf' : 2 * (q.1 - p.1) ≤ f') (K : KrW z (j : Int) p.1 q.1) (hG : FrAd p.1 q.1 g) (e2 : geA ((asF N z T f').1 o m g).2 = false) : ∃ R, (dF N z T f).1 o true m = some R := by sorry
theorem nc_fo (hp : ∀ i, i < snM z → paS z i < (i : Int)) (hS : NcSo N z T St) (hC : RcSo N z T St) (hA : AsSo N z T St) (hT : JtSo N z T St) (hl : lv ≤ 20) {p1 : Nat × List ItZ} {q1 q3 q4 : Ps} {p3 p4 : Nat × List ItZ} {o gg : Int} {L : List Nat} (h1 : FiD z lv j o (j + 1, p1) q1) (h3 : FxD z lv (j : Int) L (q1.1, p3) q3) (hs : St j (q3.1, p4) q4) (hgL : gg = hdI L) (hk : kjS z j = 60) (hpa : paS z j = a) (hb : bjS z j = (q3.1 : Int)) (ho : ojS z j = o) (hg : gjS z j = gg) : NcI N z T a j q4.1 := by sorry
end
/-! no ERROR of flow, as the class goes: switch, try, every S -/
section
variable {N : Int → Int} {z : ZS} {T : TbT} {a lv t : Int} {j k : Nat} {l : List ItZ} {q : Ps} {St : SsT} {Rw : RsT}
/-- rows -/
theorem nc_row (hS : NcSo N z T St) (hC : RcSo N z T St) (hA : AsSo N z T St) : NcRo N z T (RwD St z lv) := by sorry
theorem nc_srow (hS : NcSo N z T St) (hC : RcSo N z T St) (hA : AsSo N z T St) (hkd : ∀ a p q, St a p q → ¬ kjS z p.1 = 62 ∧ ¬ kjS z p.1 = 63) : ∀ (L : List Nat) (p q : Ps), RwD St z lv 1 k a L p q → ∀ (f f' : Nat) (r : RR) (g : GzA) (al d : Bool) (m ch : Int64), 2 * (q.1 - p.1) ≤ f → 2 * (q.1 - p.1) ≤ f' → KrW z a p.1 q.1 → FrR p.1 q.1 r → FrAd p.1 q.1 g → ((rcF N z T f).2.1 (hdI L) al d r).2.2.2.2.2 = false → geA ((asF N z T f').2.1 (hdI L) ch m d g).2.2 = false → ∃ R, (dF N z T f).2.1 (hdI L) ch al m d = some R := by sorry
theorem nc_sw (hS : NcSo N z T St) (hC : RcSo N z T St) (hA : AsSo N z T St) (hkd : ∀ a p q, St a p q → ¬ kjS z p.1 = 62 ∧ ¬ kjS z p.1 = 63) {L : List Nat} {p : Nat × List ItZ} {q1 : Ps} (hr : RwD St z lv 1 k j L (j + 1, p) q1) (hk : kjS z j = 61) (hpa : paS z j = a) (hb : bjS z j = hdI L) : NcI N z T a j q1.1 := by sorry
/-- a block of try -/
theorem nc_bk (hR : NcRo N z T Rw) (hle : ∀ a L p q, Rw 0 0 a L p q → p.1 ≤ q.1) (hl : lv ≤ 20) {p q : Ps} (hB : BkD Rw z lv (j : Int) p q) {hi : Nat} (hq : q.1 ≤ hi) (K : KrD z a j hi) (hk : ¬ kjS z j = 92) (hpa : paS z j = a) (hg : 0 ≤ gjS z j → ¬ gjS z j = (p.1 : Int) → (q.1 : Int) ≤ gjS z j) {f f' : Nat} {r : RR} {g : GzA} {m : Int64} (hf : 2 * (q.1 - p.1) ≤ f + 2) (hf' : 2 * (q.1 - p.1) ≤ f' + 1) (hF : FrR p.1 q.1 r) (hG : FrAd p.1 q.1 g) (e1 : (rwR (rcF N z T f) z p.1 r).2.2.2.2 = false) (e2 : geA ((asF N z T f').2.2 p.1 m g).2 = false) : ∃ R, (dF N z T f).1 (bjS z p.1) true m = some R := by sorry
theorem nc_ty (hp : ∀ i, i < snM z → paS z i < (i : Int)) (hR : NcRo N z T Rw) (hC : RcRo N z T Rw) (hA : AsRo N z T Rw) (hT : JtRo N z T Rw) (hl : lv ≤ 20) {p : Nat × List ItZ} {q1 q2 q3 : Ps} {o g : Int} (B1 : BkD Rw z lv (j : Int) (j + 1, p) q1) (B2 : (o = -1 ∧ q2.1 = q1.1) ∨ (o = (q1.1 : Int) ∧ ∃ p2, BkD Rw z lv (j : Int) (q1.1, p2) q2)) (B3 : (g = -1 ∧ q3.1 = q2.1) ∨ (g = (q2.1 : Int) ∧ ∃ p3, BkD Rw z lv (j : Int) (q2.1, p3) q3)) (hk : kjS z j = 68) (hpa : paS z j = a) (hb : bjS z j = ((j + 1 : Nat) : Int)) (ho : ojS z j = o) (hg : gjS z j = g) : NcI N z T a j q3.1 := by sorry
end
/-- every S -/
theorem nc_all {N : Int → Int} {M : Int} {C : CxT} {z : ZS} {T : TbT} {ms : MfT} (H : DfX N C z T ms) (hp : ∀ i, i < snM z → paS z i < (i : Int)) : ∀ n, n ≤ 21 → NcSo N z T (StW z (StD N M z n)) := by sorry
/-! flow of the class, method by method: REACHED and SURELY assigned are what the function of y20 says -/
section
variable {N : Int → Int} {z : ZS} {T : TbT} {ms : MfT} {C : CxT}
theorem fac_m1 {hi j : Nat} (hpa : paS z j = -1) : ∀ k, FaC z hi k (j : Int) := by sorry
theorem me_fl (H : DfX N C z T ms) (hp : ∀ i, i < snM z → paS z i < (i : Int)) {M : Nat} {p p1 : Ps} (h : MeD N z M p p1) (hz : p1.1 ≤ snM z) (hq : p1.2.2 <:+ z.2.1) {f : Nat} (hf : 2 * snM z ≤ f) {r : RR} {g : GzA} {m : Int64} (hF : FrR p.1 p1.1 r) (hG : FrAd p.1 p1.1 g) :
    p.1 < p1.1 ∧ ((rwR (rcF N z T f) z p.1 r).2.2.2.2 = false → geA ((asF N z T f).2.2 p.1 m g).2 = false → ∃ R, (dF N z T f).1 (bjS z p.1) true m = some R) ∧
    ∀ R, (dF N z T f).1 (bjS z p.1) true m = some R →
      ((rwR (rcF N z T f) z p.1 r).1 = R.1 ∧ (rwR (rcF N z T f) z p.1 r).2.2.2.2 = r.2.2.2 ∧ (∀ i, ¬ (p.1 ≤ i ∧ i < p1.1) → (rwR (rcF N z T f) z p.1 r).2.1 i = r.1 i) ∧ (∀ i, p1.1 ≤ i → (rwR (rcF N z T f) z p.1 r).2.2.1 i = r.2.1 i ∧ (rwR (rcF N z T f) z p.1 r).2.2.2.1 i = r.2.2.1 i) ∧ LgR z p.1 p1.1 (rwR (rcF N z T f) z p.1 r).2 R.2.2.2) ∧
      (geA ((asF N z T f).2.2 p.1 m g).2 = geA g ∧ (∀ i, ¬ (p.1 ≤ i ∧ i < p1.1) → ((asF N z T f).2.2 p.1 m g).2.1 i = g.1 i) ∧ (∀ i, p1.1 ≤ i → ((asF N z T f).2.2 p.1 m g).2.2.2.1 i = g.2.2.1 i ∧ ((asF N z T f).2.2 p.1 m g).2.2.2.2.1 i = g.2.2.2.1 i) ∧ LgA z p.1 p1.1 ((asF N z T f).2.2 p.1 m g).2 R.2.2.2) := by sorry
end
/-- the flow of all methods is fine -/
def FlO (N : Int → Int) (z : ZS) (T : TbT) (ms : MfT) (V1 : Nat → Int) (f : Nat) : List Nat → Nat → Prop
  | [], _ => True
  | j :: L, M => (∃ R, (dF N z T f).1 (bjS z j) true (pbL (V1 M) (npT ms M) 0 zerB) = some R ∧ (R.1 = true → mtyN ms M = 5)) ∧ FlO N z T ms V1 f L (M + 1)
/-- each S: bits ahead of it, whether it ends -/
def FlG (N : Int → Int) (z : ZS) (T : TbT) (ms : MfT) (V1 : Nat → Int) (f : Nat) : List Nat → Nat → List (Nat × Int64 × Bool)
  | [], _ => []
  | j :: L, M => (match (dF N z T f).1 (bjS z j) true (pbL (V1 M) (npT ms M) 0 zerB) with
    | some R => R.2.2.2
    | none => []) ++ FlG N z T ms V1 f L (M + 1)
section
variable {N : Int → Int} {z : ZS} {T : TbT} {ms : MfT} {C : CxT}
theorem ral_sk {J : Nat → Nat} {f : Nat} : ∀ (n k : Nat) (r : RR), (raL (rcF N z T f) z ms J n k r).2.2.2 = false → r.2.2.2 = false := by sorry
theorem asl_sk {J : Nat → Nat} {V1 : Nat → Int} {f : Nat} : ∀ (n k : Nat) (g : GzA), geA (asL (asF N z T f) ms J V1 n k g) = false → geA g = false := by sorry
theorem fl_all (H : DfX N C z T ms) (hp : ∀ i, i < snM z → paS z i < (i : Int)) {J : Nat → Nat} {V1 : Nat → Int} {f : Nat} (hf : 2 * snM z ≤ f) : ∀ (L : List Nat) (M : Nat) (p q : Ps), PrD N z L M p q → q.1 ≤ snM z → q.2.2 <:+ z.2.1 → (∀ i j, L[i]? = some j → J (M + i) = j) → (p.1 ≤ q.1 ∧ p.2.2 <:+ q.2.2) ∧ ∀ (r : RR) (g : GzA), FrR p.1 q.1 r → FrAd p.1 q.1 g → r.2.2.2 = false → geA g = false →
    (((raL (rcF N z T f) z ms J L.length M r).2.2.2 = false ∧ geA (asL (asF N z T f) ms J V1 L.length M g) = false) ↔ FlO N z T ms V1 f L M) ∧
    (FlO N z T ms V1 f L M → LgR z p.1 q.1 (raL (rcF N z T f) z ms J L.length M r) (FlG N z T ms V1 f L M) ∧ LgA z p.1 q.1 (asL (asF N z T f) ms J V1 L.length M g) (FlG N z T ms V1 f L M) ∧ ∀ i, i < p.1 → (raL (rcF N z T f) z ms J L.length M r).1 i = r.1 i ∧ (asL (asF N z T f) ms J V1 L.length M g).1 i = g.1 i) := by sorry
end
/-! the function of y20 tells of every S -/
def SkD (z : ZS) (i : Nat) : Prop := ¬ kjS z i = 62 ∧ ¬ kjS z i = 63 ∧ ¬ kjS z i = 92 ∧ ¬ kjS z i = 93 ∧ ¬ kjS z i = 94
def CvG (z : ZS) (lo hi : Nat) (G : List (Nat × Int64 × Bool)) : Prop := ∀ i, lo ≤ i → i < hi → SkD z i → ∃ x ∈ G, x.1 = i
abbrev CvSo (N : Int → Int) (z : ZS) (T : TbT) (St : SsT) : Prop := ∀ a p q, St a p q → p.1 < q.1 ∧ ∀ (f : Nat) (m : Int64) (R : ReG), 2 * (q.1 - p.1) ≤ f + 1 → (dF N z T f).2.2 p.1 true m = some R → CvG z p.1 q.1 R.2.2.2
abbrev CvRw (N : Int → Int) (z : ZS) (T : TbT) (Rw : RsT) : Prop := ∀ sw k a L p q, Rw sw k a L p q → p.1 ≤ q.1 ∧ ∀ (f : Nat) (al : Bool) (m : Int64), 2 * (q.1 - p.1) ≤ f → (sw = 0 → ∀ R : ReG, (dF N z T f).1 (hdI L) al m = some R → CvG z p.1 q.1 R.2.2.2) ∧ (sw = 1 → ∀ (ch : Int64) (d : Bool) (R : Bool × ReG), (dF N z T f).2.1 (hdI L) ch al m d = some R → CvG z p.1 q.1 R.2.2.2.2)
def CvI (N : Int → Int) (z : ZS) (T : TbT) (j hi : Nat) : Prop := ∀ (f : Nat) (m : Int64) (R : ReG), 2 * (hi - j) ≤ f + 2 → inD' (dF N z T f) N z T j m = some R → CvG z (j + 1) hi R.2.2.2
section
variable {N : Int → Int} {z : ZS} {T : TbT} {a lv t : Int} {j k : Nat} {l : List ItZ} {q : Ps} {St : SsT} {Rw : RsT} {lo mi hi : Nat} {G G' : List (Nat × Int64 × Bool)}
theorem CvG.nil (h : hi ≤ lo) : CvG z lo hi G := fun i a b _ => by omega
theorem CvG.ap (h : CvG z lo mi G) (g : CvG z mi hi G') : CvG z lo hi (G ++ G') := by sorry
theorem CvG.sk (h : CvG z mi hi G) (g : ∀ i, lo ≤ i → i < mi → ¬ SkD z i) : CvG z lo hi G := by sorry
theorem cv_bl (hR : CvRw N z T Rw) {L : List Nat} {p : Nat × List ItZ} (hr : Rw 0 0 j L (j + 1, p) q) (hk : kjS z j = 2) (hb : bjS z j = hdI L) : CvI N z T j q.1 := by sorry
theorem cv_la (hS : CvSo N z T St) {p : Nat × List ItZ} {q1 : Ps} (hs : St j (j + 1, p) q1) (hk : kjS z j = 6) (hb : bjS z j = ((j + 1 : Nat) : Int)) : CvI N z T j q1.1 := by sorry
theorem cv_if1 (hS : CvSo N z T St) {p : Nat × List ItZ} {q1 : Ps} (hs : St j (j + 1, p) q1) (hk : kjS z j = 56) (hb : bjS z j = ((j + 1 : Nat) : Int)) (ho : ojS z j = -1) : CvI N z T j q1.1 := by sorry
theorem cv_if2 (hS : CvSo N z T St) {p : Nat × List ItZ} {q1 q2 : Ps} {p2 : Nat × List ItZ} (hs : St j (j + 1, p) q1) (hs2 : St j (q1.1, p2) q2) (hk : kjS z j = 56) (hb : bjS z j = ((j + 1 : Nat) : Int)) (ho : ojS z j = (q1.1 : Int)) : CvI N z T j q2.1 := by sorry
theorem cv_wh (hS : CvSo N z T St) {b : Nat} {p : Nat × List ItZ} {q1 : Ps} (hs : St j (b, p) q1) (hjb : j < b) (hk : kjS z j = 58 ∨ kjS z j = 60) (hb : bjS z j = (b : Int)) (hn : ∀ i, j + 1 ≤ i → i < b → ¬ SkD z i) : CvI N z T j q1.1 := by sorry
theorem cv_do (hS : CvSo N z T St) {p : Nat × List ItZ} {q1 : Ps} (hs : St j (j + 1, p) q1) (hk : kjS z j = 59) (hb : bjS z j = ((j + 1 : Nat) : Int)) : CvI N z T j q1.1 := by sorry
theorem cv_row (hS : CvSo N z T St) (hkd : ∀ a p q, St a p q → ¬ kjS z p.1 = 62 ∧ ¬ kjS z p.1 = 63) : CvRw N z T (RwD St z lv) := by sorry
theorem cv_sw (hR : CvRw N z T Rw) {L : List Nat} {p : Nat × List ItZ} {q1 : Ps} (hr : Rw 1 k j L (j + 1, p) q1) (hk : kjS z j = 61) (hb : bjS z j = hdI L) : CvI N z T j q1.1 := by sorry
theorem cv_bk (hR : CvRw N z T Rw) {p q : Ps} (hB : BkD Rw z lv a p q) {f : Nat} {m : Int64} {R : ReG} (hf : 2 * (q.1 - p.1) ≤ f + 2) (h : (dF N z T f).1 (bjS z p.1) true m = some R) : CvG z p.1 q.1 R.2.2.2 := by sorry
theorem cv_ty (hR : CvRw N z T Rw) {p : Nat × List ItZ} {q1 q2 q3 : Ps} {o g : Int} (B1 : BkD Rw z lv (j : Int) (j + 1, p) q1) (B2 : (o = -1 ∧ q2.1 = q1.1) ∨ (o = (q1.1 : Int) ∧ ∃ p2, BkD Rw z lv (j : Int) (q1.1, p2) q2)) (B3 : (g = -1 ∧ q3.1 = q2.1) ∨ (g = (q2.1 : Int) ∧ ∃ p3, BkD Rw z lv (j : Int) (q2.1, p3) q3)) (hk : kjS z j = 68) (hb : bjS z j = ((j + 1 : Nat) : Int)) (ho : ojS z j = o) (hg : gjS z j = g) : CvI N z T j q3.1 := by sorry
theorem fi_kd {o : Int} {p q : Ps} (h : FiD z lv j o p q) : ∀ i, p.1 ≤ i → i < q.1 → kjS z i = 93 ∨ kjS z i = 94 := by sorry
end
/-- every S -/
theorem cv_st {N : Int → Int} {M : Int} {z : ZS} {T : TbT} : ∀ n, CvSo N z T (StD N M z n) := by sorry
/-- every S of the program -/
theorem cv_pr {N : Int → Int} {z : ZS} {T : TbT} {ms : MfT} {V1 : Nat → Int} {f : Nat} (hf : 2 * snM z ≤ f) : ∀ (L : List Nat) (M : Nat) (p q : Ps), PrD N z L M p q → q.1 ≤ snM z → p.1 ≤ q.1 ∧ (FlO N z T ms V1 f L M → CvG z p.1 q.1 (FlG N z T ms V1 f L M)) := by sorry
/-! the reference's flow: runs from a state to the end; an ERROR of flow stays told -/
/-- n codes, the first one first -/
def FlC : Nat → RS → Int32 → Int32 → RS → Int32 → Int32 → Prop
  | 0, σ, c, m, τ, d, k => σ = τ ∧ c = d ∧ m = k
  | n + 1, σ, c, m, τ, d, k => c < gI σ 18 ∧ ∃ (Y : RS) (c1 m1 : Int32), FlwR σ c m Y c1 m1 ∧ FlC n Y c1 m1 τ d k
theorem flc_sn : ∀ (n : Nat) {σ : RS} {c m : Int32} {Y : RS} {d k : Int32} {τ : RS} {e l : Int32}, FlC n σ c m Y d k → d < gI Y 18 → FlwR Y d k τ e l → FlC (n + 1) σ c m τ e l := by sorry
theorem flt_c {σ0 : RS} : ∀ (n : Nat) {Y : RS} {c m : Int32}, FlT σ0 n Y c m → FlC n σ0 0 0 Y c m := by sorry
/-- from here the run gets to τ, where no code is left -/
def RnR (τ : RS) (σ : RS) (c m : Int32) : Prop := ∃ (n : Nat) (d k : Int32), FlC n σ c m τ d k ∧ ¬ d < gI τ 18
theorem RnR.st {τ σ : RS} {c m : Int32} (h : RnR τ σ c m) (hc : c < gI σ 18) : ∃ (Y : RS) (c1 m1 : Int32), FlwR σ c m Y c1 m1 ∧ RnR τ Y c1 m1 := by sorry
theorem RnR.en {τ σ : RS} {c m : Int32} (h : RnR τ σ c m) (hc : ¬ c < gI σ 18) : σ = τ := by sorry
theorem fk_20 {σ : RS} {c : Int32} : gI (fs_20 σ c).1 112 = gI σ 112 ∧ gI (fs_20 σ c).1 114 = gI σ 114 := by sorry
theorem fk_21 {σ : RS} {c : Int32} : gI (fs_21 σ c).1 112 = gI σ 112 ∧ gI (fs_21 σ c).1 114 = gI σ 114 := by sorry
theorem fk_22 {σ : RS} {c : Int32} : gI (fs_22 σ c).1 112 = gI σ 112 ∧ gI (fs_22 σ c).1 114 = gI σ 114 := by sorry
theorem fk_23 {σ : RS} {c : Int32} : gI (fs_23 σ c).1 112 = gI σ 112 ∧ gI (fs_23 σ c).1 114 = gI σ 114 := by sorry
theorem fk_24 {σ : RS} {c : Int32} : gI (fs_24 σ c).1 112 = gI σ 112 ∧ gI (fs_24 σ c).1 114 = gI σ 114 := by sorry
theorem fk_25 {σ : RS} {c : Int32} : gI (fs_25 σ c).1 112 = gI σ 112 ∧ gI (fs_25 σ c).1 114 = gI σ 114 := by sorry
theorem fk_27 {σ : RS} {c : Int32} : gI (fs_27 σ c).1 112 = gI σ 112 ∧ gI (fs_27 σ c).1 114 = gI σ 114 := by sorry
theorem fk_28 {σ : RS} {c : Int32} : gI (fs_28 σ c).1 112 = gI σ 112 ∧ gI (fs_28 σ c).1 114 = gI σ 114 := by sorry
theorem fk_30 {σ : RS} {c : Int32} : gI (fs_30 σ c).1 112 = gI σ 112 ∧ gI (fs_30 σ c).1 114 = gI σ 114 := by sorry
theorem fk_31 {σ : RS} {c : Int32} : gI (fs_31 σ c).1 112 = gI σ 112 ∧ gI (fs_31 σ c).1 114 = gI σ 114 := by sorry
theorem fk_33 {σ : RS} {c : Int32} : gI (fs_33 σ c).1 112 = gI σ 112 ∧ gI (fs_33 σ c).1 114 = gI σ 114 := by sorry
theorem fk_35 {σ : RS} {c : Int32} : gI (fs_35 σ c).1 112 = gI σ 112 ∧ gI (fs_35 σ c).1 114 = gI σ 114 := by sorry
theorem fk_36 {σ : RS} {c : Int32} : gI (fs_36 σ c).1 112 = gI σ 112 ∧ gI (fs_36 σ c).1 114 = gI σ 114 := by sorry
theorem fk_37 {σ : RS} {c : Int32} : gI (fs_37 σ c).1 112 = gI σ 112 ∧ gI (fs_37 σ c).1 114 = gI σ 114 := by sorry
theorem fk_38 {σ : RS} {c : Int32} : gI (fs_38 σ c).1 112 = gI σ 112 ∧ gI (fs_38 σ c).1 114 = gI σ 114 := by sorry
theorem fk_39 {σ : RS} {c : Int32} : gI (fs_39 σ c).1 112 = gI σ 112 ∧ gI (fs_39 σ c).1 114 = gI σ 114 := by sorry
theorem fk_40 {σ : RS} {c : Int32} : gI (fs_40 σ c).1 112 = gI σ 112 ∧ gI (fs_40 σ c).1 114 = gI σ 114 := by sorry
theorem fk_42 {σ : RS} {c : Int32} : gI (fs_42 σ c).1 112 = gI σ 112 ∧ gI (fs_42 σ c).1 114 = gI σ 114 := by sorry
theorem fk_45 {σ : RS} {c : Int32} : gI (fs_45 σ c).1 112 = gI σ 112 ∧ gI (fs_45 σ c).1 114 = gI σ 114 := by sorry
theorem fk_46 {σ : RS} {c : Int32} : gI (fs_46 σ c).1 112 = gI σ 112 ∧ gI (fs_46 σ c).1 114 = gI σ 114 := by sorry
theorem fk_47 {σ : RS} {c : Int32} : gI (fs_47 σ c).1 112 = gI σ 112 ∧ gI (fs_47 σ c).1 114 = gI σ 114 := by sorry
theorem fk_48 {σ : RS} {c : Int32} : gI (fs_48 σ c).1 112 = gI σ 112 ∧ gI (fs_48 σ c).1 114 = gI σ 114 := by sorry
theorem fk_49 {σ : RS} {c : Int32} : gI (fs_49 σ c).1 112 = gI σ 112 ∧ gI (fs_49 σ c).1 114 = gI σ 114 := by sorry
theorem fk_50 {σ : RS} {c : Int32} : gI (fs_50 σ c).1 112 = gI σ 112 ∧ gI (fs_50 σ c).1 114 = gI σ 114 := by sorry
theorem fk_51 {σ : RS} {c : Int32} : gI (fs_51 σ c).1 112 = gI σ 112 ∧ gI (fs_51 σ c).1 114 = gI σ 114 := by sorry
theorem fk_52 {σ : RS} {c : Int32} : gI (fs_52 σ c).1 112 = gI σ 112 ∧ gI (fs_52 σ c).1 114 = gI σ 114 := by sorry
theorem fk_53 {σ : RS} {c : Int32} : gI (fs_53 σ c).1 112 = gI σ 112 ∧ gI (fs_53 σ c).1 114 = gI σ 114 := by sorry
theorem fk_S {σ : RS} {c : Int32} : gI (fsS σ c).1 112 = gI σ 112 ∧ gI (fsS σ c).1 114 = gI σ 114 := by sorry
def FkP (σ τ : RS) : Prop := gI τ 112 = gI σ 112 ∧ gI τ 114 = gI σ 114
theorem fk_if {σ a b : RS} {p : Prop} [Decidable p] (h1 : FkP σ a) (h2 : FkP σ b) : FkP σ (if p then a else b) := by sorry
theorem fk_x {σ : RS} {c : Int32} : FkP σ (fxS σ c) := by sorry
/-- an ERROR of flow is told -/
def BdF (σ : RS) : Prop := ¬ gI σ 112 = 0 ∨ ¬ gI σ 114 = 0
theorem bd_st {σ τ : RS} {c m d k : Int32} (h : FlwR σ c m τ d k) (hb : BdF σ) : BdF τ := by sorry
theorem bd_rn : ∀ (n : Nat) {σ τ : RS} {c m d k : Int32}, FlC n σ c m τ d k → BdF σ → BdF τ := by sorry
theorem RnR.bd {τ σ : RS} {c m : Int32} (h : RnR τ σ c m) (hb : BdF σ) : BdF τ := by sorry
/-! the reference's jumps as a list -/
/-- thing, by continue, from which code, whether alive, bits -/
abbrev JfZ : Type := Int32 × Int32 × Int32 × Int32 × Int64
def jmE (σ : RS) (i : Nat) : JfZ := (aI σ 104 i, aI σ 105 i, aI σ 106 i, aI σ 107 i, aL σ 108 i)
def jmL (σ : RS) : Nat → List JfZ
  | 0 => []
  | n + 1 => jmL σ n ++ (if 0 ≤ aI σ 104 n then [jmE σ n] else [])
theorem jm_cg {σ τ : RS} : ∀ (n : Nat), (∀ i, i < n → jmE τ i = jmE σ i) → jmL τ n = jmL σ n := by sorry
def cjB (k on : Int32) : List JfZ → Int64
  | [] => Int64.ofInt (-1)
  | x :: J => if x.1 = k ∧ x.2.1 = on then x.2.2.2.2 &&& cjB k on J else cjB k on J
def cjA (k on : Int32) (J : List JfZ) : Prop := ∃ x ∈ J, (x.1 = k ∧ x.2.1 = on) ∧ ¬ x.2.2.2.1 = 0
theorem cjB_ap {k on : Int32} : ∀ {J K : List JfZ}, cjB k on (J ++ K) = cjB k on J &&& cjB k on K := by sorry
section
variable {σ : RS} {k on : Int32}
/-- where the jumps lead behind what comes to k -/
theorem co_row (hk : 0 ≤ k) : ∀ (n i : Nat), (coF σ k on n).2.2 i = if i < n ∧ aI σ 104 i = k ∧ aI σ 105 i = on then -5 else aI σ 104 i := by sorry
/-- what comes: bits, whether one is alive -/
theorem co_bits (hk : 0 ≤ k) : ∀ (n : Nat), (coF σ k on n).1 = cjB k on (jmL σ n) ∧ (¬ (coF σ k on n).2.1 = 0 ↔ cjA k on (jmL σ n)) := by sorry
/-- what is left of the jumps -/
theorem co_left (hk : 0 ≤ k) {N : Nat} : ∀ (n : Nat), n ≤ N → jmL (coS σ k on N) n = (jmL σ n).filter (fun x => !decide (x.1 = k ∧ x.2.1 = on)) := by sorry
theorem ifc {α : Type} {p q : Prop} [Decidable p] [Decidable q] {a b : α} (h : p ↔ q) : (if p then a else b) = (if q then a else b) := by sorry
/-- through a finally -/
def thrJ (σ : RS) (k : Int32) (x : JfZ) : JfZ := if aI σ 51 k.toNatClampNeg ≤ x.2.2.1 ∧ x.2.2.1 ≤ aI σ 58 k.toNatClampNeg then (x.1, x.2.1, x.2.2.1, if ¬ x.2.2.2.1 = 0 ∧ ¬ gI σ 92 = 0 then 1 else 0, if gI σ 92 = 0 then Int64.ofInt (-1) else x.2.2.2.2 ||| nowR σ) else x
theorem en_row : ∀ (n i : Nat), (enF σ k n).1 i = (if i < n ∧ 0 ≤ aI σ 104 i then (thrJ σ k (jmE σ i)).2.2.2.1 else aI σ 107 i) ∧ (enF σ k n).2 i = (if i < n ∧ 0 ≤ aI σ 104 i then (thrJ σ k (jmE σ i)).2.2.2.2 else aL σ 108 i) := by sorry
theorem en_left {N : Nat} : ∀ (n : Nat), n ≤ N → jmL (enS σ k N) n = (jmL σ n).map (thrJ σ k) := by sorry
end
/-! the reference's flow: what it leaves alone -/
def flI (k : Nat) : Bool := k == 92 || k == 100 || k == 103 || k == 112 || k == 113 || k == 114 || k == 115 || k == 116 || k == 117
def flL (k : Nat) : Bool := k == 93 || k == 94
def flA (k : Nat) : Bool := k == 95 || k == 97 || k == 104 || k == 105 || k == 106 || k == 107 || k == 109 || k == 111
def flM (k : Nat) : Bool := k == 96 || k == 98 || k == 99 || k == 101 || k == 102 || k == 108 || k == 110
def FfR (σ τ : RS) : Prop := (∀ k, flI k = false → gI τ k = gI σ k) ∧ (∀ k, flL k = false → gL τ k = gL σ k) ∧ (∀ k, flA k = false → aI τ k = aI σ k) ∧ ∀ k, flM k = false → aL τ k = aL σ k
section
variable {σ τ υ : RS} {k : Nat}
theorem FfR.rf : FfR σ σ := by sorry
theorem FfR.tr (h : FfR σ τ) (g : FfR τ υ) : FfR σ υ := by sorry
theorem ff_ne {P : Nat → Bool} {i k : Nat} (h : P k = true) (q : P i = false) : Nat.beq i k = false := by sorry
theorem FfR.I {v : Int32} (hk : flI k = true) (h : FfR σ τ) : FfR σ (sI τ k v) := by sorry
theorem FfR.L {v : Int64} (hk : flL k = true) (h : FfR σ τ) : FfR σ (sL τ k v) := by sorry
theorem FfR.A {v : Nat → Int32} (hk : flA k = true) (h : FfR σ τ) : FfR σ (sA τ k v) := by sorry
theorem FfR.M {v : Nat → Int64} (hk : flM k = true) (h : FfR σ τ) : FfR σ (sM τ k v) := by sorry
theorem FfR.be {b : Int64} (h : FfR σ τ) : FfR σ (beS τ b) := FfR.L rfl (FfR.L rfl h)
theorem FfR.co {k on : Int32} {n : Nat} (h : FfR σ τ) : FfR σ (coS τ k on n) := FfR.A rfl (FfR.I rfl h)
theorem FfR.en {k : Int32} {n : Nat} (h : FfR σ τ) : FfR σ (enS τ k n) := FfR.M rfl (FfR.A rfl h)
theorem FfR.la {u p : Int32} (h : FfR σ τ) : FfR σ (laS τ u p) := FfR.I rfl (FfR.I rfl h)
theorem FfR.un {u p : Int32} (h : FfR σ τ) : FfR σ (unS τ u p) := FfR.I rfl (FfR.I rfl h)
theorem FfR.tt {m : Int32} (h : FfR σ τ) : FfR σ (sttS τ m) := FfR.be (FfR.I rfl h)
theorem ff_if {a b : RS} {p : Prop} [Decidable p] (h1 : FfR σ a) (h2 : FfR σ b) : FfR σ (if p then a else b) := by sorry
end
theorem ff_20 {σ : RS} {c : Int32} : FfR σ (fs_20 σ c).1 := by sorry
theorem ff_21 {σ : RS} {c : Int32} : FfR σ (fs_21 σ c).1 := by sorry
theorem ff_22 {σ : RS} {c : Int32} : FfR σ (fs_22 σ c).1 := by sorry
theorem ff_23 {σ : RS} {c : Int32} : FfR σ (fs_23 σ c).1 := by sorry
theorem ff_24 {σ : RS} {c : Int32} : FfR σ (fs_24 σ c).1 := by sorry
theorem ff_25 {σ : RS} {c : Int32} : FfR σ (fs_25 σ c).1 := by sorry
theorem ff_27 {σ : RS} {c : Int32} : FfR σ (fs_27 σ c).1 := by sorry
theorem ff_28 {σ : RS} {c : Int32} : FfR σ (fs_28 σ c).1 := by sorry
theorem ff_30 {σ : RS} {c : Int32} : FfR σ (fs_30 σ c).1 := by sorry
theorem ff_31 {σ : RS} {c : Int32} : FfR σ (fs_31 σ c).1 := by sorry
theorem ff_33 {σ : RS} {c : Int32} : FfR σ (fs_33 σ c).1 := by sorry
theorem ff_35 {σ : RS} {c : Int32} : FfR σ (fs_35 σ c).1 := by sorry
theorem ff_36 {σ : RS} {c : Int32} : FfR σ (fs_36 σ c).1 := by sorry
theorem ff_37 {σ : RS} {c : Int32} : FfR σ (fs_37 σ c).1 := by sorry
theorem ff_38 {σ : RS} {c : Int32} : FfR σ (fs_38 σ c).1 := by sorry
theorem ff_39 {σ : RS} {c : Int32} : FfR σ (fs_39 σ c).1 := by sorry
theorem ff_40 {σ : RS} {c : Int32} : FfR σ (fs_40 σ c).1 := by sorry
theorem ff_42 {σ : RS} {c : Int32} : FfR σ (fs_42 σ c).1 := by sorry
theorem ff_45 {σ : RS} {c : Int32} : FfR σ (fs_45 σ c).1 := by sorry
theorem ff_46 {σ : RS} {c : Int32} : FfR σ (fs_46 σ c).1 := by sorry
theorem ff_47 {σ : RS} {c : Int32} : FfR σ (fs_47 σ c).1 := by sorry
theorem ff_48 {σ : RS} {c : Int32} : FfR σ (fs_48 σ c).1 := by sorry
theorem ff_49 {σ : RS} {c : Int32} : FfR σ (fs_49 σ c).1 := by sorry
theorem ff_50 {σ : RS} {c : Int32} : FfR σ (fs_50 σ c).1 := by sorry
theorem ff_51 {σ : RS} {c : Int32} : FfR σ (fs_51 σ c).1 := by sorry
theorem ff_52 {σ : RS} {c : Int32} : FfR σ (fs_52 σ c).1 := by sorry
theorem ff_53 {σ : RS} {c : Int32} : FfR σ (fs_53 σ c).1 := by sorry
theorem ff_S {σ : RS} {c : Int32} : FfR σ (fsS σ c).1 := by sorry
theorem ff_x {σ : RS} {c : Int32} : FfR σ (fxS σ c) := by sorry
theorem ff_st {σ τ : RS} {c m d k : Int32} (h : FlwR σ c m τ d k) : FfR σ τ := by sorry
/-! the reference's flow: one code, where no ERROR of flow is told in the end -/
section
variable {σ τ : RS} {c m d k : Int32}
/-- an exp's code -/
theorem sx_st (h : FlwR σ c m τ d k) (hb : ¬ BdF τ) (hc : aI σ 19 c.toNatClampNeg ≤ 18) : ¬ BdF σ ∧ ¬ uvR σ c ∧ d = c + 1 ∧ k = m ∧ ∃ p, τ = fxS (unS σ 0 p) c := by sorry
/-- an S's code -/
theorem ss_st (h : FlwR σ c m τ d k) (hb : ¬ BdF τ) (hc : ¬ aI σ 19 c.toNatClampNeg ≤ 18) : ¬ BdF σ ∧ ¬ ltR σ c ∧ ∃ p, d = (fsS (laS σ 0 p) c).2 ∧ ((¬ (¬ d ≤ 0 ∧ aI σ 19 (d - 1).toNatClampNeg = 54) ∧ k = m ∧ τ = (fsS (laS σ 0 p) c).1) ∨ ((¬ d ≤ 0 ∧ aI σ 19 (d - 1).toNatClampNeg = 54) ∧ k = m + 1 ∧ τ = sttS (fsS (laS σ 0 p) c).1 (m + 1))) := by sorry
/-- an S's code that goes on behind it -/
theorem ss_1 (h : FlwR σ c m τ d k) (hb : ¬ BdF τ) (hc : ¬ aI σ 19 c.toNatClampNeg ≤ 18) (h54 : ¬ aI σ 19 c.toNatClampNeg = 54) (h1 : ∀ p, (fsS (laS σ 0 p) c).2 = c + 1) : ¬ BdF σ ∧ ¬ ltR σ c ∧ d = c + 1 ∧ k = m ∧ ∃ p, τ = (fsS (laS σ 0 p) c).1 := by sorry
end
/-! the reference's flow: what stands open inside an exp -/
/-- frames, what the class left for later, how many stand open -/
def OpR (σ : RS) : MkF → List Int64 → Nat → Prop
  | [], A, n => A = [] ∧ n = 0
  | (k, _, _) :: F, A, n => ∃ n' A', n = n' + 1 ∧ (if k = 3 then A = aL σ 102 n' :: aL σ 101 n' :: A' else if k = 1 then A = aL σ 101 n' :: A' else A = aL σ 102 n' :: A') ∧ OpR σ F A' n'
theorem OpR.fr {σ τ : RS} : ∀ {F : MkF} {A : List Int64} {n : Nat}, (∀ i, i < n → aL τ 101 i = aL σ 101 i ∧ aL τ 102 i = aL σ 102 i) → OpR σ F A n → OpR τ F A n := by sorry
theorem OpR.le {σ : RS} : ∀ {F : MkF} {A : List Int64} {n : Nat}, OpR σ F A n → n = F.length := by sorry
theorem i32_prd {x : Int32} {n : Nat} (h : x.toInt = ((n + 1 : Nat) : Int)) (hn : n ≤ 10000) : (x - 1).toInt = (n : Int) := by sorry
/-- exps: bits, what stands open -/
def XvR (σ : RS) (F : MkF) (t f : Int64) (A : List Int64) : Prop := gL σ 93 = t ∧ gL σ 94 = f ∧ (gI σ 100).toInt = (F.length : Int) ∧ OpR σ F A F.length
section
variable {σ : RS} {F : MkF} {t f : Int64} {A : List Int64} {a b : Int} {c : Int32}
/-- && and ?: a frame more -/
theorem xv_and {k : Int} (h : XvR σ F t f A) (hF : F.length ≤ 100) (hk : k = 0 ∨ k = 2) : XvR (beS (sI (sM σ 102 (vp_updL (aL σ 102) (gI σ 100).toNatClampNeg (gL σ 94))) 100 (gI σ 100 + 1)) (gL σ 93)) ((k, a, b) :: F) t t (f :: A) := by sorry
/-- || -/
theorem xv_or (h : XvR σ F t f A) (hF : F.length ≤ 100) : XvR (beS (sI (sM σ 101 (vp_updL (aL σ 101) (gI σ 100).toNatClampNeg (gL σ 93))) 100 (gI σ 100 + 1)) (gL σ 94)) ((1, a, b) :: F) f f (t :: A) := by sorry
/-- behind && -/
theorem xv_af (h : XvR σ ((0, a, b) :: F) t f A) (hF : F.length ≤ 100) : ∃ v A', A = v :: A' ∧ XvR (sL (sI σ 100 (gI σ 100 - 1)) 94 (gL σ 94 &&& aL σ 102 (gI σ 100 - 1).toNatClampNeg)) F t (f &&& v) A' := by sorry
/-- behind || -/
theorem xv_ot (h : XvR σ ((1, a, b) :: F) t f A) (hF : F.length ≤ 100) : ∃ v A', A = v :: A' ∧ XvR (sL (sI σ 100 (gI σ 100 - 1)) 93 (gL σ 93 &&& aL σ 101 (gI σ 100 - 1).toNatClampNeg)) F (t &&& v) f A' := by sorry
/-- the other side of a choice -/
theorem xv_el {a' b' : Int} (h : XvR σ ((2, a, b) :: F) t f A) (hF : F.length ≤ 100) : ∃ v A', A = v :: A' ∧ XvR (beS (sM (sM σ 101 (vp_updL (aL σ 101) (gI σ 100 - 1).toNatClampNeg (gL σ 93))) 102 (vp_updL (aL σ 102) (gI σ 100 - 1).toNatClampNeg (gL σ 94))) (aL σ 102 (gI σ 100 - 1).toNatClampNeg)) ((3, a', b') :: F) v v (f :: t :: A') := by sorry
/-- behind a choice -/
theorem xv_ch (h : XvR σ ((3, a, b) :: F) t f A) (hF : F.length ≤ 100) : ∃ vf vt A', A = vf :: vt :: A' ∧ XvR (sL (sL (sI σ 100 (gI σ 100 - 1)) 93 (gL σ 93 &&& aL σ 101 (gI σ 100 - 1).toNatClampNeg)) 94 (gL σ 94 &&& aL σ 102 (gI σ 100 - 1).toNatClampNeg)) F (t &&& vt) (f &&& vf) A' := by sorry
end
/-! params are SURELY assigned where a method begins: both halves -/
theorem pb_sn {v : Int} : ∀ (n i : Nat) (m : Int64), pbL v (n + 1) i m = pbL v n i m ||| bitQ (v + ((i + n : Nat) : Int)) := by sorry
theorem st_pb {σ : RS} {m : Int32} {v np N : Nat} (h : ∀ k, k < N → ((m < gI σ 36 ∧ aI σ 46 k = m ∧ Int32.ofInt k < aI σ 40 m.toNatClampNeg + aI σ 39 m.toNatClampNeg) ↔ (v ≤ k ∧ k < v + np))) : ∀ n, n ≤ N → stB σ m n = pbL (v : Int) (min np (n - v)) 0 zerB := by sorry
theorem st_all {σ : RS} {m : Int32} {v np N : Nat} (h : ∀ k, k < N → ((m < gI σ 36 ∧ aI σ 46 k = m ∧ Int32.ofInt k < aI σ 40 m.toNatClampNeg + aI σ 39 m.toNatClampNeg) ↔ (v ≤ k ∧ k < v + np))) (hv : v + np ≤ N) : stB σ m N = pbL (v : Int) np 0 zerB := by sorry
/-! the reference's flow of exps: marks, && and ||, as the class goes -/
section
variable {σ : RS} {c : Int32}
theorem fx_15 (h : aI σ 19 c.toNatClampNeg = 15) : fxS σ c = σ := by sorry
theorem fx_8 (h : aI σ 19 c.toNatClampNeg = 8 ∨ aI σ 19 c.toNatClampNeg = 12) : fxS σ c = beS (sI (sM σ 102 (vp_updL (aL σ 102) (gI σ 100).toNatClampNeg (gL σ 94))) 100 (gI σ 100 + 1)) (gL σ 93) := by sorry
theorem fx_9 (h : aI σ 19 c.toNatClampNeg = 9) : fxS σ c = sL (sI σ 100 (gI σ 100 - 1)) 94 (gL σ 94 &&& aL σ 102 (gI σ 100 - 1).toNatClampNeg) := by sorry
theorem fx_10 (h : aI σ 19 c.toNatClampNeg = 10) : fxS σ c = beS (sI (sM σ 101 (vp_updL (aL σ 101) (gI σ 100).toNatClampNeg (gL σ 93))) 100 (gI σ 100 + 1)) (gL σ 94) := by sorry
theorem fx_11 (h : aI σ 19 c.toNatClampNeg = 11) : fxS σ c = sL (sI σ 100 (gI σ 100 - 1)) 93 (gL σ 93 &&& aL σ 101 (gI σ 100 - 1).toNatClampNeg) := by sorry
theorem fx_13 (h : aI σ 19 c.toNatClampNeg = 13) : fxS σ c = beS (sM (sM σ 101 (vp_updL (aL σ 101) (gI σ 100 - 1).toNatClampNeg (gL σ 93))) 102 (vp_updL (aL σ 102) (gI σ 100 - 1).toNatClampNeg (gL σ 94))) (aL σ 102 (gI σ 100 - 1).toNatClampNeg) := by sorry
theorem i32_lit {v w : Int32} (h : v.toInt = w.toInt) : v = w := Int32.toInt_inj.mp h
end
section
variable {σ : RS} {c : Int32} {l : List ItZ} {x : XrZ} {G F : MkF} {w : WzS} {t : TvT}
theorem toa_c {m : Int64} (h : w.2.2.1.length ≤ 400) : toA m w = (w.1, w.2.1, m :: w.2.2.1, w.2.2.2) := by sorry
/-- one mark, &&, ||, ( ) -/
theorem xe_mk (hc : (aI σ 19 c.toNatClampNeg).toInt = opkZ x) (hS : MkS l x G F) (hG : G.length ≤ 100) (hA : w.2.2.1.length ≤ 200) (hk : x.1.1 = 3 ∨ x.1.1 = 11 ∨ x.1.1 = 12 ∨ x.1.1 = 13 ∨ (x.1.1 = 7 ∧ (x.1.2.1 = 20 ∨ x.1.2.1 = 21))) (h : XvR σ G w.1 w.2.1 w.2.2.1) : XvR (fxS σ c) F (paW x t w).1 (paW x t w).2.1 (paW x t w).2.2.1 ∧ (paW x t w).2.2.2 = w.2.2.2 := by sorry
end
/-! the reference's flow of exps: CONSTANTS and what is worked out at once, as the class goes -/
section
variable {σ : RS} {c : Int32} {F : MkF} {w : WzS} {t : TvT} {A : List Int64}
theorem xv_set {a b u v : Int64} (h : XvR σ F u v A) : XvR (sL (sL σ 93 a) 94 b) F a b A := by sorry
theorem now_e {u v : Int64} (h : XvR σ F u v A) : nowR σ = u &&& v := by sorry
theorem sid_v (hs : ShT (aI σ 81 c.toNatClampNeg) (aI σ 84 c.toNatClampNeg) (aL σ 85 c.toNatClampNeg) t) (hv : VaT t) (h : XvR σ F w.1 w.2.1 A) : XvR (sidS σ c) F (jnT t zerB w).1 (jnT t zerB w).2.1 A := by sorry
theorem fx_sid (h : aI σ 19 c.toNatClampNeg = 1 ∨ aI σ 19 c.toNatClampNeg = 2 ∨ aI σ 19 c.toNatClampNeg = 6 ∨ aI σ 19 c.toNatClampNeg = 7 ∨ aI σ 19 c.toNatClampNeg = 18) : fxS σ c = sidS σ c := by sorry
theorem fx_16 (h : aI σ 19 c.toNatClampNeg = 3 ∨ aI σ 19 c.toNatClampNeg = 4 ∨ aI σ 19 c.toNatClampNeg = 16) : fxS σ c = beS σ (nowR σ) := by sorry
theorem fx_17 (h : aI σ 19 c.toNatClampNeg = 17) : fxS σ c = beS σ (nowR σ ||| 1 <<< ((aI σ 83 c.toNatClampNeg).toInt64 &&& 63)) := by sorry
/-- literals, casts, operators, calls -/
theorem xe_sid {l : List ItZ} {x : XrZ} {G : MkF} (hc : (aI σ 19 c.toNatClampNeg).toInt = opkZ x) (hS : MkS l x G F) (hk : (0 ≤ x.1.1 ∧ x.1.1 ≤ 1) ∨ x.1.1 = 5 ∨ (x.1.1 = 7 ∧ ¬ x.1.2.1 = 20 ∧ ¬ x.1.2.1 = 21) ∨ x.1.1 = 10) (hs : ShT (aI σ 81 c.toNatClampNeg) (aI σ 84 c.toNatClampNeg) (aL σ 85 c.toNatClampNeg) t) (hv : VaT t) (h : XvR σ G w.1 w.2.1 w.2.2.1) : XvR (fxS σ c) F (paW x t w).1 (paW x t w).2.1 (paW x t w).2.2.1 ∧ (paW x t w).2.2.2 = w.2.2.2 := by sorry
end
/-! the reference's flow of exps: values that are taken, !, choices, assignments, as the class goes -/
theorem bit_q {b : Int64} {v : Int32} {k : Int} (h : v.toInt = k) (h0 : 0 ≤ k) (h1 : k < 64) : bitR b v ↔ hasQ b k = true := by sorry
theorem sgT_39 {a g : Int} (h : (a, g) ∈ sgT) : a = 33 ↔ g = 39 := by sorry
section
variable {σ : RS} {c : Int32} {l : List ItZ} {x : XrZ} {G F : MkF} {w : WzS} {t : TvT} {A : List Int64}
/-- values of variables that are taken: 2 -/
theorem xe_2 (hc : (aI σ 19 c.toNatClampNeg).toInt = opkZ x) (hS : MkS l x G F) (k : x.1.1 = 2) (hs : ShT (aI σ 81 c.toNatClampNeg) (aI σ 84 c.toNatClampNeg) (aL σ 85 c.toNatClampNeg) t) (hv : VaT t) (hl : (aI σ 83 c.toNatClampNeg).toInt = x.2.1.2.1) (h0 : 0 ≤ x.2.1.2.1) (h1 : x.2.1.2.1 < 64) (hK : ¬ t.2.1 = 0 ↔ (¬ aI σ 45 x.2.1.2.1.toNat = 0 ∧ ¬ aI σ 86 x.2.1.2.1.toNat = 0)) (h : XvR σ G w.1 w.2.1 w.2.2.1) (he : w.2.2.2 = false) : XvR (fxS σ c) F (paW x t w).1 (paW x t w).2.1 (paW x t w).2.2.1 ∧ (uvR σ c ↔ (paW x t w).2.2.2 = true) := by sorry
theorem jn_pl (h : ¬ (¬ t.2.1 = 0 ∧ t.1 = 0)) {m : Int64} {w : WzS} : jnT t m w = ((w.1 &&& w.2.1) ||| m, (w.1 &&& w.2.1) ||| m, w.2.2) := by sorry
/-- ++, --, values that an assignment takes: 6, 14 -/
theorem xe_6 (hS : MkS l x G F) {v : Int32} (k : (x.1.1 = 6 ∧ (aI σ 19 c.toNatClampNeg = 3 ∨ aI σ 19 c.toNatClampNeg = 4) ∧ v = aI σ 83 c.toNatClampNeg) ∨ (x.1.1 = 14 ∧ aI σ 19 c.toNatClampNeg = 16 ∧ v = aI σ 80 (aI σ 22 c.toNatClampNeg).toNatClampNeg)) (ht : t.2.1 = 0) (hl : v.toInt = x.2.1.2.1) (h0 : 0 ≤ x.2.1.2.1) (h1 : x.2.1.2.1 < 64) (h : XvR σ G w.1 w.2.1 w.2.2.1) (he : w.2.2.2 = false) : XvR (fxS σ c) F (paW x t w).1 (paW x t w).2.1 (paW x t w).2.2.1 ∧ (uvR σ c ↔ (paW x t w).2.2.2 = true) := by sorry
theorem uv_no (h : ¬ (aI σ 19 c.toNatClampNeg = 2 ∨ aI σ 19 c.toNatClampNeg = 3 ∨ aI σ 19 c.toNatClampNeg = 4 ∨ aI σ 19 c.toNatClampNeg = 16)) : ¬ uvR σ c := by sorry
theorem xv_be {u v b : Int64} (h : XvR σ F u v A) : XvR (beS σ b) F b b A := xv_set h
/-- an assignment: 9 -/
theorem xe_9 (hc : (aI σ 19 c.toNatClampNeg).toInt = opkZ x) (hS : MkS l x G F) (k : x.1.1 = 9) (ht : t.2.1 = 0) (hl : (aI σ 83 c.toNatClampNeg).toInt = x.2.1.2.1) (h0 : 0 ≤ x.2.1.2.1) (h : XvR σ G w.1 w.2.1 w.2.2.1) : XvR (fxS σ c) F (paW x t w).1 (paW x t w).2.1 (paW x t w).2.2.1 ∧ (paW x t w).2.2.2 = w.2.2.2 := by sorry
/-- !, + - ~: 4 -/
theorem xe_4 (hc : (aI σ 19 c.toNatClampNeg).toInt = opkZ x) (hS : MkS l x G F) (k : x.1.1 = 4) (hg : ((aI σ 20 c.toNatClampNeg).toInt, x.1.2.1) ∈ sgT) (h81 : ¬ x.1.2.1 = 39 → ¬ aI σ 81 c.toNatClampNeg = 0) (hq : ¬ x.1.2.1 = 39 → w.1 = w.2.1) (h : XvR σ G w.1 w.2.1 w.2.2.1) : XvR (fxS σ c) F (paW x t w).1 (paW x t w).2.1 (paW x t w).2.2.1 ∧ (paW x t w).2.2.2 = w.2.2.2 := by sorry
/-- a choice: 8 -/
theorem xe_8 (hc : (aI σ 19 c.toNatClampNeg).toInt = opkZ x) (hS : MkS l x G F) (hG : G.length ≤ 100) (k : x.1.1 = 8) (hq : ¬ aI σ 81 c.toNatClampNeg = 0 → (paW x t w).1 = (paW x t w).2.1) (h : XvR σ G w.1 w.2.1 w.2.2.1) : XvR (fxS σ c) F (paW x t w).1 (paW x t w).2.1 (paW x t w).2.2.1 ∧ (paW x t w).2.2.2 = w.2.2.2 := by sorry
end
/-! the reference's flow of a whole exp, as the class goes -/
/-- what stands fixed while flow goes: codes, tables -/
def FxE (σ : RS) (C : CxT) (z : ZS) (T : TbT) : Prop := (IcR id σ z.2.1 ∧ (gI σ 18).toInt = (z.2.1.length : Int) ∧ z.2.1.length ≤ 4000) ∧ JtR σ T z.2.1 ∧ (JvR σ C T ∧ ∀ v, v < C.2.2.1 → (¬ aI σ 45 v = 0 ↔ ¬ (C.2.1 v).2 = 0)) ∧ ∀ x l, (.inl x :: l) <:+ z.2.1 → x.1.1 = 14 → (aI σ 80 x.2.1.1.toNat).toInt = x.2.1.2.1
theorem FxE.fr {σ τ : RS} {C : CxT} {z : ZS} {T : TbT} (h : FxE σ C z T) (f : FfR σ τ) : FxE τ C z T := by sorry
theorem itN_at {x : ItZ} {l L : List ItZ} (h : (x :: l) <:+ L) : itN L l.length = some x := itN_g h (by
  rw [itN]
  simp)
theorem jtr_at {σ : RS} {T : TbT} {x : XrZ} {l : List ItZ} : ∀ {L : List ItZ}, JtR σ T L → (.inl x :: l) <:+ L → x.1.1 ≤ 10 → ceR σ T l.length (xcZ l) x := by sorry
/-- pure facts of reading and judging that SURELY assigned asks -/
def PuE (C : CxT) (z : ZS) (T : TbT) : Prop := ∀ x l, (.inl x :: l) <:+ z.2.1 → (x.1.1 = 2 → (¬ (T.1 (xcZ l)).2.1 = 0 ↔ ¬ (T.2 x.2.1.2.1.toNat).1 = 0)) ∧ (x.1.1 = 14 → 0 ≤ x.2.1.2.1 ∧ 0 ≤ x.2.1.1) ∧ (¬ x.1.1 = 10 → x.2.1.2.1 < 64)
theorem tb_i {C : CxT} {xs : Nat → XrZ} : ∀ (i : Nat) (T : TbT), tbT C xs i = some T → ∀ k, i ≤ k → T.1 k = (t0T C.1 xs).1 k := by sorry
theorem jd_y {C : CxT} {z : ZS} {T : TbT} (h : JdL C z T) {i : Nat} (hi : i < xnM z) : ∃ U : TbT, exT C U i (xth z i) = some (T.1 i) ∧ (∀ k, k < i → U.1 k = T.1 k) ∧ U.1 i = (t0T C.1 (fun i => xth z i)).1 i := by sorry
section
variable {σ : RS} {C : CxT} {z : ZS} {T : TbT} {l : List ItZ} {x : XrZ} {G F : MkF} {w : WzS} {c : Int32}
/-- one exp or mark -/
theorem xe_st (H : ZjD C z T) (P : PuE C z T) (E : FxE σ C z T) (hs : (.inl x :: l) <:+ z.2.1) (hc : c.toInt = (l.length : Int)) (hk : x.1.1 ≤ 14) (hS : MkS l x G F) (hG : G.length ≤ 100) (hA : w.2.2.1.length ≤ 200) (hcn : x.1.1 ≤ 10 → CnD T (xcZ l : Int) (paW x (T.1 (xcZ l)) w).1 (paW x (T.1 (xcZ l)) w).2.1) (h : XvR σ G w.1 w.2.1 w.2.2.1) (he : w.2.2.2 = false) :
    XvR (fxS σ c) F (paW x (T.1 (xcZ l)) w).1 (paW x (T.1 (xcZ l)) w).2.1 (paW x (T.1 (xcZ l)) w).2.2.1 ∧ (uvR σ c ↔ (paW x (T.1 (xcZ l)) w).2.2.2 = true) := by sorry
end
/-! the reference's flow of a whole exp: from its first code behind its last one -/
/-- what exps leave alone -/
def XfR (σ τ : RS) : Prop := (∀ k, k ≠ 100 → k ≠ 114 → k ≠ 115 → gI τ k = gI σ k) ∧ (∀ k, k ≠ 93 → k ≠ 94 → gL τ k = gL σ k) ∧ aI τ = aI σ ∧ ∀ k, k ≠ 101 → k ≠ 102 → aL τ k = aL σ k
section
variable {σ τ υ : RS} {k : Nat}
theorem XfR.rf : XfR σ σ := by sorry
theorem XfR.tr (h : XfR σ τ) (g : XfR τ υ) : XfR σ υ := by sorry
theorem XfR.I {v : Int32} (hk : k = 100 ∨ k = 114 ∨ k = 115) (h : XfR σ τ) : XfR σ (sI τ k v) := by sorry
theorem XfR.L {v : Int64} (hk : k = 93 ∨ k = 94) (h : XfR σ τ) : XfR σ (sL τ k v) := by sorry
theorem XfR.M {v : Nat → Int64} (hk : k = 101 ∨ k = 102) (h : XfR σ τ) : XfR σ (sM τ k v) := by sorry
theorem XfR.be {b : Int64} (h : XfR σ τ) : XfR σ (beS τ b) := XfR.L (by omega) (XfR.L (by omega) h)
theorem XfR.un {u p : Int32} (h : XfR σ τ) : XfR σ (unS τ u p) := XfR.I (by omega) (XfR.I (by omega) h)
theorem xf_if {a b : RS} {p : Prop} [Decidable p] (h1 : XfR σ a) (h2 : XfR σ b) : XfR σ (if p then a else b) := by sorry
theorem xf_x {c : Int32} : XfR σ (fxS σ c) := by sorry
theorem XfR.ff (h : XfR σ τ) : FfR σ τ := by sorry
end
theorem pa_er {x : XrZ} {t : TvT} {w : WzS} (h : w.2.2.2 = true) : (paW x t w).2.2.2 = true := by sorry
section
variable {σ : RS} {C : CxT} {z : ZS} {T : TbT}
theorem i32_nat {n : Nat} (h : n ≤ 4000) : (Int32.ofInt (n : Int)).toInt = (n : Int) := Int32.toInt_ofInt_of_le (by omega) (by omega)
theorem i32_suc {n : Nat} (h : n ≤ 4000) : Int32.ofInt (n : Int) + 1 = Int32.ofInt ((n + 1 : Nat) : Int) := by sorry
/-- the place of what comes next -/
def plI (l : List ItZ) : Int32 := Int32.ofInt (l.length : Int)
theorem op_le {x : XrZ} (h : x.1.1 ≤ 14) : opkZ x ≤ 18 := by sorry
theorem ltJ {a b : Int32} (h : a.toInt < b.toInt) : a < b := Int32.lt_iff_toInt_lt.mpr h
theorem leJ {a b : Int32} (h : a.toInt ≤ b.toInt) : a ≤ b := Int32.le_iff_toInt_le.mpr h
/-- a code is there -/
theorem pl_lt (E : FxE σ C z T) {x : ItZ} {l : List ItZ} (hs : (x :: l) <:+ z.2.1) : plI l < gI σ 18 ∧ (plI l).toInt = (l.length : Int) ∧ (plI l).toNatClampNeg = l.length := by sorry
theorem pl_s (E : FxE σ C z T) {x : ItZ} {l : List ItZ} (hs : (x :: l) <:+ z.2.1) : plI l + 1 = plI (x :: l) := by sorry
theorem XvR.u {F : MkF} {t f : Int64} {A : List Int64} {u p : Int32} (h : XvR σ F t f A) : XvR (unS σ u p) F t f A := by sorry
theorem fx_run {τ : RS} {k : Int32} (H : ZjD C z T) (P : PuE C z T) (E : FxE σ C z T) {l : List ItZ} {mm : Int64} (hn : ¬ LsO l) (hl : MkP 100 l []) (hx : XvR σ [] mm mm []) (hb : ¬ BdF σ) (hr : RnR τ σ (plI l) k) : ∀ (t : List XrZ), (∀ x ∈ t, x.1.1 ≤ 14) → (t.map Sum.inl ++ l) <:+ z.2.1 → (BdF τ ∧ (bxL z T t.length (xcZ l) (mm, mm, [], false)).2.2.2 = true) ∨ ∃ σ', RnR τ σ' (plI (t.map Sum.inl ++ l)) k ∧ ¬ BdF σ' ∧ XfR σ σ' ∧ (bxL z T t.length (xcZ l) (mm, mm, [], false)).2.2.2 = false ∧ ∃ F, MkP 100 (t.map Sum.inl ++ l) F ∧ XvR σ' F (bxL z T t.length (xcZ l) (mm, mm, [], false)).1 (bxL z T t.length (xcZ l) (mm, mm, [], false)).2.1 (bxL z T t.length (xcZ l) (mm, mm, [], false)).2.2.1 := by sorry
/-- a whole exp -/
theorem fx_ex {τ : RS} {k : Int32} (H : ZjD C z T) (P : PuE C z T) (E : FxE σ C z T) {lv : Int} {l m : List ItZ} {r : XrZ} {mm : Int64} (hX : ExX lv l m r) (hl0 : 0 ≤ lv) (hh : HdR l) (hm : m <:+ z.2.1) (hx : XvR σ [] mm mm []) (hb : ¬ BdF σ) (hr : RnR τ σ (plI l) k) : (BdF τ ∧ exD z T ((xcZ m : Int) - 1) mm = none) ∨ ∃ σ' e, exD z T ((xcZ m : Int) - 1) mm = some e ∧ RnR τ σ' (plI m) k ∧ ¬ BdF σ' ∧ XfR σ σ' ∧ XvR σ' [] e.1 e.2 [] := by sorry
end
/-! the reference's flow: jumps against the function's, what S's leave alone -/
def jnS (σ : RS) : List JfZ := jmL σ (gI σ 103).toInt.toNat
/-- S's with a thing of their own -/
def OwK (z : ZS) (i : Nat) : Prop := kjS z i = 2 ∨ kjS z i = 6 ∨ kjS z i = 56 ∨ kjS z i = 58 ∨ kjS z i = 59 ∨ kjS z i = 60 ∨ kjS z i = 61 ∨ kjS z i = 68
def MonT (z : ZS) : Prop := ∀ i j, i < j → j < snM z → OwK z i → thS z i < thS z j
theorem mon_i {z : ZS} (h : MonT z) {i j : Nat} (hi : i < snM z) (hj : j < snM z) (oi : OwK z i) (oj : OwK z j) (e : thS z i = thS z j) : i = j := by sorry
def onI (o : Bool) : Int32 := if o = true then 1 else 0
/-- one jump: both halves -/
def J1R (z : ZS) (c0 c1 : Int) (x : JfZ) (y : JmZ) : Prop := (0 ≤ y.1 ∧ x.1.toInt = thS z y.1.toNat) ∧ x.2.1 = onI y.2.1 ∧ (c0 ≤ x.2.2.1.toInt ∧ x.2.2.1.toInt < c1) ∧ (¬ x.2.2.2.1 = 0 ↔ y.2.2.1 = true) ∧ x.2.2.2.2 = y.2.2.2
def JrR (z : ZS) (c0 c1 : Int) : List JfZ → List JmZ → Prop
  | [], [] => True
  | x :: K, y :: J => J1R z c0 c1 x y ∧ JrR z c0 c1 K J
  | [], _ :: _ => False
  | _ :: _, [] => False
section
variable {z : ZS} {c0 c1 d0 d1 : Int} {K K' : List JfZ} {J J' : List JmZ} {j : Nat}
theorem JrR.ap : ∀ {K : List JfZ} {J : List JmZ}, JrR z c0 c1 K J → JrR z c0 c1 K' J' → JrR z c0 c1 (K ++ K') (J ++ J') := by sorry
theorem JrR.wd (h0 : d0 ≤ c0) (h1 : c1 ≤ d1) : ∀ {K : List JfZ} {J : List JmZ}, JrR z c0 c1 K J → JrR z d0 d1 K J := by sorry
theorem JrR.fm : ∀ {K : List JfZ} {J : List JmZ}, JrR z c0 c1 K J → ∀ x ∈ K, c0 ≤ x.2.2.1.toInt ∧ x.2.2.1.toInt < c1 := by sorry
/-- where jumps lead: S's with things of their own -/
def TgO (z : ZS) (J : List JmZ) : Prop := ∀ y ∈ J, 0 ≤ y.1 → OwK z y.1.toNat ∧ y.1 < (snM z : Int)
theorem jr_cm (hM : MonT z) (hj : j < snM z) (hO : OwK z j) {k : Int32} (hk : k.toInt = thS z j) {o : Bool} : ∀ {K : List JfZ} {J : List JmZ}, JrR z c0 c1 K J → TgO z J → cjB k (onI o) K = cmB j o J ∧ (cjA k (onI o) K ↔ cmA j o J = true) ∧ JrR z c0 c1 (K.filter (fun x => !decide (x.1 = k ∧ x.2.1 = onI o))) (cmR j o J) := by sorry
/-- jumps that stand open from before -/
def OjR (z : ZS) (lo : Nat) (c : Int) (J : List JfZ) : Prop := ∀ x ∈ J, x.2.2.1.toInt < c ∧ ∃ i : Nat, i < lo ∧ OwK z i ∧ x.1.toInt = thS z i
theorem OjR.mo {lo lo' : Nat} {c c' : Int} {J0 : List JfZ} (h : OjR z lo c J0) (h1 : lo ≤ lo') (h2 : c ≤ c') : OjR z lo' c' J0 := by sorry
theorem OjR.ap {lo : Nat} {c : Int} {J0 : List JfZ} (h : OjR z lo c J0) (g : JrR z c0 c K J) (hb : ∀ y ∈ J, 0 ≤ y.1 → OwK z y.1.toNat ∧ y.1 < (lo : Int)) : OjR z lo c (J0 ++ K) := by sorry
theorem oj_cm (hM : MonT z) (hj : j < snM z) {c : Int} {J0 : List JfZ} (h : OjR z j c J0) {k on : Int32} (hk : k.toInt = thS z j) : cjB k on J0 = allB ∧ (¬ cjA k on J0) ∧ J0.filter (fun x => !decide (x.1 = k ∧ x.2.1 = on)) = J0 := by sorry
/-- what comes to S j -/
theorem come_v (hM : MonT z) (hj : j < snM z) (hO : OwK z j) {σ : RS} {k : Int32} (hk : k.toInt = thS z j) (h0 : 0 ≤ thS z j) {o : Bool} {J0 : List JfZ} {c : Int} (hn : jnS σ = J0 ++ K) (hoj : OjR z j c J0) (hjr : JrR z c0 c1 K J) (ht : TgO z J) : (coF σ k (onI o) (gI σ 103).toInt.toNat).1 = cmB j o J ∧ (¬ (coF σ k (onI o) (gI σ 103).toInt.toNat).2.1 = 0 ↔ cmA j o J = true) ∧ ∃ K', jnS (coS σ k (onI o) (gI σ 103).toInt.toNat) = J0 ++ K' ∧ JrR z c0 c1 K' (cmR j o J) := by sorry
/-- through a finally -/
theorem ended_v {σ : RS} {k : Int32} {J0 Kd : List JfZ} {e : Bool} {cf ci : Int} (hn : jnS σ = J0 ++ (K ++ Kd)) (h51 : (aI σ 51 k.toNatClampNeg).toInt = cf) (h58 : (aI σ 58 k.toNatClampNeg).toInt = ci) (h0 : ∀ x ∈ J0, x.2.2.1.toInt < cf) (hd : ∀ x ∈ Kd, ci < x.2.2.1.toInt) (hjr : JrR z cf ci K J) (ha : ¬ gI σ 92 = 0 ↔ e = true) : ∃ K', jnS (enS σ k (gI σ 103).toInt.toNat) = J0 ++ (K' ++ Kd) ∧ JrR z cf ci K' (J.map (fnJ e (nowR σ))) := by sorry
end
/-- alive, bits, nothing open -/
def Bw (σ : RS) (A : Prop) (t f : Int64) : Prop := ((¬ gI σ 92 = 0 ↔ A) ∧ gL σ 93 = t ∧ gL σ 94 = f) ∧ gI σ 100 = 0 ∧ gI σ 117 = -2
/-- things but k, where S's begin and end -/
def FqT (k : Nat) (σ τ : RS) : Prop := FfR σ τ ∧ (∀ i, ¬ i = k → aI τ 95 i = aI σ 95 i ∧ aL τ 96 i = aL σ 96 i ∧ aI τ 97 i = aI σ 97 i ∧ aL τ 98 i = aL σ 98 i ∧ aL τ 99 i = aL σ 99 i) ∧ aI τ 109 = aI σ 109 ∧ aL τ 110 = aL σ 110 ∧ aI τ 111 = aI σ 111
def Jq (σ τ : RS) : Prop := gI τ 103 = gI σ 103 ∧ aI τ 104 = aI σ 104 ∧ aI τ 105 = aI σ 105 ∧ aI τ 106 = aI σ 106 ∧ aI τ 107 = aI σ 107 ∧ aL τ 108 = aL σ 108
section
variable {σ τ υ : RS} {A B : Prop} {t f : Int64} {k : Nat}
theorem Bw.cg (h : Bw σ A t f) (e : A ↔ B) : Bw σ B t f := ⟨⟨h.1.1.trans e, h.1.2⟩, h.2⟩
theorem Bw.now (h : Bw σ A t f) : nowR σ = t &&& f := by sorry
theorem Bw.xv (h : Bw σ A t f) : XvR σ [] t f [] := ⟨h.1.2.1, h.1.2.2, by rw [h.2.1]; rfl, rfl, rfl⟩
theorem Jq.rf : Jq σ σ := ⟨rfl, rfl, rfl, rfl, rfl, rfl⟩
theorem Jq.tr (h : Jq σ τ) (g : Jq τ υ) : Jq σ υ := by sorry
theorem Jq.jn (h : Jq σ τ) : jnS τ = jnS σ := by sorry
theorem FqT.rf : FqT k σ σ := by sorry
theorem FqT.tr (h : FqT k σ τ) (g : FqT k τ υ) : FqT k σ υ := by sorry
/-- an exp's end -/
theorem XfR.bw {e1 e2 : Int64} (h : XfR σ τ) (b : Bw σ A t f) (v : XvR τ [] e1 e2 []) : Bw τ A e1 e2 ∧ FqT k σ τ ∧ Jq σ τ ∧ ∀ i, aI τ 95 i = aI σ 95 i ∧ aL τ 96 i = aL σ 96 i ∧ aI τ 97 i = aI σ 97 i ∧ aL τ 98 i = aL σ 98 i ∧ aL τ 99 i = aL σ 99 i := by sorry
end
/-! the reference's flow: what each code of an S does to what is looked at -/
section
variable {σ τ : RS} {k j : Nat} {v : Int32} {b : Int64} {g : Nat → Int32} {G : Nat → Int64}
theorem FqT.I (hj : flI j = true) (h : FqT k σ τ) : FqT k σ (sI τ j v) := ⟨FfR.I hj h.1, h.2⟩
theorem FqT.L (hj : flL j = true) (h : FqT k σ τ) : FqT k σ (sL τ j b) := ⟨FfR.L hj h.1, h.2⟩
theorem FqT.be (h : FqT k σ τ) : FqT k σ (beS τ b) := FqT.L rfl (FqT.L rfl h)
theorem FqT.a95 (hg : ∀ i, ¬ i = k → g i = aI σ 95 i) (h : FqT k σ τ) : FqT k σ (sA τ 95 g) := ⟨FfR.A rfl h.1, fun i q => ⟨hg i q, (h.2.1 i q).2⟩, h.2.2⟩
theorem FqT.a97 (hg : ∀ i, ¬ i = k → g i = aI σ 97 i) (h : FqT k σ τ) : FqT k σ (sA τ 97 g) := by sorry
theorem FqT.m96 (hg : ∀ i, ¬ i = k → G i = aL σ 96 i) (h : FqT k σ τ) : FqT k σ (sM τ 96 G) := by sorry
theorem FqT.m98 (hg : ∀ i, ¬ i = k → G i = aL σ 98 i) (h : FqT k σ τ) : FqT k σ (sM τ 98 G) := by sorry
theorem FqT.m99 (hg : ∀ i, ¬ i = k → G i = aL σ 99 i) (h : FqT k σ τ) : FqT k σ (sM τ 99 G) := by sorry
theorem FqT.a104 (h : FqT k σ τ) : FqT k σ (sA τ 104 g) := ⟨FfR.A rfl h.1, h.2⟩
theorem FqT.a105 (h : FqT k σ τ) : FqT k σ (sA τ 105 g) := ⟨FfR.A rfl h.1, h.2⟩
theorem FqT.a106 (h : FqT k σ τ) : FqT k σ (sA τ 106 g) := ⟨FfR.A rfl h.1, h.2⟩
theorem FqT.a107 (h : FqT k σ τ) : FqT k σ (sA τ 107 g) := ⟨FfR.A rfl h.1, h.2⟩
theorem FqT.m108 (h : FqT k σ τ) : FqT k σ (sM τ 108 G) := ⟨FfR.M rfl h.1, h.2⟩
theorem FqT.co {K on : Int32} {n : Nat} (h : FqT k σ τ) : FqT k σ (coS τ K on n) := FqT.a104 (FqT.I rfl h)
theorem FqT.en {K : Int32} {n : Nat} (h : FqT k σ τ) : FqT k σ (enS τ K n) := FqT.m108 (FqT.a107 h)
theorem up_k {f : Nat → Int32} : ∀ i, ¬ i = k → upd f k v i = f i := fun _ q => upd_ne q
theorem vp_k {f : Nat → Int64} : ∀ i, ¬ i = k → vp_updL f k b i = f i := fun _ q => if_neg q
end
section
variable {σ : RS} {A : Prop} {t f : Int64} {k : Nat} {c : Int32}
theorem fw_21 (h : Bw σ A t f) : Bw (fs_21 σ c).1 A (t &&& f) (t &&& f) ∧ FqT k σ (fs_21 σ c).1 ∧ Jq σ (fs_21 σ c).1 := by sorry
theorem fw_22 (h : Bw σ A t f) (e : ¬ aI σ 21 c.toNatClampNeg = 1) : Bw (fs_22 σ c).1 A ((t &&& f) &&& ((1 <<< ((aI σ 20 c.toNatClampNeg).toInt64 &&& 63)) ^^^ allB)) ((t &&& f) &&& ((1 <<< ((aI σ 20 c.toNatClampNeg).toInt64 &&& 63)) ^^^ allB)) ∧ FqT k σ (fs_22 σ c).1 ∧ Jq σ (fs_22 σ c).1 := by sorry
theorem fw_22s (h : Bw σ A t f) (e : aI σ 21 c.toNatClampNeg = 1) : Bw (fs_22 σ c).1 A ((t &&& f) ||| (1 <<< ((aI σ 20 c.toNatClampNeg).toInt64 &&& 63))) ((t &&& f) ||| (1 <<< ((aI σ 20 c.toNatClampNeg).toInt64 &&& 63))) ∧ FqT k σ (fs_22 σ c).1 ∧ Jq σ (fs_22 σ c).1 := by sorry
theorem fw_48 (h : Bw σ A t f) : Bw (fs_48 σ c).1 False allB allB ∧ FqT k σ (fs_48 σ c).1 ∧ Jq σ (fs_48 σ c).1 := by sorry
theorem fw_49 (h : Bw σ A t f) : Bw (fs_49 σ c).1 False allB allB ∧ FqT k σ (fs_49 σ c).1 ∧ Jq σ (fs_49 σ c).1 := by sorry
theorem fw_23 (hk : (aI σ 20 c.toNatClampNeg).toNatClampNeg = k) (h : Bw σ A t f) : Bw (fs_23 σ c).1 True t t ∧ FqT k σ (fs_23 σ c).1 ∧ Jq σ (fs_23 σ c).1 ∧ aL (fs_23 σ c).1 98 k = f := by sorry
theorem fw_24 (hk : (aI σ 20 c.toNatClampNeg).toNatClampNeg = k) (h : Bw σ A t f) : Bw (fs_24 σ c).1 True (aL σ 98 k) (aL σ 98 k) ∧ FqT k σ (fs_24 σ c).1 ∧ Jq σ (fs_24 σ c).1 ∧ aL (fs_24 σ c).1 96 k = t &&& f ∧ (¬ aI (fs_24 σ c).1 95 k = 0 ↔ A) := by sorry
theorem fw_25a (hk : (aI σ 20 c.toNatClampNeg).toNatClampNeg = k) (h : Bw σ A t f) (e : aI σ 56 k < 0) : Bw (fs_25 σ c).1 True ((t &&& f) &&& aL σ 98 k) ((t &&& f) &&& aL σ 98 k) ∧ FqT k σ (fs_25 σ c).1 ∧ Jq σ (fs_25 σ c).1 := by sorry
theorem fw_25b (hk : (aI σ 20 c.toNatClampNeg).toNatClampNeg = k) (h : Bw σ A t f) (e : ¬ aI σ 56 k < 0) : Bw (fs_25 σ c).1 (A ∨ ¬ aI σ 95 k = 0) ((t &&& f) &&& aL σ 96 k) ((t &&& f) &&& aL σ 96 k) ∧ FqT k σ (fs_25 σ c).1 ∧ Jq σ (fs_25 σ c).1 := by sorry
theorem fw_27 (hk : (aI σ 20 c.toNatClampNeg).toNatClampNeg = k) (h : Bw σ A t f) : Bw (fs_27 σ c).1 (neR σ c = 0) t t ∧ FqT k σ (fs_27 σ c).1 ∧ Jq σ (fs_27 σ c).1 ∧ aL (fs_27 σ c).1 98 k = f ∧ aI (fs_27 σ c).1 97 k = alR σ c := by sorry
/-- a loop's end: while -/
theorem fw_28 (hk : (aI σ 20 c.toNatClampNeg).toNatClampNeg = k) (h : Bw σ A t f) : ∃ τ1 τ2 : RS, τ1 = coS σ (aI σ 20 c.toNatClampNeg) 1 (gI σ 103).toInt.toNat ∧ τ2 = coS τ1 (aI σ 20 c.toNatClampNeg) 0 (gI τ1 103).toInt.toNat ∧ Bw (fs_28 σ c).1 (aI σ 97 k = 0 ∨ ¬ (coF τ1 (aI σ 20 c.toNatClampNeg) 0 (gI τ1 103).toInt.toNat).2.1 = 0) (aL σ 98 k &&& (coF τ1 (aI σ 20 c.toNatClampNeg) 0 (gI τ1 103).toInt.toNat).1) (aL σ 98 k &&& (coF τ1 (aI σ 20 c.toNatClampNeg) 0 (gI τ1 103).toInt.toNat).1) ∧ FqT k σ (fs_28 σ c).1 ∧ Jq τ2 (fs_28 σ c).1 := by sorry
theorem fw_30 (hk : (aI σ 20 c.toNatClampNeg).toNatClampNeg = k) (h : Bw σ A t f) : ∃ τ1 : RS, τ1 = coS σ (aI σ 20 c.toNatClampNeg) 1 (gI σ 103).toInt.toNat ∧ Bw (fs_30 σ c).1 A ((t &&& f) &&& (coF σ (aI σ 20 c.toNatClampNeg) 1 (gI σ 103).toInt.toNat).1) ((t &&& f) &&& (coF σ (aI σ 20 c.toNatClampNeg) 1 (gI σ 103).toInt.toNat).1) ∧ FqT k σ (fs_30 σ c).1 ∧ Jq τ1 (fs_30 σ c).1 ∧ (¬ aI (fs_30 σ c).1 95 k = 0 ↔ (A ∨ ¬ (coF σ (aI σ 20 c.toNatClampNeg) 1 (gI σ 103).toInt.toNat).2.1 = 0)) := by sorry
theorem fw_31 (hk : (aI σ 20 c.toNatClampNeg).toNatClampNeg = k) (h : Bw σ A t f) : ∃ τ1 : RS, τ1 = coS σ (aI σ 20 c.toNatClampNeg) 0 (gI σ 103).toInt.toNat ∧ Bw (fs_31 σ c).1 ((¬ aI σ 95 k = 0 ∧ alR σ c = 0) ∨ ¬ (coF σ (aI σ 20 c.toNatClampNeg) 0 (gI σ 103).toInt.toNat).2.1 = 0) (f &&& (coF σ (aI σ 20 c.toNatClampNeg) 0 (gI σ 103).toInt.toNat).1) (f &&& (coF σ (aI σ 20 c.toNatClampNeg) 0 (gI σ 103).toInt.toNat).1) ∧ FqT k σ (fs_31 σ c).1 ∧ Jq τ1 (fs_31 σ c).1 := by sorry
theorem fw_33 (hk : (aI σ 20 c.toNatClampNeg).toNatClampNeg = k) (h : Bw σ A t f) : Bw (fs_33 σ c).1 (neR σ c = 0) t t ∧ FqT k σ (fs_33 σ c).1 ∧ Jq σ (fs_33 σ c).1 ∧ aL (fs_33 σ c).1 98 k = (if aI σ 21 c.toNatClampNeg = 0 then allB else f) ∧ aI (fs_33 σ c).1 97 k = alR σ c ∧ aI (fs_33 σ c).1 95 k = 0 ∧ (fs_33 σ c).2 = aI σ 54 k := by sorry
theorem fw_35a (hk : (aI σ 20 c.toNatClampNeg).toNatClampNeg = k) (e : aI σ 95 k = 0) : fs_35 σ c = (σ, c + 1) := by sorry
theorem fw_35b (hk : (aI σ 20 c.toNatClampNeg).toNatClampNeg = k) (h : Bw σ A t f) (e : ¬ aI σ 95 k = 0) : ∃ τ1 : RS, τ1 = coS σ (aI σ 20 c.toNatClampNeg) 0 (gI σ 103).toInt.toNat ∧ Bw (fs_35 σ c).1 (aI σ 97 k = 0 ∨ ¬ (coF σ (aI σ 20 c.toNatClampNeg) 0 (gI σ 103).toInt.toNat).2.1 = 0) (aL σ 98 k &&& (coF σ (aI σ 20 c.toNatClampNeg) 0 (gI σ 103).toInt.toNat).1) (aL σ 98 k &&& (coF σ (aI σ 20 c.toNatClampNeg) 0 (gI σ 103).toInt.toNat).1) ∧ FqT k σ (fs_35 σ c).1 ∧ Jq τ1 (fs_35 σ c).1 ∧ (fs_35 σ c).2 = aI σ 55 k + 1 := by sorry
theorem fw_36 (hk : (aI σ 20 c.toNatClampNeg).toNatClampNeg = k) (h : Bw σ A t f) : ∃ τ1 : RS, τ1 = coS σ (aI σ 20 c.toNatClampNeg) 1 (gI σ 103).toInt.toNat ∧ Bw (fs_36 σ c).1 A ((t &&& f) &&& (coF σ (aI σ 20 c.toNatClampNeg) 1 (gI σ 103).toInt.toNat).1) ((t &&& f) &&& (coF σ (aI σ 20 c.toNatClampNeg) 1 (gI σ 103).toInt.toNat).1) ∧ FqT k σ (fs_36 σ c).1 ∧ Jq τ1 (fs_36 σ c).1 ∧ (¬ aI (fs_36 σ c).1 95 k = 0 ∧ aL (fs_36 σ c).1 98 k = aL σ 98 k ∧ aI (fs_36 σ c).1 97 k = aI σ 97 k) ∧ (fs_36 σ c).2 = aI σ 53 k + 1 := by sorry
theorem fw_37 (hk : (aI σ 20 c.toNatClampNeg).toNatClampNeg = k) (h : Bw σ A t f) : Bw (fs_37 σ c).1 True (t &&& f) (t &&& f) ∧ FqT k σ (fs_37 σ c).1 ∧ Jq σ (fs_37 σ c).1 ∧ aL (fs_37 σ c).1 96 k = t &&& f := by sorry
theorem fw_38 (hk : (aI σ 20 c.toNatClampNeg).toNatClampNeg = k) (h : Bw σ A t f) : Bw (fs_38 σ c).1 True ((t &&& f) &&& aL σ 96 k) ((t &&& f) &&& aL σ 96 k) ∧ FqT k σ (fs_38 σ c).1 ∧ Jq σ (fs_38 σ c).1 ∧ aL (fs_38 σ c).1 96 k = aL σ 96 k := by sorry
theorem fw_39 (hk : (aI σ 20 c.toNatClampNeg).toNatClampNeg = k) (h : Bw σ A t f) : Bw (fs_39 σ c).1 True ((t &&& f) &&& aL σ 96 k) ((t &&& f) &&& aL σ 96 k) ∧ FqT k σ (fs_39 σ c).1 ∧ Jq σ (fs_39 σ c).1 ∧ aL (fs_39 σ c).1 96 k = aL σ 96 k := by sorry
theorem fw_40 (hk : (aI σ 20 c.toNatClampNeg).toNatClampNeg = k) (h : Bw σ A t f) : ∃ τ1 : RS, τ1 = coS σ (aI σ 20 c.toNatClampNeg) 0 (gI σ 103).toInt.toNat ∧ Bw (fs_40 σ c).1 ((A ∨ ¬ 0 ≤ aI σ 59 k) ∨ ¬ (coF σ (aI σ 20 c.toNatClampNeg) 0 (gI σ 103).toInt.toNat).2.1 = 0) (((t &&& f) &&& (coF σ (aI σ 20 c.toNatClampNeg) 0 (gI σ 103).toInt.toNat).1) &&& (if 0 ≤ aI σ 59 k then allB else aL σ 96 k)) (((t &&& f) &&& (coF σ (aI σ 20 c.toNatClampNeg) 0 (gI σ 103).toInt.toNat).1) &&& (if 0 ≤ aI σ 59 k then allB else aL σ 96 k)) ∧ FqT k σ (fs_40 σ c).1 ∧ Jq τ1 (fs_40 σ c).1 := by sorry
theorem fw_42 (h : Bw σ A t f) : ∃ τ1 : RS, τ1 = coS σ (aI σ 20 c.toNatClampNeg) 0 (gI σ 103).toInt.toNat ∧ Bw (fs_42 σ c).1 (A ∨ ¬ (coF σ (aI σ 20 c.toNatClampNeg) 0 (gI σ 103).toInt.toNat).2.1 = 0) ((t &&& f) &&& (coF σ (aI σ 20 c.toNatClampNeg) 0 (gI σ 103).toInt.toNat).1) ((t &&& f) &&& (coF σ (aI σ 20 c.toNatClampNeg) 0 (gI σ 103).toInt.toNat).1) ∧ FqT k σ (fs_42 σ c).1 ∧ Jq τ1 (fs_42 σ c).1 := by sorry
theorem fw_50 (hk : (aI σ 20 c.toNatClampNeg).toNatClampNeg = k) (h : Bw σ A t f) : Bw (fs_50 σ c).1 A t f ∧ FqT k σ (fs_50 σ c).1 ∧ Jq σ (fs_50 σ c).1 ∧ aL (fs_50 σ c).1 99 k = t &&& f := by sorry
theorem fw_51 (hk : (aI σ 20 c.toNatClampNeg).toNatClampNeg = k) (h : Bw σ A t f) : Bw (fs_51 σ c).1 True (aL σ 99 k ||| (1 <<< ((aI σ 61 k).toInt64 &&& 63))) (aL σ 99 k ||| (1 <<< ((aI σ 61 k).toInt64 &&& 63))) ∧ FqT k σ (fs_51 σ c).1 ∧ Jq σ (fs_51 σ c).1 ∧ aL (fs_51 σ c).1 96 k = t &&& f ∧ (¬ aI (fs_51 σ c).1 95 k = 0 ↔ A) ∧ aL (fs_51 σ c).1 99 k = aL σ 99 k := by sorry
theorem fw_52a (hk : (aI σ 20 c.toNatClampNeg).toNatClampNeg = k) (h : Bw σ A t f) (e : ¬ 0 ≤ aI σ 57 k) : Bw (fs_52 σ c).1 True (aL σ 99 k) (aL σ 99 k) ∧ FqT k σ (fs_52 σ c).1 ∧ Jq σ (fs_52 σ c).1 ∧ aL (fs_52 σ c).1 96 k = t &&& f ∧ (¬ aI (fs_52 σ c).1 95 k = 0 ↔ A) := by sorry
theorem fw_52b (hk : (aI σ 20 c.toNatClampNeg).toNatClampNeg = k) (h : Bw σ A t f) (e : 0 ≤ aI σ 57 k) : Bw (fs_52 σ c).1 True (aL σ 99 k) (aL σ 99 k) ∧ FqT k σ (fs_52 σ c).1 ∧ Jq σ (fs_52 σ c).1 ∧ aL (fs_52 σ c).1 96 k = (t &&& f) &&& aL σ 96 k ∧ (¬ aI (fs_52 σ c).1 95 k = 0 ↔ (A ∨ ¬ aI σ 95 k = 0)) := by sorry
theorem fw_53a (hk : (aI σ 20 c.toNatClampNeg).toNatClampNeg = k) (h : Bw σ A t f) (e : aI σ 58 k < 0) : Bw (fs_53 σ c).1 (A ∨ ¬ aI σ 95 k = 0) ((t &&& f) &&& aL σ 96 k) ((t &&& f) &&& aL σ 96 k) ∧ FqT k σ (fs_53 σ c).1 ∧ Jq σ (fs_53 σ c).1 := by sorry
theorem fw_53b (hk : (aI σ 20 c.toNatClampNeg).toNatClampNeg = k) (h : Bw σ A t f) (e : ¬ aI σ 58 k < 0) : ∃ τ1 : RS, τ1 = enS σ (aI σ 20 c.toNatClampNeg) (gI σ 103).toInt.toNat ∧ Bw (fs_53 σ c).1 (A ∧ ¬ aI σ 95 k = 0) ((t &&& f) ||| aL σ 96 k) ((t &&& f) ||| aL σ 96 k) ∧ FqT k σ (fs_53 σ c).1 ∧ Jq τ1 (fs_53 σ c).1 := by sorry
/-- where an S begins, where it ends -/
def LwT (σ τ : RS) : Prop := FfR σ τ ∧ (aI τ 95 = aI σ 95 ∧ aL τ 96 = aL σ 96 ∧ aI τ 97 = aI σ 97 ∧ aL τ 98 = aL σ 98 ∧ aL τ 99 = aL σ 99) ∧ Jq σ τ
theorem fw_20 (h : Bw σ A t f) (a : A) {u : Nat} (hu : (aI σ 22 c.toNatClampNeg).toNatClampNeg = u) (e : aI σ 109 u = 0) : Bw (fs_20 σ c).1 A t f ∧ LwT σ (fs_20 σ c).1 ∧ (aI (fs_20 σ c).1 109 = upd (aI σ 109) u 1 ∧ aL (fs_20 σ c).1 110 = vp_updL (aL σ 110) u (t &&& f) ∧ aI (fs_20 σ c).1 111 = aI σ 111) ∧ (fs_20 σ c).2 = c + 1 := by sorry
theorem fw_45 (h : Bw σ A t f) {u : Nat} (hu : (aI σ 22 c.toNatClampNeg).toNatClampNeg = u) (e : 0 ≤ aI σ 20 c.toNatClampNeg) : Bw (fs_45 σ c).1 A t f ∧ LwT σ (fs_45 σ c).1 ∧ (aI (fs_45 σ c).1 109 = aI σ 109 ∧ aL (fs_45 σ c).1 110 = aL σ 110 ∧ aI (fs_45 σ c).1 111 = upd (aI σ 111) u (gI σ 92)) ∧ (fs_45 σ c).2 = c + 1 := by sorry
/-- a jump more -/
theorem jm_push {σ τ : RS} {K on c a : Int32} {b : Int64} {n : Nat} (hn : (gI σ 103).toInt = (n : Int)) (hn2 : n ≤ 5000) (hK : 0 ≤ K) (h103 : gI τ 103 = gI σ 103 + 1) (h104 : aI τ 104 = upd (aI σ 104) n K) (h105 : aI τ 105 = upd (aI σ 105) n on) (h106 : aI τ 106 = upd (aI σ 106) n c) (h107 : aI τ 107 = upd (aI σ 107) n a) (h108 : aL τ 108 = vp_updL (aL σ 108) n b) : jnS τ = jnS σ ++ [(K, on, c, a, b)] := by sorry
theorem fw_46 (h : Bw σ A t f) (a : A) {on : Int32} (ho : (aI σ 19 c.toNatClampNeg = 46 ∧ on = 0) ∨ (aI σ 19 c.toNatClampNeg = 47 ∧ on = 1)) {n : Nat} (hn : (gI σ 103).toInt = (n : Int)) (hn2 : n ≤ 5000) (hK : 0 ≤ aI σ 20 c.toNatClampNeg) : Bw (fs_46 σ c).1 False allB allB ∧ FqT k σ (fs_46 σ c).1 ∧ jnS (fs_46 σ c).1 = jnS σ ++ [(aI σ 20 c.toNatClampNeg, on, c, 1, t &&& f)] ∧ gI (fs_46 σ c).1 103 = gI σ 103 + 1 ∧ (fs_46 σ c).2 = c + 1 := by sorry
theorem fs_47e : fs_47 σ c = fs_46 σ c := rfl
end
/-! things of S's go up -/
def MoR (z : ZS) (a k b m : Nat) : Prop := (a ≤ b ∧ k ≤ m) ∧ ∀ i, a ≤ i → i < b → ((k : Int) ≤ thS z i ∧ thS z i ≤ (m : Int)) ∧ (OwK z i → thS z i < (m : Int) ∧ ∀ j, i < j → j < b → thS z i < thS z j)
section
variable {z : ZS} {a b c k m n : Nat}
theorem MoR.rf : MoR z a k a k := ⟨⟨Nat.le_refl _, Nat.le_refl _⟩, fun i h1 h2 => by omega⟩
theorem MoR.tr (h : MoR z a k b m) (g : MoR z b m c n) : MoR z a k c n := by sorry
/-- one with no thing of its own -/
theorem MoR.l1 (h : thS z a = (k : Int)) (o : ¬ OwK z a) : MoR z a k (a + 1) k := by sorry
/-- one with a thing of its own -/
theorem MoR.ow (h : thS z a = (k : Int)) (g : MoR z (a + 1) (k + 1) b m) : MoR z a k b m := by sorry
end
section
variable {N : Int → Int} {M : Int} {z : ZS} {St : SsT} {Rw : RsT} {lv : Int}
theorem ow_no {j : Nat} (h : kjS z j = 90 ∨ kjS z j = 91 ∨ kjS z j = 93 ∨ kjS z j = 94 ∨ kjS z j = 4 ∨ kjS z j = 92 ∨ kjS z j = 62 ∨ kjS z j = 63 ∨ kjS z j = 64 ∨ kjS z j = 65 ∨ kjS z j = 66 ∨ kjS z j = 67) : ¬ OwK z j := by sorry
theorem mo_va {j k : Nat} {h : Int × Int × Int × Int} {l m : List ItZ} (v : VaD z j h (k : Int) l m) (hk : h.1 = 91 ∨ h.1 = 93) : MoR z j k (j + 1) k := by sorry
theorem mo_fx {a : Int} : ∀ {L : List Nat} {p q : Ps}, FxD z lv a L p q → MoR z p.1 p.2.1 q.1 q.2.1 := by sorry
theorem mo_fi {j : Nat} {o : Int} {p q : Ps} (h : FiD z lv j o p q) : MoR z p.1 p.2.1 q.1 q.2.1 := by sorry
theorem mo_row {sw : Int} {k : Nat} {a : Int} (hS : ∀ a p q, St a p q → MoR z p.1 p.2.1 q.1 q.2.1) : ∀ {L : List Nat} {p q : Ps}, RwD St z lv sw k a L p q → MoR z p.1 p.2.1 q.1 q.2.1 := by sorry
theorem mo_bk {lv' : Int} {a : Int} (hR : ∀ sw k a L p q, Rw sw k a L p q → MoR z p.1 p.2.1 q.1 q.2.1) {p q : Ps} (h : BkD Rw z lv' a p q) : MoR z p.1 p.2.1 q.1 q.2.1 := by sorry
theorem mo_st : ∀ n a p q, StD N M z n a p q → MoR z p.1 p.2.1 q.1 q.2.1 := by sorry
theorem MoR.x1 {a k b m : Nat} (h : thS z a = ((k + 1 : Nat) : Int)) (o : ¬ OwK z a) (g : MoR z (a + 1) (k + 1) b m) : MoR z a k b m := by sorry
theorem mo_pr : ∀ (L : List Nat) (M : Nat) (p q : Ps), PrD N z L M p q → MoR z p.1 p.2.1 q.1 q.2.1 := by sorry
/-- the whole program -/
theorem mon_pr {L : List Nat} (h : PrD N z L 0 (0, 0, []) (psM z)) : MonT z ∧ ∀ i, i < snM z → 0 ≤ thS z i ∧ thS z i ≤ (tnM z : Int) := by sorry
end
/-! which things codes name: by S's -/
def ThP (P : Int → Prop) : List ItZ → Int × Int × Int × Int × Int → Prop := fun _ y => thO y.1 = true → P y.2.1
def TaB (P : Int → Prop) (l l' : List ItZ) : Prop := l <:+ l' ∧ AlB (ThP P) l l'
section
variable {P Q : Int → Prop} {l l' l'' m : List ItZ} {o a b t : Int}
theorem TaB.rf : TaB P l l := ⟨List.suffix_rfl, alb_rf⟩
theorem TaB.tr (h : TaB P l l') (g : TaB P l' l'') : TaB P l l'' := ⟨h.1.trans g.1, (alb_tr h.1 g.1).mpr ⟨h.2, g.2⟩⟩
theorem TaB.mo (h : TaB P l l') (q : ∀ x, P x → Q x) : TaB Q l l' := ⟨h.1, fun y m a b o => q _ (h.2 y m a b o)⟩
theorem TaB.r {y : Int × Int × Int × Int × Int} (h : TaB P l l') (q : thO y.1 = true → P y.2.1) : TaB P l (.inr y :: l') := by sorry
theorem TaB.ci (h : TaB P l l') (q : thO o = true → P a) : TaB P l (cIy o a b t :: l') := h.r q
theorem TaB.ce (h : TaB P l l') (q : thO o = true → P a) : TaB P l (cEy o a b t m :: l') := h.r q
theorem TaB.c0 (h : TaB P l l') (q : thO o = false) : TaB P l (cIy o a b t :: l') := h.r (fun z => absurd (q.symm.trans z) (by decide))
theorem TaB.e0 (h : TaB P l l') (q : thO o = false) : TaB P l (cEy o a b t m :: l') := h.r (fun z => absurd (q.symm.trans z) (by decide))
theorem ta_xs (h : XsR l l') : TaB P l l' := ⟨h.ig, alb_xs h⟩
theorem TaB.x {r : XrZ} {lv : Int} (h : TaB P l l') (g : ExX lv l' l'' r) : TaB P l l'' := h.tr (ta_xs g.xs)
theorem TaB.il {x : XrZ} (h : TaB P l l') : TaB P l (.inl x :: l') := h.tr (ta_xs ⟨[x], rfl⟩)
theorem ta_in {t' : List ItZ} (h : ∀ y, Sum.inr y ∈ t' → thO y.1 = true → P y.2.1) : TaB P l (t' ++ l) := by sorry
theorem TaB.pg {p q : Ps} (h : TaB P l p.2.2) (g : PgD (-1) p q) (r : ∀ x : Int, (p.2.1 : Int) ≤ x → x < (q.2.1 : Int) → P x) (n : P (-1)) : TaB P l q.2.2 := by sorry
end
section
variable {P : Int → Prop} {z : ZS} {lv : Int} {l : List ItZ}
theorem TaB.va {j : Nat} {h : Int × Int × Int × Int} {th : Int} {l' m : List ItZ} (g : TaB P l l') (v : VaD z j h th l' m) : TaB P l m := by sorry
theorem TaB.fx {a : Int} : ∀ {L : List Nat} {p q : Ps}, FxD z lv a L p q → TaB P l p.2.2 → TaB P l q.2.2 := by sorry
theorem TaB.fi {j : Nat} {o : Int} {p q : Ps} (g : TaB P l p.2.2) (h : FiD z lv j o p q) : TaB P l q.2.2 := by sorry
theorem TaB.fc {k : Nat} {t x : Int} {l' m : List ItZ} (g : TaB P l l') (h : FcD lv k t x l' m) (hk : P (k : Int)) : TaB P l m := by sorry
end
/-- codes that name things of this S lie in it -/
def CtX (z : ZS) (p q : Ps) : Prop := ∀ y l, (.inr y :: l) <:+ z.2.1 → thO y.1 = true → (p.2.1 : Int) ≤ y.2.1 → y.2.1 < (q.2.1 : Int) → p.2.2.length ≤ l.length ∧ l.length < q.2.2.length
theorem sf_lt {x : ItZ} {l m L : List ItZ} (h : (x :: l) <:+ L) (g : m <:+ L) (q : l.length < m.length) : (x :: l) <:+ m := by sorry
section
variable {z : ZS} {p q p1 q1 : Ps} {k : Nat} {a : Nat}
theorem CtX.in_ (h : CtX z p q) (hq : q.2.2 <:+ z.2.1) (h1 : p.2.1 ≤ p1.2.1) (h2 : q1.2.1 ≤ q.2.1) (a : TaB (fun x => x < (p1.2.1 : Int) ∨ (q1.2.1 : Int) ≤ x) p.2.2 p1.2.2) (c : p1.2.2 <:+ q1.2.2) (b : TaB (fun x => x < (p1.2.1 : Int) ∨ (q1.2.1 : Int) ≤ x) q1.2.2 q.2.2) : CtX z p1 q1 := by sorry
theorem pq_ta {P : Int → Prop} {k : Int} {l l' : List ItZ} (h : TaB P l l') (n : ¬ P k) : pqZ a k l' = pqZ a k l ∧ dfZ k l' = dfZ k l := by sorry
theorem pq_nil {k : Int} {l : List ItZ} (h : ∀ y m, (.inr y :: m) <:+ l → thO y.1 = true → ¬ y.2.1 = k) : pqZ a k l = -2 ∧ dfZ k l = -2 := by sorry
/-- things of this S: in the whole, ahead of it -/
theorem CtX.pq (h : CtX z p q) (hq : q.2.2 <:+ z.2.1) (h1 : p.2.1 ≤ k) (h2 : k < q.2.1) : (pqZ a (k : Int) z.2.1 = pqZ a (k : Int) q.2.2 ∧ dfZ (k : Int) z.2.1 = dfZ (k : Int) q.2.2) ∧ (p.2.2 <:+ q.2.2 → pqZ a (k : Int) p.2.2 = -2 ∧ dfZ (k : Int) p.2.2 = -2) := by sorry
end
/-- S's inside of what was read, whose things lie in them -/
def StX (z : ZS) (St : SsT) : SsT := fun a p q => (St a p q ∧ q.1 ≤ snM z ∧ q.2.2 <:+ z.2.1) ∧ CtX z p q
section
variable {z : ZS} {St : SsT} {lv a : Int} {k : Nat}
theorem cs_ta {P : Int → Prop} {p p1 : Ps} (h : CsD z lv k a p p1) (hk : P (k : Int)) : TaB P p.2.2 p1.2.2 ∧ p1.1 = p.1 + 1 ∧ p1.2.1 = p.2.1 := by sorry
theorem rw_ta {sw : Int} (hS : ∀ a p q, St a p q → PgD (-1) p q ∧ p.1 < q.1) : ∀ (L : List Nat) (p q : Ps), RwD St z lv sw k a L p q → TaB (fun x => ((p.2.1 : Int) ≤ x ∧ x < (q.2.1 : Int)) ∨ x = -1 ∨ (sw = 1 ∧ x = (k : Int))) p.2.2 q.2.2 ∧ p.1 ≤ q.1 ∧ p.2.1 ≤ q.2.1 := by sorry
theorem rw_x {sw : Int} (hS : ∀ a p q, St a p q → PgD (-1) p q ∧ p.1 < q.1) : ∀ (L : List Nat) (p q : Ps), RwD St z lv sw k a L p q → (sw = 1 → k < p.2.1) → CtX z p q → q.1 ≤ snM z → q.2.2 <:+ z.2.1 → RwD (StX z St) z lv sw k a L p q := by sorry
theorem bk_x {lv' : Int} (hS : ∀ a p q, St a p q → PgD (-1) p q ∧ p.1 < q.1) {p q : Ps} (h : BkD (RwD St z lv) z lv' a p q) (hc : CtX z p q) (hz : q.1 ≤ snM z) (hq : q.2.2 <:+ z.2.1) : BkD (RwD (StX z St) z lv) z lv' a p q := by sorry
theorem bk_ta {lv' : Int} (hS : ∀ a p q, St a p q → PgD (-1) p q ∧ p.1 < q.1) {p q : Ps} (h : BkD (RwD St z lv) z lv' a p q) : TaB (fun x => ((p.2.1 : Int) ≤ x ∧ x < (q.2.1 : Int)) ∨ x = -1) p.2.2 q.2.2 ∧ p.1 + 1 ≤ q.1 ∧ p.2.1 ≤ q.2.1 := by sorry
end
/-! the reference's flow: one code of an S in a run -/
/-- what stands fixed while flow goes -/
def EnF (σ : RS) (C : CxT) (z : ZS) (T : TbT) : Prop := FxE σ C z T ∧ (∀ a, 52 ≤ a → a ≤ 58 → ∀ k : Nat, k < tnM z → (aI σ a k).toInt = pqZ a (k : Int) z.2.1) ∧ (∀ k : Nat, k < tnM z → (aI σ 59 k).toInt = dfZ (k : Int) z.2.1) ∧ ∀ y l, (.inr y :: l) <:+ z.2.1 → thO y.1 = true → (0 ≤ y.2.1 ∧ y.2.1 < (tnM z : Int)) ∧ (y.1 = 50 → (aI σ 51 y.2.1.toNat).toInt = (l.length : Int)) ∧ (y.1 = 51 → (aI σ 61 y.2.1.toNat).toInt = -2 - y.2.2.2.2)
/-- a code -/
def IcY (σ : RS) (l : List ItZ) (y : Int × Int × Int × Int × Int) : Prop := (aI σ 19 (plI l).toNatClampNeg).toInt = y.1 ∧ (aI σ 20 (plI l).toNatClampNeg).toInt = y.2.1 ∧ (aI σ 21 (plI l).toNatClampNeg).toInt = y.2.2.1 ∧ (aI σ 22 (plI l).toNatClampNeg).toInt = y.2.2.2.1
/-- no jump is touched -/
def NxT (k : Nat) (σ Y : RS) : Prop := FqT k σ Y ∧ jnS Y = jnS σ ∧ gI Y 103 = gI σ 103
section
variable {σ τ υ : RS} {C : CxT} {z : ZS} {T : TbT} {l m : List ItZ} {x : ItZ} {y : Int × Int × Int × Int × Int} {k : Nat} {M : Int32}
theorem EnF.fr (h : EnF σ C z T) (f : FfR σ τ) : EnF τ C z T := by sorry
theorem ic_at (E : FxE σ C z T) (hs : (.inr y :: l) <:+ z.2.1) : IcY σ l y := by sorry
theorem NxT.rf : NxT k σ σ := ⟨FqT.rf, rfl, rfl⟩
theorem NxT.tr (h : NxT k σ τ) (g : NxT k τ υ) : NxT k σ υ := ⟨h.1.tr g.1, g.2.1.trans h.2.1, g.2.2.trans h.2.2⟩
theorem FqT.la {u p : Int32} : FqT k σ (laS σ u p) := by sorry
theorem Jq.la {u p : Int32} : Jq σ (laS σ u p) := ⟨rfl, rfl, rfl, rfl, rfl, rfl⟩
theorem nx_la {u p : Int32} : NxT k σ (laS σ u p) := ⟨FqT.la, Jq.la.jn, rfl⟩
theorem nx_of {u p : Int32} (f : FqT k (laS σ u p) τ) (j : Jq (laS σ u p) τ) : NxT k σ τ := nx_la.tr ⟨f, j.jn, j.1⟩
theorem Bw.la {A : Prop} {t f : Int64} {u p : Int32} (h : Bw σ A t f) : Bw (laS σ u p) A t f := h
/-- no method ends there -/
theorem no_54 (E : FxE σ C z T) (hs : (x :: l) <:+ z.2.1) (hx : ∀ y, x = .inr y → ¬ y.1 = 54) : ¬ (¬ plI (x :: l) ≤ 0 ∧ aI σ 19 (plI (x :: l) - 1).toNatClampNeg = 54) := by sorry
/-- a code of an S that tells no ERROR -/
theorem go_c {c : Int32} (hc : c < gI σ 18) (hr : RnR τ σ c M) (hb : ¬ BdF σ) (hy : 19 ≤ (aI σ 19 c.toNatClampNeg).toInt ∧ ¬ (aI σ 19 c.toNatClampNeg).toInt = 20 ∧ ¬ (aI σ 19 c.toNatClampNeg).toInt = 54) : ∃ p, ¬ BdF (fsS (laS σ 0 p) c).1 ∧ ∀ d, (fsS (laS σ 0 p) c).2 = d → ¬ (¬ d ≤ 0 ∧ aI σ 19 (d - 1).toNatClampNeg = 54) → RnR τ (fsS (laS σ 0 p) c).1 d M := by sorry
theorem go (E : FxE σ C z T) (hs : (.inr y :: l) <:+ z.2.1) (hr : RnR τ σ (plI l) M) (hb : ¬ BdF σ) (hy : 19 ≤ y.1 ∧ ¬ y.1 = 20 ∧ ¬ y.1 = 54) : ∃ p, ¬ BdF (fsS (laS σ 0 p) (plI l)).1 ∧ IcY (laS σ 0 p) l y ∧ ((fsS (laS σ 0 p) (plI l)).2 = plI l + 1 → RnR τ (fsS (laS σ 0 p) (plI l)).1 (plI (.inr y :: l)) M) ∧ ∀ d, (fsS (laS σ 0 p) (plI l)).2 = d → ¬ (¬ d ≤ 0 ∧ aI σ 19 (d - 1).toNatClampNeg = 54) → RnR τ (fsS (laS σ 0 p) (plI l)).1 d M := by sorry
/-- a code that does nothing -/
theorem go_no (E : FxE σ C z T) (hs : (.inr y :: l) <:+ z.2.1) (hr : RnR τ σ (plI l) M) (hb : ¬ BdF σ) (hy : y.1 = 26 ∨ y.1 = 29 ∨ y.1 = 32 ∨ y.1 = 34 ∨ y.1 = 41) {A : Prop} {t f : Int64} (h : Bw σ A t f) : ∃ Y, RnR τ Y (plI (.inr y :: l)) M ∧ ¬ BdF Y ∧ Bw Y A t f ∧ NxT k σ Y ∧ ∀ i, aI Y 95 i = aI σ 95 i ∧ aL Y 96 i = aL σ 96 i ∧ aI Y 97 i = aI σ 97 i ∧ aL Y 98 i = aL σ 98 i ∧ aL Y 99 i = aL σ 99 i := by sorry
theorem f2_25 {c : Int32} : (fs_25 σ c).2 = c + 1 := by sorry
theorem f2_27 {c : Int32} : (fs_27 σ c).2 = c + 1 := by sorry
theorem f2_28 {c : Int32} : (fs_28 σ c).2 = c + 1 := by sorry
theorem f2_30 {c : Int32} : (fs_30 σ c).2 = c + 1 := by sorry
theorem f2_31 {c : Int32} : (fs_31 σ c).2 = c + 1 := by sorry
theorem f2_40 {c : Int32} : (fs_40 σ c).2 = c + 1 := by sorry
theorem f2_42 {c : Int32} : (fs_42 σ c).2 = c + 1 := by sorry
theorem f2_22 {c : Int32} : (fs_22 σ c).2 = c + 1 := by sorry
theorem f2_52 {c : Int32} : (fs_52 σ c).2 = c + 1 := by sorry
theorem f2_53 {c : Int32} : (fs_53 σ c).2 = c + 1 := by sorry
end
/-! the reference's flow: each code of an S in a run -/
/-- jumps since then -/
def JsH (z : ZS) (c0 c1 : Int) (J0 : List JfZ) (σ : RS) (J : List JmZ) : Prop := ∃ K, jnS σ = J0 ++ K ∧ JrR z c0 c1 K J ∧ TgO z J
/-- S j with thing k -/
def CmH (z : ZS) (j k : Nat) : Prop := MonT z ∧ j < snM z ∧ OwK z j ∧ thS z j = (k : Int)
section
variable {σ τ υ : RS} {C : CxT} {z : ZS} {T : TbT} {l m : List ItZ} {k j : Nat} {M : Int32} {A : Prop} {u v : Int64} {b t e : Int} {J0 : List JfZ} {J : List JmZ} {c0 c1 : Int} {o : Bool}
theorem JsH.q (h : JsH z c0 c1 J0 σ J) (q : jnS τ = jnS σ) : JsH z c0 c1 J0 τ J := by sorry
theorem TgO.cr {i : Int} (h : TgO z J) : TgO z (cmR i o J) := fun y hy => h y (cmR_m hy).1
theorem cm_v (H : CmH z j k) {K : Int32} (hK : K.toInt = (k : Int)) {c : Int} (hoj : OjR z j c J0) (hJ : JsH z c0 c1 J0 σ J) : (coF σ K (onI o) (gI σ 103).toInt.toNat).1 = cmB j o J ∧ (¬ (coF σ K (onI o) (gI σ 103).toInt.toNat).2.1 = 0 ↔ cmA j o J = true) ∧ JsH z c0 c1 J0 (coS σ K (onI o) (gI σ 103).toInt.toNat) (cmR j o J) := by sorry
theorem go_21 {a : Int} (E : FxE σ C z T) (hs : (.inr (21, a, b, t, e) :: l) <:+ z.2.1) (hr : RnR τ σ (plI l) M) (hb : ¬ BdF σ) (h : Bw σ A u v) : ∃ Y, (RnR τ Y (plI (.inr (21, a, b, t, e) :: l)) M ∧ ¬ BdF Y) ∧ Bw Y A (u &&& v) (u &&& v) ∧ NxT k σ Y := by sorry
theorem go_23 (E : FxE σ C z T) (hs : (.inr (23, (k : Int), b, t, e) :: l) <:+ z.2.1) (hr : RnR τ σ (plI l) M) (hb : ¬ BdF σ) (h : Bw σ A u v) : ∃ Y, (RnR τ Y (plI (.inr (23, (k : Int), b, t, e) :: l)) M ∧ ¬ BdF Y) ∧ Bw Y True u u ∧ NxT k σ Y ∧ aL Y 98 k = v := by sorry
theorem go_24 (E : FxE σ C z T) (hs : (.inr (24, (k : Int), b, t, e) :: l) <:+ z.2.1) (hr : RnR τ σ (plI l) M) (hb : ¬ BdF σ) (h : Bw σ A u v) : ∃ Y, (RnR τ Y (plI (.inr (24, (k : Int), b, t, e) :: l)) M ∧ ¬ BdF Y) ∧ Bw Y True (aL σ 98 k) (aL σ 98 k) ∧ NxT k σ Y ∧ aL Y 96 k = u &&& v ∧ (¬ aI Y 95 k = 0 ↔ A) := by sorry
theorem go_25a (E : FxE σ C z T) (hs : (.inr (25, (k : Int), b, t, e) :: l) <:+ z.2.1) (hr : RnR τ σ (plI l) M) (hb : ¬ BdF σ) (h : Bw σ A u v) (he : aI σ 56 k < 0) : ∃ Y, (RnR τ Y (plI (.inr (25, (k : Int), b, t, e) :: l)) M ∧ ¬ BdF Y) ∧ Bw Y True ((u &&& v) &&& aL σ 98 k) ((u &&& v) &&& aL σ 98 k) ∧ NxT k σ Y := by sorry
theorem go_25b (E : FxE σ C z T) (hs : (.inr (25, (k : Int), b, t, e) :: l) <:+ z.2.1) (hr : RnR τ σ (plI l) M) (hb : ¬ BdF σ) (h : Bw σ A u v) (he : ¬ aI σ 56 k < 0) : ∃ Y, (RnR τ Y (plI (.inr (25, (k : Int), b, t, e) :: l)) M ∧ ¬ BdF Y) ∧ Bw Y (A ∨ ¬ aI σ 95 k = 0) ((u &&& v) &&& aL σ 96 k) ((u &&& v) &&& aL σ 96 k) ∧ NxT k σ Y := by sorry
theorem go_27 (E : FxE σ C z T) (hs : (.inr (27, (k : Int), b, t, e) :: l) <:+ z.2.1) (hr : RnR τ σ (plI l) M) (hb : ¬ BdF σ) (h : Bw σ A u v) {P0 P1 : Prop} (hal : (alR σ (plI l) = 0 ↔ P1) ∧ (neR σ (plI l) = 0 ↔ P0)) : ∃ Y, (RnR τ Y (plI (.inr (27, (k : Int), b, t, e) :: l)) M ∧ ¬ BdF Y) ∧ Bw Y P0 u u ∧ NxT k σ Y ∧ aL Y 98 k = v ∧ (aI Y 97 k = 0 ↔ P1) := by sorry
theorem go_28 (E : FxE σ C z T) (hs : (.inr (28, (k : Int), b, t, e) :: l) <:+ z.2.1) (hr : RnR τ σ (plI l) M) (hb : ¬ BdF σ) (h : Bw σ A u v) (H : CmH z j k) {c : Int} (hoj : OjR z j c J0) (hJ : JsH z c0 c1 J0 σ J) {P1 : Prop} (hal : aI σ 97 k = 0 ↔ P1) : ∃ Y, (RnR τ Y (plI (.inr (28, (k : Int), b, t, e) :: l)) M ∧ ¬ BdF Y) ∧ Bw Y (P1 ∨ cmA j false (cmR j true J) = true) (aL σ 98 k &&& cmB j false (cmR j true J)) (aL σ 98 k &&& cmB j false (cmR j true J)) ∧ (FqT k σ Y ∧ gI Y 103 = gI σ 103) ∧ JsH z c0 c1 J0 Y (cmR j false (cmR j true J)) := by sorry
theorem go_30 (E : FxE σ C z T) (hs : (.inr (30, (k : Int), b, t, e) :: l) <:+ z.2.1) (hr : RnR τ σ (plI l) M) (hb : ¬ BdF σ) (h : Bw σ A u v) (H : CmH z j k) {c : Int} (hoj : OjR z j c J0) (hJ : JsH z c0 c1 J0 σ J) : ∃ Y, (RnR τ Y (plI (.inr (30, (k : Int), b, t, e) :: l)) M ∧ ¬ BdF Y) ∧ Bw Y A ((u &&& v) &&& cmB j true J) ((u &&& v) &&& cmB j true J) ∧ (FqT k σ Y ∧ gI Y 103 = gI σ 103) ∧ JsH z c0 c1 J0 Y (cmR j true J) ∧ (¬ aI Y 95 k = 0 ↔ (A ∨ cmA j true J = true)) := by sorry
theorem go_31 (E : FxE σ C z T) (hs : (.inr (31, (k : Int), b, t, e) :: l) <:+ z.2.1) (hr : RnR τ σ (plI l) M) (hb : ¬ BdF σ) (h : Bw σ A u v) (H : CmH z j k) {c : Int} (hoj : OjR z j c J0) (hJ : JsH z c0 c1 J0 σ J) {P1 : Prop} (hal : alR σ (plI l) = 0 ↔ P1) : ∃ Y, (RnR τ Y (plI (.inr (31, (k : Int), b, t, e) :: l)) M ∧ ¬ BdF Y) ∧ Bw Y ((¬ aI σ 95 k = 0 ∧ P1) ∨ cmA j false J = true) (v &&& cmB j false J) (v &&& cmB j false J) ∧ (FqT k σ Y ∧ gI Y 103 = gI σ 103) ∧ JsH z c0 c1 J0 Y (cmR j false J) := by sorry
theorem go_33 (E : FxE σ C z T) (hs : (.inr (33, (k : Int), b, t, e) :: l) <:+ z.2.1) (hr : RnR τ σ (plI l) M) (hb : ¬ BdF σ) (h : Bw σ A u v) {P0 P1 : Prop} (hal : (alR σ (plI l) = 0 ↔ P1) ∧ (neR σ (plI l) = 0 ↔ P0)) {w : Int64} {L : List ItZ} {x : ItZ} (hw : (if b = 0 then allB else v) = w) (hL : (x :: L) <:+ z.2.1) (hx : ∀ y, x = .inr y → ¬ y.1 = 54) (hd : aI σ 54 k = plI (x :: L)) : ∃ Y, (RnR τ Y (plI (x :: L)) M ∧ ¬ BdF Y) ∧ Bw Y P0 u u ∧ NxT k σ Y ∧ aL Y 98 k = w ∧ (aI Y 97 k = 0 ↔ P1) ∧ aI Y 95 k = 0 := by sorry
theorem go_35a (E : FxE σ C z T) (hs : (.inr (35, (k : Int), b, t, e) :: l) <:+ z.2.1) (hr : RnR τ σ (plI l) M) (hb : ¬ BdF σ) (h : Bw σ A u v) (he : aI σ 95 k = 0) : ∃ Y, (RnR τ Y (plI (.inr (35, (k : Int), b, t, e) :: l)) M ∧ ¬ BdF Y) ∧ Bw Y A u v ∧ NxT k σ Y ∧ ∀ i, aI Y 95 i = aI σ 95 i ∧ aL Y 96 i = aL σ 96 i ∧ aI Y 97 i = aI σ 97 i ∧ aL Y 98 i = aL σ 98 i ∧ aL Y 99 i = aL σ 99 i := by sorry
theorem go_35b (E : FxE σ C z T) (hs : (.inr (35, (k : Int), b, t, e) :: l) <:+ z.2.1) (hr : RnR τ σ (plI l) M) (hb : ¬ BdF σ) (h : Bw σ A u v) (H : CmH z j k) {c : Int} (hoj : OjR z j c J0) (hJ : JsH z c0 c1 J0 σ J) {P1 : Prop} (hal : aI σ 97 k = 0 ↔ P1) (he : ¬ aI σ 95 k = 0) {L : List ItZ} {x : ItZ} (hL : (x :: L) <:+ z.2.1) (hx : ∀ y, x = .inr y → ¬ y.1 = 54) (hd : aI σ 55 k = plI L) : ∃ Y, (RnR τ Y (plI (x :: L)) M ∧ ¬ BdF Y) ∧ Bw Y (P1 ∨ cmA j false J = true) (aL σ 98 k &&& cmB j false J) (aL σ 98 k &&& cmB j false J) ∧ (FqT k σ Y ∧ gI Y 103 = gI σ 103) ∧ JsH z c0 c1 J0 Y (cmR j false J) := by sorry
theorem go_36 (E : FxE σ C z T) (hs : (.inr (36, (k : Int), b, t, e) :: l) <:+ z.2.1) (hr : RnR τ σ (plI l) M) (hb : ¬ BdF σ) (h : Bw σ A u v) (H : CmH z j k) {c : Int} (hoj : OjR z j c J0) (hJ : JsH z c0 c1 J0 σ J) {L : List ItZ} {x : ItZ} (hL : (x :: L) <:+ z.2.1) (hx : ∀ y, x = .inr y → ¬ y.1 = 54) (hd : aI σ 53 k = plI L) : ∃ Y, (RnR τ Y (plI (x :: L)) M ∧ ¬ BdF Y) ∧ Bw Y A ((u &&& v) &&& cmB j true J) ((u &&& v) &&& cmB j true J) ∧ (FqT k σ Y ∧ gI Y 103 = gI σ 103) ∧ JsH z c0 c1 J0 Y (cmR j true J) ∧ ¬ aI Y 95 k = 0 ∧ aL Y 98 k = aL σ 98 k ∧ aI Y 97 k = aI σ 97 k := by sorry
theorem go_37 (E : FxE σ C z T) (hs : (.inr (37, (k : Int), b, t, e) :: l) <:+ z.2.1) (hr : RnR τ σ (plI l) M) (hb : ¬ BdF σ) (h : Bw σ A u v) : ∃ Y, (RnR τ Y (plI (.inr (37, (k : Int), b, t, e) :: l)) M ∧ ¬ BdF Y) ∧ Bw Y True (u &&& v) (u &&& v) ∧ NxT k σ Y ∧ aL Y 96 k = u &&& v := by sorry
theorem go_38 (E : FxE σ C z T) (hs : (.inr (38, (k : Int), b, t, e) :: l) <:+ z.2.1) (hr : RnR τ σ (plI l) M) (hb : ¬ BdF σ) (h : Bw σ A u v) : ∃ Y, (RnR τ Y (plI (.inr (38, (k : Int), b, t, e) :: l)) M ∧ ¬ BdF Y) ∧ Bw Y True ((u &&& v) &&& aL σ 96 k) ((u &&& v) &&& aL σ 96 k) ∧ NxT k σ Y ∧ aL Y 96 k = aL σ 96 k := by sorry
theorem go_39 (E : FxE σ C z T) (hs : (.inr (39, (k : Int), b, t, e) :: l) <:+ z.2.1) (hr : RnR τ σ (plI l) M) (hb : ¬ BdF σ) (h : Bw σ A u v) : ∃ Y, (RnR τ Y (plI (.inr (39, (k : Int), b, t, e) :: l)) M ∧ ¬ BdF Y) ∧ Bw Y True ((u &&& v) &&& aL σ 96 k) ((u &&& v) &&& aL σ 96 k) ∧ NxT k σ Y ∧ aL Y 96 k = aL σ 96 k := by sorry
theorem go_40 (E : FxE σ C z T) (hs : (.inr (40, (k : Int), b, t, e) :: l) <:+ z.2.1) (hr : RnR τ σ (plI l) M) (hb : ¬ BdF σ) (h : Bw σ A u v) (H : CmH z j k) {c : Int} (hoj : OjR z j c J0) (hJ : JsH z c0 c1 J0 σ J) : ∃ Y, (RnR τ Y (plI (.inr (40, (k : Int), b, t, e) :: l)) M ∧ ¬ BdF Y) ∧ Bw Y ((A ∨ ¬ 0 ≤ aI σ 59 k) ∨ cmA j false J = true) (((u &&& v) &&& cmB j false J) &&& (if 0 ≤ aI σ 59 k then allB else aL σ 96 k)) (((u &&& v) &&& cmB j false J) &&& (if 0 ≤ aI σ 59 k then allB else aL σ 96 k)) ∧ (FqT k σ Y ∧ gI Y 103 = gI σ 103) ∧ JsH z c0 c1 J0 Y (cmR j false J) := by sorry
theorem go_42 (E : FxE σ C z T) (hs : (.inr (42, (k : Int), b, t, e) :: l) <:+ z.2.1) (hr : RnR τ σ (plI l) M) (hb : ¬ BdF σ) (h : Bw σ A u v) (H : CmH z j k) {c : Int} (hoj : OjR z j c J0) (hJ : JsH z c0 c1 J0 σ J) : ∃ Y, (RnR τ Y (plI (.inr (42, (k : Int), b, t, e) :: l)) M ∧ ¬ BdF Y) ∧ Bw Y (A ∨ cmA j false J = true) ((u &&& v) &&& cmB j false J) ((u &&& v) &&& cmB j false J) ∧ (FqT k σ Y ∧ gI Y 103 = gI σ 103) ∧ JsH z c0 c1 J0 Y (cmR j false J) := by sorry
theorem go_48 {a : Int} (E : FxE σ C z T) (hs : (.inr (48, a, b, t, e) :: l) <:+ z.2.1) (hr : RnR τ σ (plI l) M) (hb : ¬ BdF σ) (h : Bw σ A u v) : ∃ Y, (RnR τ Y (plI (.inr (48, a, b, t, e) :: l)) M ∧ ¬ BdF Y) ∧ Bw Y False allB allB ∧ NxT k σ Y := by sorry
theorem go_49 {a : Int} (E : FxE σ C z T) (hs : (.inr (49, a, b, t, e) :: l) <:+ z.2.1) (hr : RnR τ σ (plI l) M) (hb : ¬ BdF σ) (h : Bw σ A u v) : ∃ Y, (RnR τ Y (plI (.inr (49, a, b, t, e) :: l)) M ∧ ¬ BdF Y) ∧ Bw Y False allB allB ∧ NxT k σ Y := by sorry
theorem go_50 (E : FxE σ C z T) (hs : (.inr (50, (k : Int), b, t, e) :: l) <:+ z.2.1) (hr : RnR τ σ (plI l) M) (hb : ¬ BdF σ) (h : Bw σ A u v) : ∃ Y, (RnR τ Y (plI (.inr (50, (k : Int), b, t, e) :: l)) M ∧ ¬ BdF Y) ∧ Bw Y A u v ∧ NxT k σ Y ∧ aL Y 99 k = u &&& v := by sorry
theorem go_51 (E : FxE σ C z T) (hs : (.inr (51, (k : Int), b, t, e) :: l) <:+ z.2.1) (hr : RnR τ σ (plI l) M) (hb : ¬ BdF σ) (h : Bw σ A u v) : ∃ Y, (RnR τ Y (plI (.inr (51, (k : Int), b, t, e) :: l)) M ∧ ¬ BdF Y) ∧ Bw Y True (aL σ 99 k ||| (1 <<< ((aI σ 61 k).toInt64 &&& 63))) (aL σ 99 k ||| (1 <<< ((aI σ 61 k).toInt64 &&& 63))) ∧ NxT k σ Y ∧ aL Y 96 k = u &&& v ∧ (¬ aI Y 95 k = 0 ↔ A) ∧ aL Y 99 k = aL σ 99 k := by sorry
theorem go_52a (E : FxE σ C z T) (hs : (.inr (52, (k : Int), b, t, e) :: l) <:+ z.2.1) (hr : RnR τ σ (plI l) M) (hb : ¬ BdF σ) (h : Bw σ A u v) (he : ¬ 0 ≤ aI σ 57 k) : ∃ Y, (RnR τ Y (plI (.inr (52, (k : Int), b, t, e) :: l)) M ∧ ¬ BdF Y) ∧ Bw Y True (aL σ 99 k) (aL σ 99 k) ∧ NxT k σ Y ∧ aL Y 96 k = u &&& v ∧ (¬ aI Y 95 k = 0 ↔ A) := by sorry
theorem go_52b (E : FxE σ C z T) (hs : (.inr (52, (k : Int), b, t, e) :: l) <:+ z.2.1) (hr : RnR τ σ (plI l) M) (hb : ¬ BdF σ) (h : Bw σ A u v) (he : 0 ≤ aI σ 57 k) : ∃ Y, (RnR τ Y (plI (.inr (52, (k : Int), b, t, e) :: l)) M ∧ ¬ BdF Y) ∧ Bw Y True (aL σ 99 k) (aL σ 99 k) ∧ NxT k σ Y ∧ aL Y 96 k = (u &&& v) &&& aL σ 96 k ∧ (¬ aI Y 95 k = 0 ↔ (A ∨ ¬ aI σ 95 k = 0)) := by sorry
theorem go_53a (E : FxE σ C z T) (hs : (.inr (53, (k : Int), b, t, e) :: l) <:+ z.2.1) (hr : RnR τ σ (plI l) M) (hb : ¬ BdF σ) (h : Bw σ A u v) (he : aI σ 58 k < 0) : ∃ Y, (RnR τ Y (plI (.inr (53, (k : Int), b, t, e) :: l)) M ∧ ¬ BdF Y) ∧ Bw Y (A ∨ ¬ aI σ 95 k = 0) ((u &&& v) &&& aL σ 96 k) ((u &&& v) &&& aL σ 96 k) ∧ NxT k σ Y := by sorry
theorem go_53b (E : FxE σ C z T) (hs : (.inr (53, (k : Int), b, t, e) :: l) <:+ z.2.1) (hr : RnR τ σ (plI l) M) (hb : ¬ BdF σ) (h : Bw σ A u v) (he : ¬ aI σ 58 k < 0) {cf ci : Int} {K Kd : List JfZ} {eb : Bool} (hn : jnS σ = J0 ++ (K ++ Kd)) (h51 : (aI σ 51 k).toInt = cf) (h58 : (aI σ 58 k).toInt = ci) (h0 : ∀ x ∈ J0, x.2.2.1.toInt < cf) (hd : ∀ x ∈ Kd, ci < x.2.2.1.toInt) (hjr : JrR z cf ci K J) (ha : A ↔ eb = true) : ∃ Y, (RnR τ Y (plI (.inr (53, (k : Int), b, t, e) :: l)) M ∧ ¬ BdF Y) ∧ Bw Y (A ∧ ¬ aI σ 95 k = 0) ((u &&& v) ||| aL σ 96 k) ((u &&& v) ||| aL σ 96 k) ∧ (FqT k σ Y ∧ gI Y 103 = gI σ 103) ∧ ∃ K', jnS Y = J0 ++ (K' ++ Kd) ∧ JrR z cf ci K' (J.map (fnJ eb (u &&& v))) := by sorry
end
/-! the reference's flow: at a place of the codes; what an S does -/
def AtF (τ : RS) (C : CxT) (z : ZS) (T : TbT) (M : Int32) (l : List ItZ) (σ : RS) : Prop := (RnR τ σ (plI l) M ∧ ¬ BdF σ) ∧ EnF σ C z T ∧ ∃ n : Nat, (gI σ 103).toInt = (n : Int) ∧ n ≤ l.length
/-- no S from lo on has begun -/
def Is0 (z : ZS) (lo : Nat) (σ : RS) : Prop := ∀ i, lo ≤ i → i < snM z → SkD z i → aI σ 109 (fiS z i).toNat = 0
def BgF (τ : RS) (C : CxT) (z : ZS) (T : TbT) (M : Int32) (lo : Nat) (l : List ItZ) (σ : RS) : Prop := AtF τ C z T M l σ ∧ HdR l ∧ Is0 z lo σ ∧ OjR z lo (l.length : Int) (jnS σ)
def RowT (i : Nat) (σ Y : RS) : Prop := aI Y 95 i = aI σ 95 i ∧ aL Y 96 i = aL σ 96 i ∧ aI Y 97 i = aI σ 97 i ∧ aL Y 98 i = aL σ 98 i ∧ aL Y 99 i = aL σ 99 i
def FzT (b : Nat) (σ Y : RS) : Prop := FfR σ Y ∧ ∀ i, i < b → RowT i σ Y
def LgU (σ Y : RS) (u : Nat) : Prop := aI Y 109 u = aI σ 109 u ∧ aL Y 110 u = aL σ 110 u ∧ aI Y 111 u = aI σ 111 u
/-- where S's from lo to hi began, with which bits, whether they end -/
def LgF (z : ZS) (lo hi : Nat) (σ Y : RS) (G : List (Nat × Int64 × Bool)) : Prop := (∀ u : Nat, (∀ i, lo ≤ i → i < hi → SkD z i → ¬ (fiS z i).toNat = u) → LgU σ Y u) ∧ ∀ x ∈ G, (lo ≤ x.1 ∧ x.1 < hi ∧ SkD z x.1) ∧ ¬ aI Y 109 (fiS z x.1).toNat = 0 ∧ aL Y 110 (fiS z x.1).toNat = x.2.1 ∧ (¬ aI Y 111 (fiS z x.1).toNat = 0 ↔ x.2.2 = true)
def OutF (τ : RS) (C : CxT) (z : ZS) (T : TbT) (M : Int32) (lo hi b : Nat) (l l' : List ItZ) (σ : RS) (R : ReG) (Y : RS) : Prop := BgF τ C z T M hi l' Y ∧ Bw Y (R.1 = true) R.2.1 R.2.1 ∧ JsH z (l.length : Int) (l'.length : Int) (jnS σ) Y R.2.2.1 ∧ FzT b σ Y ∧ LgF z lo hi σ Y R.2.2.2
/-- jumps since then, but not yet where they lead -/
def JsK (z : ZS) (c0 c1 : Int) (J0 : List JfZ) (σ : RS) (J : List JmZ) : Prop := ∃ K, jnS σ = J0 ++ K ∧ JrR z c0 c1 K J
def OutI (τ : RS) (C : CxT) (z : ZS) (T : TbT) (M : Int32) (lo hi b : Nat) (l l' : List ItZ) (σ : RS) (R : ReG) (Y : RS) : Prop := AtF τ C z T M l' Y ∧ Bw Y (R.1 = true) R.2.1 R.2.1 ∧ JsK z (l.length : Int) (l'.length : Int) (jnS σ) Y R.2.2.1 ∧ FzT b σ Y ∧ LgF z lo hi σ Y R.2.2.2
abbrev FwSo (τ : RS) (C : CxT) (N : Int → Int) (z : ZS) (T : TbT) (St : SsT) : Prop := ∀ a p q, St a p q → ∀ (f : Nat) (M : Int32) (σ : RS) (al : Bool) (mm : Int64), 2 * (q.1 - p.1) ≤ f + 1 → a < (p.1 : Int) → BgF τ C z T M p.1 p.2.2 σ → Bw σ (al = true) mm mm → (BdF τ ∧ (dF N z T f).2.2 p.1 al mm = none) ∨ ∃ R Y, (dF N z T f).2.2 p.1 al mm = some R ∧ OutF τ C z T M p.1 q.1 p.2.1 p.2.2 q.2.2 σ R Y
abbrev FwRo (τ : RS) (C : CxT) (N : Int → Int) (z : ZS) (T : TbT) (Rw : RsT) : Prop := ∀ a L p q, Rw 0 0 a L p q → q.1 ≤ snM z → q.2.2 <:+ z.2.1 → ∀ (f : Nat) (M : Int32) (σ : RS) (al : Bool) (mm : Int64), 2 * (q.1 - p.1) ≤ f → a < (p.1 : Int) → BgF τ C z T M p.1 p.2.2 σ → Bw σ (al = true) mm mm → (BdF τ ∧ (dF N z T f).1 (hdI L) al mm = none) ∨ ∃ R Y, (dF N z T f).1 (hdI L) al mm = some R ∧ OutF τ C z T M p.1 q.1 p.2.1 p.2.2 q.2.2 σ R Y
abbrev FwRs (τ : RS) (C : CxT) (N : Int → Int) (z : ZS) (T : TbT) (Rw : RsT) : Prop := ∀ (k : Nat) a L p q, Rw 1 k a L p q → k < p.2.1 → q.1 ≤ snM z → q.2.2 <:+ z.2.1 → ∀ (f : Nat) (M : Int32) (σ : RS) (al d : Bool) (mm : Int64), 2 * (q.1 - p.1) ≤ f → a < (p.1 : Int) → BgF τ C z T M p.1 p.2.2 σ → Bw σ (al = true) mm mm → (0 ≤ dfZ (k : Int) p.2.2 ↔ d = true) → (BdF τ ∧ (dF N z T f).2.1 (hdI L) (aL σ 96 k) al mm d = none) ∨ ∃ R Y, (dF N z T f).2.1 (hdI L) (aL σ 96 k) al mm d = some R ∧ OutF τ C z T M p.1 q.1 k p.2.2 q.2.2 σ R.2 Y ∧ aL Y 96 k = aL σ 96 k ∧ (0 ≤ dfZ (k : Int) q.2.2 ↔ R.1 = true)
abbrev FwI (τ : RS) (C : CxT) (N : Int → Int) (z : ZS) (T : TbT) (j hi k : Nat) (l l' : List ItZ) : Prop := ∀ (f : Nat) (M : Int32) (σ : RS) (mm : Int64), 2 * (hi - j) ≤ f + 2 → BgF τ C z T M (j + 1) l σ → OjR z j (l.length : Int) (jnS σ) → Bw σ True mm mm → (BdF τ ∧ inD' (dF N z T f) N z T j mm = none) ∨ ∃ R Y, inD' (dF N z T f) N z T j mm = some R ∧ OutI τ C z T M (j + 1) hi k l l' σ R Y
def TkI (z : ZS) : Prop := ∀ i j, i < snM z → j < snM z → SkD z i → SkD z j → (fiS z i).toNat = (fiS z j).toNat → i = j
/-- what is fixed -/
def GxF (N : Int → Int) (C : CxT) (z : ZS) (T : TbT) (ms : MfT) : Prop := DfX N C z T ms ∧ PuE C z T ∧ MonT z ∧ TkI z ∧ ∀ i, i < snM z → paS z i < (i : Int)
section
variable {σ τ Y W : RS} {C : CxT} {z : ZS} {T : TbT} {l l' m : List ItZ} {k j lo mid hi b : Nat} {M : Int32} {A : Prop} {u v : Int64} {J0 : List JfZ} {J J' : List JmZ} {c0 c1 c2 c3 : Int} {o : Bool} {G G' : List (Nat × Int64 × Bool)}
theorem RowT.rf : RowT k σ σ := ⟨rfl, rfl, rfl, rfl, rfl⟩
theorem RowT.tr (h : RowT k σ Y) (g : RowT k Y W) : RowT k σ W := by sorry
theorem FzT.rf : FzT b σ σ := ⟨FfR.rf, fun _ _ => RowT.rf⟩
theorem FzT.tr (h : FzT b σ Y) (g : FzT b Y W) : FzT b σ W := ⟨h.1.tr g.1, fun i hi => (h.2 i hi).tr (g.2 i hi)⟩
theorem FzT.mo {c : Nat} (h : FzT b σ Y) (q : c ≤ b) : FzT c σ Y := ⟨h.1, fun i hi => h.2 i (by omega)⟩
theorem FqT.fz (h : FqT k σ Y) : FzT k σ Y := ⟨h.1, fun i hi => h.2.1 i (by omega)⟩
theorem FzT.q (h : FzT b σ Y) (g : FqT k Y W) (q : b ≤ k) : FzT b σ W := h.tr (g.fz.mo q)
theorem LgU.tr {u : Nat} (h : LgU σ Y u) (g : LgU Y W u) : LgU σ W u := ⟨g.1.trans h.1, g.2.1.trans h.2.1, g.2.2.trans h.2.2⟩
theorem FqT.lg (h : FqT k σ Y) (u : Nat) : LgU σ Y u := by sorry
theorem LgF.sa (h : ∀ u, LgU σ Y u) : LgF z lo hi σ Y [] := ⟨fun u _ => h u, fun _ q => absurd q List.not_mem_nil⟩
theorem FqT.lf (h : FqT k σ Y) : LgF z lo hi σ Y [] := LgF.sa h.lg
theorem LgF.tr (hT : TkI z) (hz : hi ≤ snM z) (h1 : lo ≤ mid) (h2 : mid ≤ hi) (h : LgF z lo mid σ Y G) (g : LgF z mid hi Y W G') : LgF z lo hi σ W (G ++ G') := by sorry
theorem LgF.wd {lo' hi' : Nat} (h : LgF z lo hi σ Y G) (h1 : lo' ≤ lo) (h2 : hi ≤ hi') : LgF z lo' hi' σ Y G := by sorry
theorem LgF.q (h : LgF z lo hi σ Y G) (g : FqT k Y W) : LgF z lo hi σ W G := by sorry
theorem LgF.qb (g : FqT k σ Y) (h : LgF z lo hi Y W G) : LgF z lo hi σ W G := ⟨fun u hu => (g.lg u).tr (h.1 u hu), h.2⟩
theorem Is0.lg (hT : TkI z) (h : Is0 z lo σ) (g : LgF z lo hi σ Y G) (h1 : lo ≤ hi) : Is0 z hi Y := by sorry
theorem Is0.q (h : Is0 z lo σ) (g : FqT k σ Y) : Is0 z lo Y := fun i a b c => by
  rw [(g.lg _).1]
  exact h i a b c
theorem AtF.mv (h : AtF τ C z T M l σ) (r : RnR τ Y (plI l') M ∧ ¬ BdF Y) (f : FfR σ Y) (e : gI Y 103 = gI σ 103) (n : l.length ≤ l'.length) : AtF τ C z T M l' Y := by sorry
theorem BgF.mv {lo' : Nat} (h : BgF τ C z T M lo l σ) (a : AtF τ C z T M l' Y) (g : NxT k σ Y) (hd : HdR l') (n : l.length ≤ l'.length) (q : lo ≤ lo') : BgF τ C z T M lo' l' Y := by sorry
theorem JsK.rf : JsK z c0 c1 (jnS σ) σ [] := ⟨[], (List.append_nil _).symm, trivial⟩
theorem JsK.q (h : JsK z c0 c1 J0 σ J) (q : jnS Y = jnS σ) : JsK z c0 c1 J0 Y J := by sorry
theorem JsH.jk (h : JsH z c0 c1 J0 σ J) : JsK z c0 c1 J0 σ J := by sorry
theorem JsK.wd (h : JsK z c0 c1 J0 σ J) (a : c2 ≤ c0) (b : c1 ≤ c3) : JsK z c2 c3 J0 σ J := by sorry
theorem JsH.wd (h : JsH z c0 c1 J0 σ J) (a : c2 ≤ c0) (b : c1 ≤ c3) : JsH z c2 c3 J0 σ J := by sorry
theorem JsK.ap (h : JsK z c0 c1 J0 σ J) (g : JsK z c0 c1 (jnS σ) Y J') : JsK z c0 c1 J0 Y (J ++ J') := by sorry
theorem TgO.nil : TgO z [] := fun _ q => absurd q List.not_mem_nil
theorem TgO.ap (h : TgO z J) (g : TgO z J') : TgO z (J ++ J') := fun y hy => (List.mem_append.mp hy).elim (h y) (g y)
theorem JsH.ap (h : JsH z c0 c1 J0 σ J) (g : JsH z c0 c1 (jnS σ) Y J') : JsH z c0 c1 J0 Y (J ++ J') := by sorry
theorem JsH.rf : JsH z c0 c1 (jnS σ) σ [] := ⟨[], (List.append_nil _).symm, trivial, TgO.nil⟩
/-- jumps lead to S's around with things of their own -/
theorem jto_tg (hp : ∀ i, i < snM z → paS z i < (i : Int)) {a : Int} (h : JtO z a J) (ha : a + 1 < (snM z : Int)) : TgO z J ∧ ∀ y ∈ J, y.1 ≤ a + 1 ∨ y.1 < 0 := by sorry
/-- behind an S: what stands for the next one -/
theorem BgF.nx (hX : TkI z) (hp : ∀ i, i < snM z → paS z i < (i : Int)) {a : Int} (h : BgF τ C z T M lo l σ) (hat : AtF τ C z T M l' Y) (hd : HdR l') (n : l.length ≤ l'.length) (h1 : lo < hi) (hz : hi ≤ snM z) (ha : a < (lo : Int)) (hj : JsK z (l.length : Int) (l'.length : Int) (jnS σ) Y J) (ht : JtS z a lo J) (hl : LgF z lo hi σ Y G) : BgF τ C z T M hi l' Y ∧ JsH z (l.length : Int) (l'.length : Int) (jnS σ) Y J := by sorry
/-- a whole exp -/
theorem ex_go {lv : Int} {r : XrZ} {ms : MfT} {N : Int → Int} {mm : Int64} (H : GxF N C z T ms) (h : AtF τ C z T M l σ) (hh : HdR l) (hX : ExX lv l m r) (hl0 : 0 ≤ lv) (hm : m <:+ z.2.1) (hB : Bw σ A mm mm) (k : Nat) : (BdF τ ∧ exD z T ((xcZ m : Int) - 1) mm = none) ∨ ∃ Y e, exD z T ((xcZ m : Int) - 1) mm = some e ∧ AtF τ C z T M m Y ∧ Bw Y A e.1 e.2 ∧ NxT k σ Y ∧ ∀ i, RowT i σ Y := by sorry
end
/-! the reference's flow: S's that hold no others; declarations; exps of for -/
theorem bq_e {w : Int32} {v : Int} (h : w.toInt = v) : ((1 : Int64) <<< (w.toInt64 &&& 63)) = bitQ v := by sorry
theorem exd_n {z : ZS} {T : TbT} {x : Int} {m : Int64} (h : x < 0) : exD z T x m = some (m, m) := by sorry
section
variable {σ τ Y W : RS} {C : CxT} {z : ZS} {T : TbT} {l l' m : List ItZ} {k j lo mid hi b : Nat} {M : Int32} {A : Prop} {u v : Int64} {N : Int → Int} {ms : MfT} {lv a t e : Int} {r : XrZ}
theorem out_n {mm : Int64} {eb : Bool} (hA : AtF τ C z T M l' Y) (hw : Bw Y A mm mm) (e : A ↔ eb = true) (n : NxT k σ Y) : OutI τ C z T M lo hi k l l' σ (eb, mm, [], []) Y := ⟨hA, hw.cg e, JsK.rf.q n.2.1, n.1.fz, n.1.lf⟩
theorem go_22 {a : Int} {b : Int} (E : FxE σ C z T) (hs : (.inr (22, a, b, t, e) :: l) <:+ z.2.1) (hr : RnR τ σ (plI l) M) (hb : ¬ BdF σ) (h : Bw σ A u v) (hn : ¬ b = 1) : ∃ Y, (RnR τ Y (plI (.inr (22, a, b, t, e) :: l)) M ∧ ¬ BdF Y) ∧ Bw Y A ((u &&& v) &&& (bitQ a ^^^ allB)) ((u &&& v) &&& (bitQ a ^^^ allB)) ∧ NxT k σ Y := by sorry
theorem go_15 {x : XrZ} (E : FxE σ C z T) (hs : (.inl x :: l) <:+ z.2.1) (hx : x.1.1 = 15) (hr : RnR τ σ (plI l) M) (hb : ¬ BdF σ) (h : Bw σ A u v) : ∃ Y, (RnR τ Y (plI (.inl x :: l)) M ∧ ¬ BdF Y) ∧ Bw Y A ((u &&& v) ||| bitQ x.2.1.2.1) ((u &&& v) ||| bitQ x.2.1.2.1) ∧ NxT k σ Y := by sorry
theorem hd_r {y : Int × Int × Int × Int × Int} : HdR (.inr y :: l) := Or.inr ⟨y, l, rfl⟩
/-- a declaration -/
theorem va_go {h : Int × Int × Int × Int} {th : Int} {mm : Int64} (H : GxF N C z T ms) (g : VaD z j h th l m) (hl0 : 0 ≤ h.2.2.1) (hm : m <:+ z.2.1) (hA : AtF τ C z T M l σ) (hw : Bw σ A mm mm) (k : Nat) : (BdF τ ∧ tdD z T j mm = none) ∨ ∃ Y mm', tdD z T j mm = some (true, mm', [], []) ∧ AtF τ C z T M m Y ∧ Bw Y A mm' mm' ∧ NxT k σ Y := by sorry
theorem fw_to (H : GxF N C z T ms) (g : VaD z j (91, t, lv, a) k l m) (hl0 : 0 ≤ lv) (hm : m <:+ z.2.1) (hk : kjS z j = 91) : FwI τ C N z T j hi k l m := by sorry
theorem fw_xs {a' b' t' : Int} (H : GxF N C z T ms) (hx : ExX lv l m r) (hl0 : 0 ≤ lv) (hm : (cEy 21 a' b' t' m :: m) <:+ z.2.1) (hk : kjS z j = 90) (xj : xjS z j = (xcZ m : Int) - 1) : FwI τ C N z T j hi k l (cEy 21 a' b' t' m :: m) := by sorry
theorem fw_em (hk : kjS z j = 4) : FwI τ C N z T j hi k l l := by sorry
theorem fw_r0 {a' b' t' : Int} (hm : (cIy 48 a' b' t' :: l) <:+ z.2.1) (hk : kjS z j = 66) (xj : xjS z j = -1) : FwI τ C N z T j hi k l (cIy 48 a' b' t' :: l) := by sorry
theorem fw_r1 {a' b' t' : Int} (H : GxF N C z T ms) (hx : ExX lv l m r) (hl0 : 0 ≤ lv) (hm : (cEy 48 a' b' t' m :: m) <:+ z.2.1) (hk : kjS z j = 66) (xj : xjS z j = (xcZ m : Int) - 1) : FwI τ C N z T j hi k l (cEy 48 a' b' t' m :: m) := by sorry
theorem fw_th {a' b' t' : Int} (H : GxF N C z T ms) (hx : ExX lv l m r) (hl0 : 0 ≤ lv) (hm : (cEy 49 a' b' t' m :: m) <:+ z.2.1) (hk : kjS z j = 67) (xj : xjS z j = (xcZ m : Int) - 1) : FwI τ C N z T j hi k l (cEy 49 a' b' t' m :: m) := by sorry
/-- a jump -/
theorem fw_ju {kd t' : Int} (hkd : kd = 64 ∨ kd = 65) (hm : (cIy (kd - 18) (tqD N z j) 0 t' :: l) <:+ z.2.1) (hk : kjS z j = kd) (h0 : 0 ≤ tjT N z j) (hth : 0 ≤ thS z (tjT N z j).toNat) : FwI τ C N z T j hi k l (cIy (kd - 18) (tqD N z j) 0 t' :: l) := by sorry
/-- exps of for -/
theorem fx_go (H : GxF N C z T ms) (hl0 : 0 ≤ lv) : ∀ (L : List Nat) (p q : Ps), FxD z lv a L p q → q.2.2 <:+ z.2.1 → ∀ (f : Nat) (σ : RS) (mm : Int64), 2 * (q.1 - p.1) ≤ f → AtF τ C z T M p.2.2 σ → HdR p.2.2 → Bw σ A mm mm → (BdF τ ∧ (dF N z T f).1 (hdI L) true mm = none) ∨ ∃ R Y, (dF N z T f).1 (hdI L) true mm = some R ∧ (R.1 = true ∧ R.2.2.1 = []) ∧ AtF τ C z T M q.2.2 Y ∧ Bw Y A R.2.1 R.2.1 ∧ NxT k σ Y := by sorry
theorem fi_go (H : GxF N C z T ms) (hl0 : 0 ≤ lv) {o : Int} {p q : Ps} (h : FiD z lv j o p q) (hq : q.2.2 <:+ z.2.1) {f : Nat} {σ : RS} {mm : Int64} (hf : 2 * (q.1 - p.1) ≤ f) (hA : AtF τ C z T M p.2.2 σ) (hh : HdR p.2.2) (hw : Bw σ A mm mm) : (BdF τ ∧ (dF N z T f).1 o true mm = none) ∨ ∃ R Y, (dF N z T f).1 o true mm = some R ∧ (R.1 = true ∧ R.2.2.1 = []) ∧ AtF τ C z T M q.2.2 Y ∧ Bw Y A R.2.1 R.2.1 ∧ NxT k σ Y := by sorry
end
/-! the reference's flow: a whole S, rows of S's -/
section
variable {σ τ Y W : RS} {C : CxT} {z : ZS} {T : TbT} {l l' m : List ItZ} {k j lo mid hi b : Nat} {M : Int32} {A : Prop} {u v : Int64} {N : Int → Int} {ms : MfT} {lv a t e : Int} {r : XrZ} {St : SsT} {Rw : RsT}
/-- first token, kind of an S -/
theorem in_hd {Mi : Int} {q : Ps} (h : InD N Mi St Rw z lv a j k t l q) : fiS z j = t ∧ SkD z j := by sorry
/-- an S that is never gone to -/
theorem go_dead {y : Int × Int × Int × Int × Int} (E : FxE σ C z T) (hs : (.inr y :: l) <:+ z.2.1) (hr : RnR τ σ (plI l) M) (hy : y.1 = 20) (h : gI σ 92 = 0) : BdF τ := by sorry
/-- an S begins -/
theorem go_20 {a b e : Int} (E : FxE σ C z T) (hs : (.inr (20, a, b, t, e) :: l) <:+ z.2.1) (hr : RnR τ σ (plI l) M) (hb : ¬ BdF σ) (h : Bw σ A u v) (ha : A) (h0 : aI σ 109 t.toNat = 0) (t0 : 0 ≤ t) : ∃ Y, (RnR τ Y (plI (.inr (20, a, b, t, e) :: l)) M ∧ ¬ BdF Y) ∧ Bw Y A u v ∧ LwT σ Y ∧ aI Y 109 = upd (aI σ 109) t.toNat 1 ∧ aL Y 110 = vp_updL (aL σ 110) t.toNat (u &&& v) ∧ aI Y 111 = aI σ 111 := by sorry
/-- an S ends -/
theorem go_45 {a b e : Int} (E : FxE σ C z T) (hs : (.inr (45, a, b, t, e) :: l) <:+ z.2.1) (hr : RnR τ σ (plI l) M) (hb : ¬ BdF σ) (h : Bw σ A u v) (h0 : 0 ≤ a) (t0 : 0 ≤ t) : ∃ Y, (RnR τ Y (plI (.inr (45, a, b, t, e) :: l)) M ∧ ¬ BdF Y) ∧ Bw Y A u v ∧ LwT σ Y ∧ aI Y 109 = aI σ 109 ∧ aL Y 110 = aL σ 110 ∧ aI Y 111 = upd (aI σ 111) t.toNat (gI σ 92) := by sorry
/-- a whole S -/
theorem fw_S {p q1 : Ps} (H : GxF N C z T ms) (hI : FwI τ C N z T p.1 q1.1 p.2.1 (cIy 20 0 0 t :: p.2.2) q1.2.2) (ht : fiS z p.1 = t ∧ SkD z p.1) (t0 : 0 ≤ t) (hz : q1.1 ≤ snM z) (hq : (cIy 45 p.2.2.length 0 t :: q1.2.2) <:+ z.2.1) (hsf : (cIy 20 0 0 t :: p.2.2) <:+ q1.2.2) (lt : p.1 < q1.1) (hJ : ∀ (f : Nat) (mm : Int64) (R : ReG), 2 * (q1.1 - p.1) ≤ f + 1 → a < (p.1 : Int) → (dF N z T f).2.2 p.1 true mm = some R → JtS z a p.1 R.2.2.1) : ∀ (f : Nat) (M : Int32) (σ : RS) (al : Bool) (mm : Int64), 2 * (q1.1 - p.1) ≤ f + 1 → a < (p.1 : Int) → BgF τ C z T M p.1 p.2.2 σ → Bw σ (al = true) mm mm → (BdF τ ∧ (dF N z T f).2.2 p.1 al mm = none) ∨ ∃ R Y, (dF N z T f).2.2 p.1 al mm = some R ∧ OutF τ C z T M p.1 q1.1 p.2.1 p.2.2 (cIy 45 p.2.2.length 0 t :: q1.2.2) σ R Y := by sorry
end
/-! the reference's flow: blocks, NAMES:, if, while, do -/
section
variable {i k : Int} {o on : Bool}
theorem cmB_ne {J : List JmZ} (h : ¬ (i = k ∧ o = on)) : cmB i o (cmR k on J) = cmB i o J := by sorry
end
section
variable {σ τ Y W : RS} {C : CxT} {z : ZS} {T : TbT} {l l' m L : List ItZ} {k j lo mid hi b : Nat} {M : Int32} {A : Prop} {u v : Int64} {N : Int → Int} {ms : MfT} {lv a t e : Int} {r : XrZ} {St : SsT} {Rw : RsT} {J0 : List JfZ} {J : List JmZ} {c0 c1 : Int}
theorem jtr_ar {y : Int × Int × Int × Int × Int} : ∀ {L : List ItZ}, JtR σ T L → (.inr y :: l) <:+ L → keR σ T l.length y := by sorry
/-- a condition: whether it is always, never true -/
theorem al_v (H : GxF N C z T ms) (E : EnF σ C z T) {o a b t : Int} {l0 : List ItZ} (hx : ExX lv l0 m r) (hs : (cEy o a b t m :: m) <:+ z.2.1) (ho : o = 27 ∨ o = 31 ∨ (o = 33 ∧ ¬ b = 0)) (xj : xjS z j = (xcZ m : Int) - 1) (hk : kjS z j = 58 ∨ kjS z j = 59 ∨ kjS z j = 60) (hj : j < snM z) : (alR σ (plI m) = 0 ↔ (!(alwT z T j 1)) = true) ∧ (neR σ (plI m) = 0 ↔ (!(alwT z T j 0)) = true) := by sorry
theorem OutF.i {b' : Nat} {R : ReG} (h : OutF τ C z T M lo hi b l l' σ R Y) (q : b' ≤ b) : OutI τ C z T M lo hi b' l l' σ R Y := ⟨h.1.1, h.2.1, h.2.2.1.jk, h.2.2.2.1.mo q, h.2.2.2.2⟩
theorem en_pq (E : EnF σ C z T) {a : Nat} {y : Int × Int × Int × Int × Int} (hs : (.inr y :: l) <:+ z.2.1) (hy : y.2.1 = (k : Int)) (ho : thO y.1 = true) (h1 : 52 ≤ a) (h2 : a ≤ 58) : (aI σ a k).toInt = pqZ a (k : Int) z.2.1 := E.2.1 a h1 h2 k (by have := (E.2.2.2 y l hs ho).1; omega)
theorem lt0_i {v : Int32} : v < 0 ↔ v.toInt < 0 := by sorry
theorem le0_i {v : Int32} : 0 ≤ v ↔ 0 ≤ v.toInt := by sorry
theorem or_tt {a b : Bool} : (a || b) = true ↔ a = true ∨ b = true := by sorry
/-- a block -/
theorem fw_bl (hR : FwRo τ C N z T Rw) {q : Ps} {Lr : List Nat} (hr : Rw 0 0 j Lr (j + 1, k + 1, l) q) (hk : kjS z j = 2) (hb : bjS z j = hdI Lr) (hz : q.1 ≤ snM z) (hq : q.2.2 <:+ z.2.1) : FwI τ C N z T j q.1 k l q.2.2 := by sorry
/-- NAME: -/
theorem fw_la (H : GxF N C z T ms) (hS : FwSo τ C N z T St) {q1 : Ps} {t1 t2 b1 b2 : Int} (hs : St j (j + 1, k + 1, cIy 41 k b1 t1 :: l) q1) (hm : (cIy 42 k b2 t2 :: q1.2.2) <:+ z.2.1) (sf : (cIy 41 k b1 t1 :: l) <:+ q1.2.2) (hk : kjS z j = 6) (hb : bjS z j = ((j + 1 : Nat) : Int)) (hj : j < snM z) (hth : thS z j = (k : Int)) : FwI τ C N z T j q1.1 k l (cIy 42 k b2 t2 :: q1.2.2) := by sorry
/-- if -/
theorem fw_if1 (H : GxF N C z T ms) (hS : FwSo τ C N z T St) {q1 : Ps} {t1 t2 b1 b2 : Int} (hx : ExX lv l m r) (hl0 : 0 ≤ lv) (hs : St j (j + 1, k + 1, cEy 23 k b1 t1 m :: m) q1) (hm : (cIy 25 k b2 t2 :: q1.2.2) <:+ z.2.1) (sf : (cEy 23 k b1 t1 m :: m) <:+ q1.2.2) (hk : kjS z j = 56) (hb : bjS z j = ((j + 1 : Nat) : Int)) (ho : ojS z j = -1) (xj : xjS z j = (xcZ m : Int) - 1) (hpq : pqZ 56 (k : Int) z.2.1 < 0) : FwI τ C N z T j q1.1 k l (cIy 25 k b2 t2 :: q1.2.2) := by sorry
theorem fw_if2 (H : GxF N C z T ms) (hS : FwSo τ C N z T St) {q1 q2 : Ps} {t1 t2 t3 b1 b2 b3 : Int} (hx : ExX lv l m r) (hl0 : 0 ≤ lv) (hs : St j (j + 1, k + 1, cEy 23 k b1 t1 m :: m) q1) (hs2 : St j (q1.1, q1.2.1, cIy 24 k b3 t3 :: q1.2.2) q2) (hm : (cIy 25 k b2 t2 :: q2.2.2) <:+ z.2.1) (sf : (cEy 23 k b1 t1 m :: m) <:+ q1.2.2) (sf2 : (cIy 24 k b3 t3 :: q1.2.2) <:+ q2.2.2) (hk : kjS z j = 56) (hb : bjS z j = ((j + 1 : Nat) : Int)) (ho : ojS z j = (q1.1 : Int)) (xj : xjS z j = (xcZ m : Int) - 1) (hpq : 0 ≤ pqZ 56 (k : Int) z.2.1) (hle : j + 1 < q1.1 ∧ q1.1 < q2.1 ∧ k + 1 ≤ q1.2.1) (hz : q2.1 ≤ snM z) : FwI τ C N z T j q2.1 k l (cIy 25 k b2 t2 :: q2.2.2) := by sorry
/-- while -/
theorem fw_wh (H : GxF N C z T ms) (hS : FwSo τ C N z T St) {q1 : Ps} {t0 t1 t2 b0 b1 b2 : Int} (hx : ExX lv (cIy 26 k b0 t0 :: l) m r) (hl0 : 0 ≤ lv) (hs : St j (j + 1, k + 1, cEy 27 k b1 t1 m :: m) q1) (hm : (cIy 28 k b2 t2 :: q1.2.2) <:+ z.2.1) (sf : (cEy 27 k b1 t1 m :: m) <:+ q1.2.2) (hk : kjS z j = 58) (hb : bjS z j = ((j + 1 : Nat) : Int)) (xj : xjS z j = (xcZ m : Int) - 1) (hj : j < snM z) (hth : thS z j = (k : Int)) : FwI τ C N z T j q1.1 k l (cIy 28 k b2 t2 :: q1.2.2) := by sorry
/-- do -/
theorem fw_do (H : GxF N C z T ms) (hS : FwSo τ C N z T St) {q1 : Ps} {t0 t1 t2 b0 b1 b2 : Int} (hs : St j (j + 1, k + 1, cIy 29 k b0 t0 :: l) q1) (hx : ExX lv (cIy 30 k b1 t1 :: q1.2.2) m r) (hl0 : 0 ≤ lv) (hm : (cEy 31 k b2 t2 m :: m) <:+ z.2.1) (sf : (cIy 29 k b0 t0 :: l) <:+ q1.2.2) (hk : kjS z j = 59) (hb : bjS z j = ((j + 1 : Nat) : Int)) (xj : xjS z j = (xcZ m : Int) - 1) (hj : j < snM z) (hth : thS z j = (k : Int)) : FwI τ C N z T j q1.1 k l (cEy 31 k b2 t2 m :: m) := by sorry
end
/-! CONSTANT exps: all parts are CONSTANT, and what is assigned stays -/
section
variable {C : CxT} {U T : TbT} {i : Nat} {x : XrZ} {e : TvT}
theorem cn_op {xs : Nat → XrZ} (hx : xs i = x) (h : exT C U i x = some e) (hc : ¬ e.2.1 = 0) (h0 : U.1 i = (t0T C.1 xs).1 i) (hk : 0 ≤ x.1.1 ∧ x.1.1 ≤ 10) : (¬ x.1.1 = 6 ∧ ¬ x.1.1 = 9 ∧ ¬ x.1.1 = 10) ∧ ∀ q ∈ opsZ x, ¬ (opT U q).2.1 = 0 := by sorry
end
/-- what holds, whatever way it is gone -/
def phW (w : WzS) : Int64 := (w.1 &&& w.2.1) &&& w.2.2.1.foldr (· &&& ·) allB
section
variable {w : WzS} {t : TvT} {a b c d : Int64}
theorem ph_a : (a &&& a) &&& (b &&& c) = (a &&& b) &&& c := by sorry
theorem ph_b : (b &&& b) &&& (a &&& c) = (a &&& b) &&& c := by sorry
theorem ph_c : (c &&& c) &&& (b &&& (a &&& d)) = (a &&& b) &&& (c &&& d) := by sorry
theorem ph_d : (a &&& (b &&& c)) &&& d = (a &&& b) &&& (c &&& d) := by sorry
theorem ph_f : ((a &&& c) &&& b) &&& d = (a &&& b) &&& (c &&& d) := by sorry
theorem ph_jn : phW (jnT t zerB w) = phW w := by sorry
theorem ph_to (h : w.2.2.1.length < 500) {m : Int64} : toA m w = (w.1, w.2.1, m :: w.2.2.1, w.2.2.2) := if_pos h
theorem ph_fk1 (h : w.2.2.1.length < 500) : phW (fkW w.2.1 w.1 w) = phW w := by sorry
theorem ph_fk2 (h : w.2.2.1.length < 500) : phW (fkW w.1 w.2.1 w) = phW w := by sorry
theorem ph_af : phW (andF w) = phW w := by sorry
theorem ph_at : phW (andT w) = phW w := by sorry
theorem ph_el (h : w.2.2.1.length < 499) : phW (elW w) = phW w := by sorry
/-- one exp or mark of a CONSTANT one -/
theorem ph_pa {x : XrZ} (hk : 0 ≤ x.1.1 ∧ x.1.1 ≤ 13) (h9 : ¬ x.1.1 = 9 ∧ ¬ x.1.1 = 6) (h2 : x.1.1 = 2 → ¬ t.2.1 = 0) (hl : w.2.2.1.length < 499) : phW (paW x t w) = phW w ∧ (paW x t w).2.2.2 = w.2.2.2 := by sorry
end
section
variable {C : CxT} {z : ZS} {T : TbT} {l : List ItZ}
/-- all parts of a CONSTANT exp -/
theorem cn_all (H : ZjD C z T) {U : List Int} (hU : SkP l U) : ∀ (t : List XrZ) (P : List Int), (∀ x ∈ t, x.1.1 ≤ 14) → (t.map Sum.inl ++ l) <:+ z.2.1 → SkP (t.map Sum.inl ++ l) (P ++ U) → (∀ q ∈ P, ¬ (opT T q).2.1 = 0) → ∀ x u, (x :: u) <:+ t → x.1.1 ≤ 10 → ¬ (T.1 (xcZ (u.map Sum.inl ++ l))).2.1 = 0 ∧ ¬ x.1.1 = 6 ∧ ¬ x.1.1 = 9 := by sorry
theorem cst_run (H : ZjD C z T) {mm : Int64} (hn : ¬ LsO l) (hl : MkP 100 l []) : ∀ (t : List XrZ), (∀ x ∈ t, x.1.1 ≤ 13 ∧ ¬ x.1.1 = 9 ∧ ¬ x.1.1 = 6) → (∀ x u, (x :: u) <:+ t → x.1.1 = 2 → ¬ (T.1 (xcZ (u.map Sum.inl ++ l))).2.1 = 0) → (t.map Sum.inl ++ l) <:+ z.2.1 → (bxL z T t.length (xcZ l) (mm, mm, [], false)).2.2.2 = false ∧ phW (bxL z T t.length (xcZ l) (mm, mm, [], false)) = mm := by sorry
theorem inl_inj : ∀ {a b : List XrZ}, (a.map Sum.inl : List ItZ) = b.map Sum.inl → a = b := by sorry
/-- a whole CONSTANT exp -/
theorem cst_ex (H : ZjD C z T) {lv : Int} {m : List ItZ} {r : XrZ} (hX : ExX lv l m r) (hl0 : 0 ≤ lv) (hh : HdR l) (hm : m <:+ z.2.1) (hc : ¬ (T.1 (xcZ m - 1)).2.1 = 0) (mm : Int64) : ∃ e, exD z T ((xcZ m : Int) - 1) mm = some e ∧ e.1 &&& e.2 = mm := by sorry
end
/-! the reference's flow: rows of S's, cases; switch -/
section
variable {σ τ Y W : RS} {C : CxT} {z : ZS} {T : TbT} {l l' l'' m : List ItZ} {k j lo mid hi b : Nat} {M : Int32} {A : Prop} {u v : Int64} {N : Int → Int} {ms : MfT} {lv a t e : Int} {r : XrZ} {St : SsT} {R S : ReG}
theorem OutF.tr (hT : TkI z) (hz : hi ≤ snM z) (h1 : lo ≤ mid) (h2 : mid ≤ hi) (n1 : l.length ≤ l'.length) (n2 : l'.length ≤ l''.length) (h : OutF τ C z T M lo mid b l l' σ R Y) (g : OutF τ C z T M mid hi b l' l'' Y S W) : OutF τ C z T M lo hi b l l'' σ (apG R S) W := by sorry
theorem OutF.pre (q : NxT k σ Y) (hb : b ≤ k) (h1 : lo ≤ mid) (n1 : l.length ≤ l'.length) (g : OutF τ C z T M mid hi b l' l'' Y S W) : OutF τ C z T M lo hi b l l'' σ S W := by sorry
theorem OutF.nil (h : BgF τ C z T M lo l σ) {al : Bool} {mm : Int64} (hw : Bw σ (al = true) mm mm) : OutF τ C z T M lo lo b l l σ (al, mm, [], []) σ := ⟨h, hw, JsH.rf, FzT.rf, LgF.sa (fun _ => ⟨rfl, rfl, rfl⟩)⟩
theorem OutF.mo {c : Nat} (h : OutF τ C z T M lo hi b l l' σ R Y) (q : c ≤ b) : OutF τ C z T M lo hi c l l' σ R Y := ⟨h.1, h.2.1, h.2.2.1, h.2.2.2.1.mo q, h.2.2.2.2⟩
/-- rows of S's -/
theorem fw_row (H : GxF N C z T ms) (hP : ∀ a p q, St a p q → PgD (-1) p q ∧ p.1 < q.1) (hS : FwSo τ C N z T (StX z St)) : FwRo τ C N z T (RwD (StX z St) z lv) := by sorry
/-- a case, a default -/
theorem cs_go (H : GxF N C z T ms) (hok : AlB (okS C N T) [] z.2.1) (hl0 : 0 ≤ lv) {p p1 : Ps} (h : CsD z lv k a p p1) (hq : p1.2.2 <:+ z.2.1) (hA : AtF τ C z T M p.2.2 σ) (hh : HdR p.2.2) (hw : Bw σ A u u) : ∃ Y, AtF τ C z T M p1.2.2 Y ∧ Bw Y True (u &&& aL σ 96 k) (u &&& aL σ 96 k) ∧ NxT k σ Y ∧ aL Y 96 k = aL σ 96 k ∧ HdR p1.2.2 ∧ p.2.2.length ≤ p1.2.2.length ∧ (kjS z p.1 = 62 ∨ kjS z p.1 = 63) ∧ ∀ d : Bool, (0 ≤ dfZ (k : Int) p.2.2 ↔ d = true) → (0 ≤ dfZ (k : Int) p1.2.2 ↔ (d || decide (kjS z p.1 = 63)) = true) := by sorry
/-- rows of a switch -/
theorem fw_rows (H : GxF N C z T ms) (hok : AlB (okS C N T) [] z.2.1) (hl0 : 0 ≤ lv) (hP : ∀ a p q, St a p q → PgD (-1) p q ∧ p.1 < q.1) (hkd : ∀ a p q, St a p q → ¬ kjS z p.1 = 62 ∧ ¬ kjS z p.1 = 63) (hS : FwSo τ C N z T (StX z St)) : FwRs τ C N z T (RwD (StX z St) z lv) := by sorry
/-- switch -/
theorem fw_sw (H : GxF N C z T ms) (hok : AlB (okS C N T) [] z.2.1) {Lr : List Nat} {q1 : Ps} {t1 t2 b1 b2 : Int} {lv' : Int} (hP : ∀ a p q, St a p q → PgD (-1) p q ∧ p.1 < q.1) (hkd : ∀ a p q, St a p q → ¬ kjS z p.1 = 62 ∧ ¬ kjS z p.1 = 63) (hS : FwSo τ C N z T (StX z St)) (hx : ExX lv l m r) (hl0 : 0 ≤ lv) (hl1 : 0 ≤ lv') (hr : RwD (StX z St) z lv' 1 k j Lr (j + 1, k + 1, cEy 37 k b1 t1 m :: m) q1) (h62 : ∀ i L', Lr = i :: L' → kjS z i = 62 ∨ kjS z i = 63) (hm : (cIy 40 k b2 t2 :: q1.2.2) <:+ z.2.1) (hk : kjS z j = 61) (hb : bjS z j = hdI Lr) (xj : xjS z j = (xcZ m : Int) - 1) (hj : j < snM z) (hz : q1.1 ≤ snM z) (hth : thS z j = (k : Int)) (hd0 : dfZ (k : Int) l = -2) (hdz : dfZ (k : Int) z.2.1 = dfZ (k : Int) q1.2.2) : FwI τ C N z T j q1.1 k l (cIy 40 k b2 t2 :: q1.2.2) := by sorry
end
/-! the reference's flow: for -/
/-- at a place, whatever jumps there are -/
def AtG (τ : RS) (C : CxT) (z : ZS) (T : TbT) (M : Int32) (l : List ItZ) (σ : RS) : Prop := (RnR τ σ (plI l) M ∧ ¬ BdF σ) ∧ EnF σ C z T
section
variable {σ τ Y W : RS} {C : CxT} {z : ZS} {T : TbT} {l l' l'' m : List ItZ} {k j lo mid hi b : Nat} {M : Int32} {A : Prop} {u v : Int64} {N : Int → Int} {ms : MfT} {lv a t e : Int} {r : XrZ} {St : SsT} {R S : ReG}
theorem AtF.g (h : AtF τ C z T M l σ) : AtG τ C z T M l σ := ⟨h.1, h.2.1⟩
theorem AtG.mv (h : AtG τ C z T M l σ) (r : RnR τ Y (plI l') M ∧ ¬ BdF Y) (f : FfR σ Y) : AtG τ C z T M l' Y := ⟨r, h.2.fr f⟩
theorem exg_go {mm : Int64} (H : GxF N C z T ms) (h : AtG τ C z T M l σ) (hh : HdR l) (hX : ExX lv l m r) (hl0 : 0 ≤ lv) (hm : m <:+ z.2.1) (hB : Bw σ A mm mm) (k : Nat) : (BdF τ ∧ exD z T ((xcZ m : Int) - 1) mm = none) ∨ ∃ Y e, exD z T ((xcZ m : Int) - 1) mm = some e ∧ AtG τ C z T M m Y ∧ Bw Y A e.1 e.2 ∧ NxT k σ Y := by sorry
theorem fxg_go (H : GxF N C z T ms) (hl0 : 0 ≤ lv) : ∀ (L : List Nat) (p q : Ps), FxD z lv a L p q → q.2.2 <:+ z.2.1 → ∀ (f : Nat) (σ : RS) (mm : Int64), 2 * (q.1 - p.1) ≤ f → AtG τ C z T M p.2.2 σ → HdR p.2.2 → Bw σ A mm mm → (BdF τ ∧ (dF N z T f).1 (hdI L) true mm = none) ∨ ∃ R Y, (dF N z T f).1 (hdI L) true mm = some R ∧ AtG τ C z T M q.2.2 Y ∧ Bw Y A R.2.1 R.2.1 ∧ NxT k σ Y := by sorry
/-- a condition that is not there is always true -/
theorem al_w (E : EnF σ C z T) {k' a t e : Int} (hs : (.inr (33, a, 0, t, e) :: m) <:+ z.2.1) (xj : xjS z j = -1) : (alR σ (plI m) = 0 ↔ (!(alwT z T j 1)) = true) ∧ (neR σ (plI m) = 0 ↔ (!(alwT z T j 0)) = true) := by sorry
theorem pl_e {x : Int32} {L : List ItZ} {n : Int} (h : x.toInt = n) (e : n = (L.length : Int)) (hn : L.length ≤ 4000) : x = plI L := by sorry
/-- for -/
theorem fw_fo (H : GxF N C z T ms) (hS : FwSo τ C N z T St) {q1 q3 q4 : Ps} {m2 : List ItZ} {o g x t0 t1 t2 t3 t4 : Int} {L : List Nat} (hl0 : 0 ≤ lv) (f1 : FiD z lv j o (j + 1, k + 1, l) q1) (f2 : FcD lv k t1 x (cIy 32 k 0 t0 :: q1.2.2) m2) (hg : g = hdI L) (f3 : FxD z lv (j : Int) L (q1.1, q1.2.1, cIy 34 k 0 t2 :: m2) q3) (hs : St j (q3.1, q3.2.1, cIy 35 k 0 t3 :: q3.2.2) q4) (hm : (cIy 36 k 0 t4 :: q4.2.2) <:+ z.2.1) (sf : (cIy 35 k 0 t3 :: q3.2.2) <:+ q4.2.2) (hk : kjS z j = 60) (hb : bjS z j = (q3.1 : Int)) (ho : ojS z j = o) (gj : gjS z j = g) (xj : xjS z j = x) (hj : j < snM z) (hth : thS z j = (k : Int)) (h54 : pqZ 54 (k : Int) z.2.1 = (q3.2.2.length : Int)) (h53 : pqZ 53 (k : Int) z.2.1 = (m2.length : Int)) (h55 : pqZ 55 (k : Int) z.2.1 = (q4.2.2.length : Int)) (hle : k + 1 ≤ q3.2.1 ∧ q3.1 < q4.1) : FwI τ C N z T j q4.1 k l (cIy 36 k 0 t4 :: q4.2.2) := by sorry
end
/-! the reference's flow: try -/
section
variable {σ τ Y W : RS} {C : CxT} {z : ZS} {T : TbT} {l l' l'' m : List ItZ} {k j lo mid hi b : Nat} {M : Int32} {A : Prop} {u v : Int64} {N : Int → Int} {ms : MfT} {lv a t e : Int} {r : XrZ} {St : SsT} {Rw : RsT} {R S : ReG}
/-- a block of try -/
theorem bk_go (hR : FwRo τ C N z T Rw) {p q : Ps} (B : BkD Rw z lv a p q) (hz : q.1 ≤ snM z) (hq : q.2.2 <:+ z.2.1) {f : Nat} (hf : 2 * (q.1 - (p.1 + 1)) ≤ f) {mm : Int64} (hB : BgF τ C z T M (p.1 + 1) p.2.2 σ) (hw : Bw σ True mm mm) : (BdF τ ∧ bkD' (dF N z T f) z (p.1 : Int) mm = none) ∨ ∃ R Y, bkD' (dF N z T f) z (p.1 : Int) mm = some R ∧ OutF τ C z T M (p.1 + 1) q.1 p.2.1 p.2.2 q.2.2 σ R Y := by sorry
/-- ahead of a finally -/
def TyS (τ : RS) (C : CxT) (z : ZS) (T : TbT) (M : Int32) (j k : Nat) (q2 : Ps) (l l5 : List ItZ) (mm : Int64) (c : ReG) (σ Y : RS) : Prop := (BgF τ C z T M q2.1 l5 Y ∧ Bw Y True mm mm) ∧ (aL Y 96 k = c.2.1 ∧ (¬ aI Y 95 k = 0 ↔ c.1 = true)) ∧ JsH z (l.length : Int) (q2.2.2.length : Int) (jnS σ) Y c.2.2.1 ∧ FzT k σ Y ∧ LgF z (j + 1) q2.1 σ Y c.2.2.2
theorem ty_fin (H : GxF N C z T ms) (hR : FwRo τ C N z T Rw) {q2 q3 : Ps} {mm : Int64} {c : ReG} {b3 t3 b4 t4 b0 t0 : Int} {f : Nat} (B3 : BkD Rw z lv a (q2.1, q2.2.1, cIy 52 k b3 t3 :: q2.2.2) q3) (hm : (cIy 53 k b4 t4 :: q3.2.2) <:+ z.2.1) (h50 : (cIy 50 k b0 t0 :: l) <:+ z.2.1) (sf : (cIy 52 k b3 t3 :: q2.2.2) <:+ q3.2.2) (hz : q3.1 ≤ snM z) (hf : 2 * (q3.1 - (q2.1 + 1)) ≤ f) (h58 : pqZ 58 (k : Int) z.2.1 = (q2.2.2.length : Int)) (hO : OjR z j (l.length : Int) (jnS σ)) (hle : j + 1 ≤ q2.1 ∧ q2.1 + 1 ≤ q3.1 ∧ k + 1 ≤ q2.2.1 ∧ l.length ≤ q2.2.2.length) (h : TyS τ C z T M j k q2 l (cIy 52 k b3 t3 :: q2.2.2) mm c σ Y) : (BdF τ ∧ bkD' (dF N z T f) z (q2.1 : Int) mm = none) ∨ ∃ d W, bkD' (dF N z T f) z (q2.1 : Int) mm = some d ∧ OutI τ C z T M (j + 1) q3.1 k l (cIy 53 k b4 t4 :: q3.2.2) σ (c.1 && d.1, c.2.1 ||| d.2.1, c.2.2.1.map (fnJ d.1 d.2.1) ++ d.2.2.1, c.2.2.2 ++ d.2.2.2) W := by sorry
theorem fw_ty (H : GxF N C z T ms) (hR : FwRo τ C N z T Rw) {q1 q2 q3 : Ps} {o g w t0 t4 : Int} (B1 : BkD Rw z lv j (j + 1, k + 1, cIy 50 k 0 t0 :: l) q1) (B2 : (o = -1 ∧ w = -1 ∧ q2 = q1) ∨ (o = q1.1 ∧ (0 ≤ w ∧ w < 60) ∧ ∃ t2, BkD Rw z lv j (q1.1, q1.2.1, .inr (51, (k : Int), 0, t2, -2 - w) :: q1.2.2) q2 ∧ (.inr (51, (k : Int), 0, t2, -2 - w) :: q1.2.2) <:+ q2.2.2 ∧ q1.1 + 1 ≤ q2.1 ∧ q1.2.1 ≤ q2.2.1)) (B3 : (g = -1 ∧ q3 = q2) ∨ (g = q2.1 ∧ ∃ t3, BkD Rw z lv j (q2.1, q2.2.1, cIy 52 k 0 t3 :: q2.2.2) q3 ∧ (cIy 52 k 0 t3 :: q2.2.2) <:+ q3.2.2 ∧ q2.1 + 1 ≤ q3.1)) (hog : 0 ≤ o ∨ 0 ≤ g) (hm : (cIy 53 k 0 t4 :: q3.2.2) <:+ z.2.1) (sf : (cIy 50 k 0 t0 :: l) <:+ q1.2.2) (hz : q3.1 ≤ snM z) (hk : kjS z j = 68) (hb : bjS z j = ((j + 1 : Nat) : Int)) (ho : ojS z j = o) (hg : gjS z j = g) (hl : ljS z j = w) (h57 : 0 ≤ o → 0 ≤ pqZ 57 (k : Int) z.2.1) (h57' : o < 0 → pqZ 57 (k : Int) z.2.1 < 0) (h58 : 0 ≤ g → pqZ 58 (k : Int) z.2.1 = (q2.2.2.length : Int)) (h58' : g < 0 → pqZ 58 (k : Int) z.2.1 < 0) (hle : j + 1 + 1 ≤ q1.1 ∧ k + 1 ≤ q1.2.1) : FwI τ C N z T j q3.1 k l (cIy 53 k 0 t4 :: q3.2.2) := by sorry
end
/-! the reference's flow: every S -/
section
variable {a : Nat} {k : Int} {l l' : List ItZ} {o b t e x : Int}
theorem pq_r (h : sqZ a o = false) : pqZ a k (.inr (o, x, b, t, e) :: l) = pqZ a k l := by sorry
theorem pq_y (h : sqZ a o = true) : pqZ a k (.inr (o, k, b, t, e) :: l) = (l.length : Int) := if_pos ⟨h, rfl⟩
theorem df_r (h : ¬ o = 39) : dfZ k (.inr (o, x, b, t, e) :: l) = dfZ k l := if_neg (fun q => h q.1)
theorem pq_pg {p q : Ps} {k : Nat} (g : PgD (-1) p q) (h : k < p.2.1) : pqZ a (k : Int) q.2.2 = pqZ a (k : Int) p.2.2 ∧ dfZ (k : Int) q.2.2 = dfZ (k : Int) p.2.2 := by sorry
theorem pq_bk {p q : Ps} {k : Nat} (g : TaB (fun x => ((p.2.1 : Int) ≤ x ∧ x < (q.2.1 : Int)) ∨ x = -1) p.2.2 q.2.2) (h : k < p.2.1) : pqZ a (k : Int) q.2.2 = pqZ a (k : Int) p.2.2 := (pq_ta g (fun x => by omega)).1
end
theorem fwS_st {τ : RS} {C : CxT} {N : Int → Int} {Mi : Int} {z : ZS} {T : TbT} {ms : MfT} (H : GxF N C z T ms) (hok : AlB (okS C N T) [] z.2.1) (hth : ∀ i, i < snM z → 0 ≤ thS z i) : ∀ n, n ≤ 21 → FwSo τ C N z T (StX z (StD N Mi z n)) := by sorry
/-! the reference's flow: method by method, the whole program -/
/-- methods' TYPES, the bits that they begin with -/
def MtF (σ0 : RS) (ms : MfT) (V1 : Nat → Int) (nm : Nat) : Prop := nm ≤ 10 ∧ ∀ Y, FfR σ0 Y → ∀ M : Nat, M < nm → (aI Y 38 M).toInt = mtyN ms M ∧ stB Y (Int32.ofInt (M : Int)) (gI Y 42).toInt.toNat = pbL (V1 M) (npT ms M) 0 zerB
section
variable {σ σ0 τ Y : RS} {C : CxT} {z : ZS} {T : TbT} {l : List ItZ} {A : Prop} {u v : Int64} {N : Int → Int} {ms : MfT} {V1 : Nat → Int} {nm f : Nat} {M : Nat} {m : Int32}
/-- a method's end -/
theorem go_54 {b t e : Int} (E : FxE σ C z T) (hs : (.inr (54, (M : Int), b, t, e) :: l) <:+ z.2.1) (hr : RnR τ σ (plI l) m) (hb : ¬ BdF σ) (h : Bw σ A u v) (hM : M < 10) : ((A ∧ ¬ (aI σ 38 M).toInt = 5) ∧ BdF τ) ∨ (¬ (A ∧ ¬ (aI σ 38 M).toInt = 5) ∧ ∃ p, RnR τ (sttS (laS σ 0 p) (m + 1)) (plI (.inr (54, (M : Int), b, t, e) :: l)) (m + 1) ∧ ¬ BdF (sttS (laS σ 0 p) (m + 1))) := by sorry
theorem FqT.tt {k : Nat} {σ : RS} {m p : Int32} : FqT k σ (sttS (laS σ 0 p) m) := by sorry
theorem i32_s10 {n : Nat} (h : n ≤ 10) : Int32.ofInt (n : Int) + 1 = Int32.ofInt ((n + 1 : Nat) : Int) := i32_suc (by omega)
/-- one method -/
theorem me_go (H : GxF N C z T ms) (hok : AlB (okS C N T) [] z.2.1) (hth : ∀ i, i < snM z → 0 ≤ thS z i) (hMt : MtF σ0 ms V1 nm) (hM : M < nm) {p q : Ps} (h : MeD N z M p q) (hc : CtX z (p.1, p.2.1 + 1, p.2.2) q) (hz : q.1 ≤ snM z) (hq : q.2.2 <:+ z.2.1) (hf : 2 * snM z ≤ f) (hF : FfR σ0 σ) (hB : BgF τ C z T (Int32.ofInt (M : Int)) p.1 p.2.2 σ) (hw : Bw σ True (pbL (V1 M) (npT ms M) 0 zerB) (pbL (V1 M) (npT ms M) 0 zerB)) :
    (BdF τ ∧ ¬ ∃ R, (dF N z T f).1 (bjS z p.1) true (pbL (V1 M) (npT ms M) 0 zerB) = some R ∧ (R.1 = true → mtyN ms M = 5)) ∨
    ∃ R Y, ((dF N z T f).1 (bjS z p.1) true (pbL (V1 M) (npT ms M) 0 zerB) = some R ∧ (R.1 = true → mtyN ms M = 5)) ∧ BgF τ C z T (Int32.ofInt ((M + 1 : Nat) : Int)) q.1 q.2.2 Y ∧ FfR σ0 Y ∧ Bw Y True (stB Y (Int32.ofInt ((M + 1 : Nat) : Int)) (gI Y 42).toInt.toNat) (stB Y (Int32.ofInt ((M + 1 : Nat) : Int)) (gI Y 42).toInt.toNat) ∧ LgF z p.1 q.1 σ Y R.2.2.2 := by sorry
/-- all methods -/
theorem pr_go (H : GxF N C z T ms) (hok : AlB (okS C N T) [] z.2.1) (hth : ∀ i, i < snM z → 0 ≤ thS z i) (hMt : MtF σ0 ms V1 nm) (hf : 2 * snM z ≤ f) : ∀ (L : List Nat) (M : Nat) (p q : Ps), PrD N z L M p q → M + L.length ≤ nm → ThB p.2.2 (p.2.1 + 1) → CtX z (p.1, p.2.1 + 1, p.2.2) q → q.1 ≤ snM z → q.2.2 <:+ z.2.1 → ∀ σ : RS, FfR σ0 σ → BgF τ C z T (Int32.ofInt (M : Int)) p.1 p.2.2 σ → Bw σ True (stB σ (Int32.ofInt (M : Int)) (gI σ 42).toInt.toNat) (stB σ (Int32.ofInt (M : Int)) (gI σ 42).toInt.toNat) →
    (BdF τ ∧ ¬ FlO N z T ms V1 f L M) ∨ (FlO N z T ms V1 f L M ∧ ∃ Y k, RnR τ Y (plI q.2.2) k ∧ ¬ BdF Y ∧ EnF Y C z T ∧ LgF z p.1 q.1 σ Y (FlG N z T ms V1 f L M)) := by sorry
/-- flow of the whole program -/
theorem flow_pr {L : List Nat} (H : GxF N C z T ms) (hok : AlB (okS C N T) [] z.2.1) (hMt : MtF σ0 ms V1 nm) (hf : 2 * snM z ≤ f) (hP : PrD N z L 0 (0, 0, []) (psM z)) (hn : L.length ≤ nm) {n : Nat} {Y : RS} {c m : Int32} (hT : FlT (fl0 σ0) n Y c m) (hc : ¬ c < gI Y 18) (E : EnF (fl0 σ0) C z T) (hF : FfR σ0 (fl0 σ0)) (h0 : ∀ i, i < snM z → SkD z i → (fiS z i).toNat < (gI σ0 2).toInt.toNat) : (BdF Y ↔ ¬ FlO N z T ms V1 f L 0) ∧ (FlO N z T ms V1 f L 0 → LgF z 0 (snM z) (fl0 σ0) Y (FlG N z T ms V1 f L 0)) := by sorry
end
/-! first tokens of S's go up -/
/-- without a FAULT a token is taken -/
theorem ac_lt {s : SpC} (h : zFt (accY s) = 0) : zAt s < zAt (accY s) := by sorry
theorem ra_ft {n : Int} {s : SpC} (hn : ¬ n = 0) : ¬ zFt (raiY n s) = 0 := by sorry
theorem xp_lt {c : Int} {s : SpC} (h : zFt (xpY c s) = 0) : zAt s < zAt (xpY c s) := by sorry
theorem ty_lt {s : SpC} (h : zFt (typY s) = 0) : zAt s < zAt (typY s) := by sorry
/-- a token, then more -/
theorem ac_g {s t : SpC} (g : GpY (accY s) t) (h5 : zAt s ≤ 500) (h : zFt t = 0) : zAt s < zAt t := by sorry
def PtY (f : SpC → SpC) : Prop := ∀ s, zAt s ≤ 500 → zFt (f s) = 0 → zAt s < zAt (f s)
theorem pg_opr {m : Nat} {E I : SpC → SpC} (hE : GdY E) (hI : GdY I) : PtY (oprY m E I) := by sorry
theorem pg_chc {O E C : SpC → SpC} (pO : PtY O) (hO : GdY O) (hE : GdY E) (hC : GdY C) : PtY (chcY O E C) := by sorry
theorem pg_e {n : Nat} : PtY (eY n) := by sorry
/-- S's that have begun since then: their first tokens -/
def TgW (z z' : ZS) : Prop := (snM z ≤ snM z' ∧ zAt z.1 ≤ zAt z'.1) ∧ (∀ i, i < snM z → (reS z' i).1 = (reS z i).1) ∧ ∀ i, snM z ≤ i → i < snM z' → SkD z' i → (zAt z.1 ≤ fiS z' i ∧ fiS z' i < zAt z'.1) ∧ ∀ j, i < j → j < snM z' → SkD z' j → fiS z' i < fiS z' j
def TnW (z0 z : ZS) : Prop := zFt z.1 = 0 → TgW z0 z ∧ zAt z.1 ≤ 500
section
variable {z0 z z' : ZS} {j n k : Nat} {N : Int → Int}
theorem sk_re {i : Nat} (h : (reS z' i).1 = (reS z i).1) : (SkD z' i ↔ SkD z i) ∧ fiS z' i = fiS z i := by sorry
theorem TnW.hd (h : TnW z0 z) (e0 : snM z' = snM z) (e : ∀ i, i < snM z → (reS z' i).1 = (reS z i).1) (g : GpY z.1 z'.1) : TnW z0 z' := by sorry
theorem TnW.m (h : TnW z0 z) (e : z'.2.2.1 = z.2.2.1) (g : GpY z.1 z'.1) : TnW z0 z' := by sorry
theorem TnW.ac (h : TnW z0 z) : TnW z0 (accM z) := h.m rfl (gd_acc _)
theorem TnW.ra {c : Int} (h : TnW z0 z) : TnW z0 (raiM c z) := h.m rfl (gd_rai _)
theorem TnW.xp {c : Int} (h : TnW z0 z) : TnW z0 (xpM c z) := h.m rfl (gd_xp _)
theorem TnW.ty (h : TnW z0 z) : TnW z0 (typM z) := h.m rfl (gd_typ _)
theorem TnW.dc {ty f g : Int} (h : TnW z0 z) : TnW z0 (dcM N ty f g z) := h.m rfl (gd_dcl _)
theorem TnW.s (h : TnW z0 z) (e1 : z'.1 = z.1) (e : z'.2.2.1 = z.2.2.1) : TnW z0 z' := h.m e (by rw [e1]; exact GpY.rf)
theorem TnW.co {o a b t : Int} (h : TnW z0 z) : TnW z0 (coM o a b t z) := h.s rfl rfl
theorem TnW.cx {o a b t : Int} (h : TnW z0 z) : TnW z0 (cxM o a b t z) := h.s rfl rfl
theorem TnW.it {y : ItZ} (h : TnW z0 z) : TnW z0 (z.1, y :: z.2.1, z.2.2) := h.s rfl rfl
theorem TnW.ve {t : Int} {o : List (Int × Int)} (h : TnW z0 z) : TnW z0 (veM t o z) := h.s rfl rfl
theorem TnW.ar {i : Int} (h : TnW z0 z) : TnW z0 (arM i z) := h.s rfl rfl
theorem TnW.un (h : TnW z0 z) : TnW z0 (unM j z) := h.ar
theorem TnW.th (h : TnW z0 z) : TnW z0 (thM z) := h.s rfl rfl
theorem TnW.se {f : SrZ → SrZ} (h : TnW z0 z) (q : ∀ x : SrZ, (f x).1 = x.1) : TnW z0 (seM j f z) := by sorry
/-- one that has no STEP begins -/
theorem TnW.be {c l : Int} (h : TnW z0 z) (hc : c = 62 ∨ c = 63 ∨ c = 92 ∨ c = 93 ∨ c = 94) : TnW z0 (beM c l z) := by sorry
/-- one that has a STEP begins, and a token is taken -/
theorem TnW.bs (h : TnW z0 z) (e0 : snM z' = snM z + 1) (e1 : ∀ i, i < snM z → (reS z' i).1 = (reS z i).1) (e2 : fiS z' (snM z) = zAt z.1) (g : GpY z.1 z'.1) (lt : zAt z.1 ≤ 500 → zFt z'.1 = 0 → zAt z.1 < zAt z'.1) : TnW z0 z' := by sorry
theorem be_re {c l : Int} : snM (beM c l z) = snM z + 1 ∧ (∀ i, i < snM z → (reS (beM c l z) i).1 = (reS z i).1) ∧ fiS (beM c l z) (snM z) = zAt z.1 := by sorry
/-- it begins, then a token -/
theorem TnW.ba {c l : Int} (h : TnW z0 z) (e : z'.2.2.1 = (beM c l z).2.2.1) (e1 : z'.1 = accY z.1) : TnW z0 z' := by sorry
theorem TnW.ee (h : TnW z0 z) : TnW z0 (eM N n z) := by sorry
theorem TnW.ex (h : TnW z0 z) : TnW z0 (exS N j n z) := h.ee.se (by intro _; rfl)
theorem TnW.cd (h : TnW z0 z) : TnW z0 (cdM N j n z) := (h.xp.ex).xp
theorem TnW.bd (h : TnW z0 z) : TnW z0 (bdM j k z) := (h.se (by intro _; rfl)).un
theorem TnW.en {c : Nat} (h : TnW z0 z) : TnW z0 (enM j c z) := h.co
theorem TnW.po (h : TnW z0 z) : TnW z0 (poM z) := h.cx
theorem TnW.pu {x : XrZ} (h : TnW z0 z) : TnW z0 (puM x z) := h.it
theorem TnW.va2 {f v t : Int} (h : TnW z0 z) : TnW z0 (va2M N j n f v t z) := by sorry
theorem TnW.va1 {f ty : Int} (h : TnW z0 z) : TnW z0 (va1M N j n f ty z) := (h.dc.se (by intro _; rfl)).va2
theorem TnW.va (h : TnW z0 z) : TnW z0 (vaM N j n z) := by sorry
theorem TnW.xs (h : TnW z0 z) : TnW z0 (xsM N n z) := by sorry
theorem TnW.to (h : TnW z0 z) : TnW z0 (toM N n z) := by sorry
theorem TnW.fx1 (h : TnW z0 z) : TnW z0 (fx1M N n z) := ((h.be (by omega)).ex).po
end
theorem TnW.fxl {z0 : ZS} {N : Int → Int} {n : Nat} : ∀ (f j : Nat) (z : ZS), TnW z0 z → TnW z0 (fxlM N n f j z) := by sorry
section
variable {z0 z : ZS} {j n k : Nat} {N : Int → Int}
theorem TnW.fx (h : TnW z0 z) : TnW z0 (fxM N n z) := TnW.fxl 501 _ _ h.fx1
theorem TnW.cs {jn : Int} (h : TnW z0 z) (hc : codY z.1 = 62 ∨ codY z.1 = 63) : TnW z0 (csM N jn n z) := by sorry
theorem TnW.ju {c : Int} (h : TnW z0 z) : TnW z0 (juM N c n z) := by sorry
theorem TnW.gi {c : Int} (h : TnW z0 z) : TnW z0 (giM N c n z) := by sorry
abbrev TwS (St : ZS → ZS) : Prop := ∀ z0 z, TnW z0 z → TnW z0 (St z)
abbrev TwR (Rw : Int → Nat → ZS → ZS × Int) : Prop := ∀ (sw : Int) (jn : Nat) (z0 z : ZS), TnW z0 z → TnW z0 (Rw sw jn z).1
variable {St : ZS → ZS} {Rw : Int → Nat → ZS → ZS × Int}
theorem TnW.blk (h : TnW z0 z) (r : TwR Rw) {o : List (Int × Int)} : TnW z0 (blkM Rw j o z) := by sorry
theorem TnW.bo (h : TnW z0 z) (r : TwR Rw) {o : List (Int × Int)} : TnW z0 (boM Rw n o z) := (h.be (by omega)).blk r
theorem TnW.bl (h : TnW z0 z) (r : TwR Rw) : TnW z0 (blM Rw n z) := by sorry
theorem TnW.em (h : TnW z0 z) : TnW z0 (emM n z) := by sorry
theorem TnW.la (h : TnW z0 z) (s : TwS St) : TnW z0 (laM n St z) := by sorry
theorem TnW.if2 (h : TnW z0 z) (s : TwS St) {c : Nat} : TnW z0 (if2M St j k c z) := by sorry
theorem TnW.if (h : TnW z0 z) (s : TwS St) : TnW z0 (ifM N n St z) := by sorry
theorem TnW.wh (h : TnW z0 z) (s : TwS St) : TnW z0 (whM N n St z) := by sorry
theorem TnW.do (h : TnW z0 z) (s : TwS St) : TnW z0 (doM N n St z) := by sorry
theorem TnW.fo1 (h : TnW z0 z) : TnW z0 (fo1M N j n z) := by sorry
theorem TnW.fo2 (h : TnW z0 z) : TnW z0 (fo2M N j k n z) := by sorry
theorem TnW.fo3 (h : TnW z0 z) : TnW z0 (fo3M N j n z) := by sorry
theorem TnW.fob (h : TnW z0 z) : TnW z0 (foB N j k n z) := (((((((h.xp.ar.fo1).xp).co).fo2).xp.co).fo3).xp).co
theorem TnW.fo (h : TnW z0 z) (s : TwS St) : TnW z0 (foM2 N n St z) := by sorry
theorem TnW.sw (h : TnW z0 z) (r : TwR Rw) : TnW z0 (swM N n Rw z) := by sorry
theorem TnW.tr1 (h : TnW z0 z) : TnW z0 (tr1M z) := by sorry
theorem TnW.tr2 (h : TnW z0 z) (r : TwR Rw) : TnW z0 (tr2M N Rw j k n z) := by sorry
theorem TnW.tr3 (h : TnW z0 z) (r : TwR Rw) : TnW z0 (tr3M Rw j k n z) := by sorry
theorem TnW.tr (h : TnW z0 z) (r : TwR Rw) : TnW z0 (trM N n Rw z) := by sorry
theorem TnW.sm (h : TnW z0 z) (s : TwS St) (r : TwR Rw) : TnW z0 (smM N n St Rw z) := by sorry
theorem TnW.rp2 (h : TnW z0 z) (s : TwS St) : TnW z0 (rp2M N n St z) := by sorry
theorem TnW.rp (h : TnW z0 z) (s : TwS St) {jn : Nat} {sw c : Int} : TnW z0 (rpM N n St sw jn c z) := by sorry
theorem TnW.nx {l : Int} {i : Nat} (h : TnW z0 z) : TnW z0 (nxM l i z) := by sorry
end
theorem TnW.rwl {N : Int → Int} {St : ZS → ZS} (s : TwS St) {n jn : Nat} {sw : Int} {z0 : ZS} : ∀ (k : Nat) (f l : Int) (z : ZS), TnW z0 z → TnW z0 (rwlM N n St sw jn k f l z).1 := by sorry
theorem TnW.ls {N : Int → Int} : ∀ n, TwS (lsM N n).1 ∧ TwR (lsM N n).2 := by sorry
section
variable {z0 z : ZS} {N : Int → Int}
theorem TnW.pa2 {i : Nat} {ty f : Int} (h : TnW z0 z) : TnW z0 (pa2M N i ty f z) := by sorry
theorem TnW.pa1 {i : Nat} (h : TnW z0 z) : TnW z0 (pa1M N i z) := by sorry
theorem TnW.pal : ∀ (f i : Nat) (z : ZS), TnW z0 z → TnW z0 (palM N f i z) := by sorry
theorem TnW.me (h : TnW z0 z) : TnW z0 (meM N z) := by sorry
theorem TnW.pr : ∀ (f : Nat) (z : ZS), TnW z0 z → TnW z0 (prM N f z) := by sorry
end
/-- in a program -/
theorem tki_pr {N : Int → Int} {f : Nat} {s : SpC} (h : zFt (prM N f (z0S s)).1 = 0) (hs : zAt s = 0) : TkI (prM N f (z0S s)) ∧ ∀ i, i < snM (prM N f (z0S s)) → SkD (prM N f (z0S s)) i → 0 ≤ fiS (prM N f (z0S s)) i ∧ fiS (prM N f (z0S s)) i < zAt (prM N f (z0S s)).1 := by sorry
/-! tokens of NAMES in exps, and what they mean as variables -/
abbrev NmI (x : XrZ) : Prop := x.1.1 = 2 ∨ x.1.1 = 6 ∨ x.1.1 = 9 ∨ x.1.1 = 10
theorem zk_n {s t : SpC} (h : NpY s t) : zK t = zK s := by sorry
def EpW (N : Int → Int) (K : List (Int × Int)) (Kd : Nat → Int) (lo hi : Int) (t : List XrZ) : Prop := (∀ x ∈ t, (NmI x ∨ x.1.1 = 14) → lo ≤ x.2.1.1 ∧ x.2.1.1 < hi ∧ Kd x.2.1.1.toNat = 80) ∧ (∀ x ∈ t, (x.1.1 = 2 ∨ x.1.1 = 6 ∨ x.1.1 = 9 ∨ x.1.1 = 14) → x.2.1.2.1 = lkZ N K x.2.1.1) ∧ t.Pairwise (fun x y => NmI x → NmI y → ¬ x.2.1.1 = y.2.1.1) ∧ ∀ x ∈ t, x.1.1 = 14 → ∃ y ∈ t, y.1.1 = 9 ∧ y.2.1.1 = x.2.1.1
section
variable {N : Int → Int} {K : List (Int × Int)} {Kd : Nat → Int} {lo mid hi : Int} {t u : List XrZ} {x : XrZ}
theorem EpW.nil : EpW N K Kd lo hi [] := by sorry
theorem EpW.wd {lo' hi' : Int} (h : EpW N K Kd lo hi t) (h1 : lo' ≤ lo) (h2 : hi ≤ hi') : EpW N K Kd lo' hi' t := by sorry
theorem EpW.ap (h : EpW N K Kd lo mid t) (g : EpW N K Kd mid hi u) (h1 : lo ≤ mid) (h2 : mid ≤ hi) : EpW N K Kd lo hi (u ++ t) := by sorry
/-- one that is no NAME -/
theorem EpW.o1 (h : ¬ NmI x ∧ ¬ x.1.1 = 14) : EpW N K Kd lo hi [x] := by sorry
/-- one that is a NAME -/
theorem EpW.n1 (h : NmI x) (h1 : lo ≤ x.2.1.1 ∧ x.2.1.1 < hi ∧ Kd x.2.1.1.toNat = 80) (h2 : ¬ x.1.1 = 10 → x.2.1.2.1 = lkZ N K x.2.1.1) : EpW N K Kd lo hi [x] := by sorry
end
/-- from z to z' an exp is read, or a piece of one -/
def EwW (N : Int → Int) (z z' : ZS) : Prop := (GpY z.1 z'.1 ∧ z'.2.2 = z.2.2 ∧ zK z'.1 = zK z.1) ∧ (zFt z'.1 = 0 → zAt z.1 ≤ 500 → ∃ t : List XrZ, z'.2.1 = t.map Sum.inl ++ z.2.1 ∧ EpW N z.2.2.2.1.1 (zK z.1) (zAt z.1) (zAt z'.1) t)
section
variable {N : Int → Int} {z z1 z2 : ZS} {x : XrZ}
theorem EwW.rf : EwW N z z := ⟨⟨GpY.rf, rfl, rfl⟩, fun _ _ => ⟨[], rfl, EpW.nil⟩⟩
theorem EwW.tr (h : EwW N z z1) (g : EwW N z1 z2) : EwW N z z2 := by sorry
theorem EwW.m {z' : ZS} (g : GpY z.1 z'.1) (k : NpY z.1 z'.1) (e : z'.2 = z.2) : EwW N z z' := by sorry
theorem EwW.ac : EwW N z (accM z) := EwW.m (gd_acc _) (gn_acc _) rfl
theorem EwW.xp {c : Int} : EwW N z (xpM c z) := EwW.m (gd_xp _) (gn_xp _) rfl
theorem EwW.ra {c : Int} : EwW N z (raiM c z) := EwW.m (gd_rai _) (gn_rai _) rfl
theorem EwW.ty : EwW N z (typM z) := EwW.m (gd_typ _) (gn_typ _) rfl
theorem EwW.pu (h : ¬ NmI x ∧ ¬ x.1.1 = 14) : EwW N z (puM x z) := ⟨⟨GpY.rf, rfl, rfl⟩, fun _ _ => ⟨[x], rfl, EpW.o1 h⟩⟩
/-- a NAME at token q -/
theorem EwW.nm {z' : ZS} (g : GpY z.1 z'.1) (k : NpY z.1 z'.1) (e : z'.2 = (.inl x :: z.2.1, z.2.2)) (h : NmI x) (h1 : zFt z'.1 = 0 → zAt z.1 ≤ x.2.1.1 ∧ x.2.1.1 < zAt z'.1 ∧ zK z.1 x.2.1.1.toNat = 80) (h2 : ¬ x.1.1 = 10 → x.2.1.2.1 = lkZ N z.2.2.2.1.1 x.2.1.1) : EwW N z z' := by sorry
end
abbrev EwM (N : Int → Int) (f : ZS → ZS) : Prop := ∀ z, EwW N z (f z)
section
variable {N : Int → Int}
theorem ew_cl {p : Int} : ∀ (W : WtZ) (z : ZS), EwW N z (clM p W z) := by sorry
theorem ew_fk {z : ZS} : EwW N z (fkM z) := by sorry
theorem ew_chl {O : ZS → ZS} (h : EwM N O) : ∀ (f : Nat) (W : WtZ) (r : Int × Int) (z : ZS), EwW N z (chlM O f W r z) := by sorry
theorem ew_chc {O E C : ZS → ZS} (hO : EwM N O) (hE : EwM N E) (hC : EwM N C) : EwM N (chcM O E C) := by sorry
/-- an assignment -/
theorem eww_asg {E : ZS → ZS} (hE : EwM N E) {z : ZS} (h80 : codY z.1 = 80) : EwW N z (asgM N E z) := by sorry
theorem ew_xps {O E C : ZS → ZS} (hO : EwM N O) (hE : EwM N E) (hC : EwM N C) : EwM N (xpsM N O E C) := by sorry
/-- a call: its arguments, its end -/
def EcW (N : Int → Int) (r : Int) (z z' : ZS) : Prop := (GpY z.1 z'.1 ∧ z'.2.2 = z.2.2 ∧ zK z'.1 = zK z.1) ∧ (zFt z'.1 = 0 → zAt z.1 ≤ 500 → ∃ (c : XrZ) (t : List XrZ), z'.2.1 = (c :: t).map Sum.inl ++ z.2.1 ∧ (c.1.1 = 10 ∧ c.2.1.1 = r) ∧ EpW N z.2.2.2.1.1 (zK z.1) (zAt z.1) (zAt z'.1) t)
theorem EcW.pre {r : Int} {z z1 z2 : ZS} (h : EwW N z z1) (g : EcW N r z1 z2) : EcW N r z z2 := by sorry
theorem ec_cle {r : Int × Int} {l : List Int} {z : ZS} : EcW N r.1 z (cleM r l z) := by sorry
theorem ec_clp {E : ZS → ZS} (hE : EwM N E) (r : Int × Int) : ∀ (f : Nat) (l : List Int) (z : ZS), EcW N r.1 z (clpM E r f l z) := by sorry
theorem ew_opr {m : Nat} {E : ZS → ZS} {I : Int → ZS → ZS} (hE : EwM N E) (hI : ∀ g, EwM N (I g)) (g : Int) : EwM N (oprM N m E I g) := by sorry
theorem ew_lv : ∀ n, EwM N (eM N n) ∧ EwM N (cM N n) ∧ ∀ g, EwM N (oM N n g) := by sorry
end
/-! which variables are known where -/
def vrL : List (Int × Int × Int × Int) → Nat → Int × Int × Int × Int
  | [], _ => (0, 0, 0, -1)
  | a :: l, u => if u = l.length then a else vrL l u
def knW (z : ZS) : List (Int × Int) := z.2.2.2.1.1
def enW (z : ZS) (u : Nat) : Int := z.2.2.2.2.1 u
def mcW (z : ZS) : Int := ((zMs z.1).length : Int) - 1
def vnW (z : ZS) : Nat := (zVs z.1).length
def VisW (N : Int → Int) (z : ZS) (m q : Int) (u : Nat) : Prop := (vrL (zVs z.1) u).2.2.2 = m ∧ (vrL (zVs z.1) u).1 < q ∧ ((∃ p ∈ knW z, p.1 = (u : Int)) ∨ q ≤ enW z u) ∧ N (vrL (zVs z.1) u).1 = N q
def LkW (N : Int → Int) (z : ZS) (m q v : Int) : Prop := -1 ≤ v ∧ (0 ≤ v → v < (vnW z : Int) ∧ VisW N z m q v.toNat) ∧ ∀ u : Nat, v < (u : Int) → u < vnW z → ¬ VisW N z m q u
abbrev NvI (x : XrZ) : Prop := x.1.1 = 2 ∨ x.1.1 = 6 ∨ x.1.1 = 9 ∨ x.1.1 = 14
def clW (z : ZS) (u : Nat) : Int := z.2.2.2.2.2.1 u
/-- whether a variable's NAME was known already -/
def CkW (N : Int → Int) (z : ZS) : Prop := ∀ u, u < vnW z → ∃ w, (0 ≤ w ↔ clW z u = 1) ∧ LkW N z (vrL (zVs z.1) u).2.2.2 (vrL (zVs z.1) u).1 w
def ItW (N : Int → Int) (z : ZS) : Prop := (∀ x l, (.inl x :: l) <:+ z.2.1 → NvI x → (x.2.1.1 < zAt z.1 ∧ 0 ≤ x.2.1.1 ∧ zK z.1 x.2.1.1.toNat = 80) ∧ LkW N z (mdZ l) x.2.1.1 x.2.1.2.1) ∧ CkW N z
/-- inside a method -/
def KvI (N : Int → Int) (z : ZS) : Prop := (0 ≤ zAt z.1 ∧ zAt z.1 ≤ 500) ∧ ((knW z).Pairwise (fun a b => b.1 < a.1) ∧ ∀ p ∈ knW z, (0 ≤ p.1 ∧ p.1 < (vnW z : Int)) ∧ (vrL (zVs z.1) p.1.toNat).1 = p.2 ∧ (vrL (zVs z.1) p.1.toNat).2.2.2 = mcW z) ∧ (∀ u, u < vnW z → (vrL (zVs z.1) u).2.2.2 = mcW z → ¬ (∃ p ∈ knW z, p.1 = (u : Int)) → enW z u < zAt z.1) ∧ (∀ u, u < vnW z → ((vrL (zVs z.1) u).1 < zAt z.1 ∧ (vrL (zVs z.1) u).2.2.2 ≤ mcW z) ∧ 0 ≤ (vrL (zVs z.1) u).1 ∧ zK z.1 (vrL (zVs z.1) u).1.toNat = 80 ∧ 0 ≤ (vrL (zVs z.1) u).2.1 ∧ (vrL (zVs z.1) u).2.1 ≤ 4) ∧ ItW N z ∧ (mdZ z.2.1 : Int) = mcW z
def RkW (N : Int → Int) (z0 z : ZS) : Prop := (GpY z0.1 z.1 ∧ snM z0 ≤ snM z ∧ ∀ i, i < snM z0 → knS z i = knS z0 i) ∧ (zFt z.1 = 0 → KvI N z0 → KvI N z ∧ ∃ seg, knW z = seg ++ knW z0)
section
variable {N : Int → Int} {z0 z z' z1 : ZS} {j n k : Nat}
theorem lkw_cg {m q v : Int} (h : LkW N z m q v) (hn : vnW z' = vnW z) (hv : ∀ u, u < vnW z → (VisW N z' m q u ↔ VisW N z m q u)) : LkW N z' m q v := by sorry
theorem KvI.mv (h : KvI N z) (e2 : z'.1.2 = z.1.2) (ha : zAt z.1 ≤ zAt z'.1 ∧ zAt z'.1 ≤ 500) (ek : knW z' = knW z) (ee : enW z' = enW z) (ef : clW z' = clW z) (hi : ∀ x l, (.inl x :: l) <:+ z'.2.1 → NvI x → (.inl x :: l) <:+ z.2.1) (hm : mdZ z'.2.1 = mdZ z.2.1) : KvI N z' := by sorry
theorem RkW.rf : RkW N z z := by sorry
theorem RkW.tr (h : RkW N z0 z) (g : RkW N z z1) : RkW N z0 z1 := by sorry
/-- nothing that matters changes -/
theorem RkW.mv (g : GpY z.1 z'.1) (e2 : z'.1.2 = z.1.2) (ek : knW z' = knW z) (ee : enW z' = enW z) (ef : clW z' = clW z) (hi : ∀ x l, (.inl x :: l) <:+ z'.2.1 → NvI x → (.inl x :: l) <:+ z.2.1) (hm : mdZ z'.2.1 = mdZ z.2.1) (hs : snM z ≤ snM z' ∧ ∀ i, i < snM z → knS z' i = knS z i) : RkW N z z' := by sorry
theorem RkW.s {s' : SpC} (g : GpY z.1 s') (e2 : s'.2 = z.1.2) : RkW N z (s', z.2) := by sorry
theorem RkW.ac : RkW N z (accM z) := RkW.s (gd_acc _) mv_acc.1
theorem RkW.ra {c : Int} : RkW N z (raiM c z) := RkW.s (gd_rai _) mv_rai.1
theorem RkW.xp {c : Int} : RkW N z (xpM c z) := RkW.s (gd_xp _) mv_xp.1
theorem RkW.ty : RkW N z (typM z) := RkW.s (gd_typ _) mv_typ.1
theorem RkW.it {y : Int × Int × Int × Int × Int} (hy : ¬ y.1 = 54) : RkW N z (z.1, .inr y :: z.2.1, z.2.2) := by sorry
theorem RkW.co {o a b t : Int} (h : ¬ o = 54) : RkW N z (coM o a b t z) := RkW.it h
theorem RkW.cx {o a b t : Int} (h : ¬ o = 54) : RkW N z (cxM o a b t z) := RkW.it h
theorem RkW.pu {x : XrZ} (h : x.1.1 = 15) : RkW N z (puM x z) := by sorry
theorem RkW.ar {i : Int} : RkW N z (arM i z) := by sorry
theorem RkW.un : RkW N z (unM j z) := RkW.ar
theorem RkW.th : RkW N z (thM z) := by sorry
theorem RkW.se {f : SrZ → SrZ} (q : ∀ x : SrZ, (f x).2.1 = x.2.1) : RkW N z (seM j f z) := by sorry
theorem RkW.be {c l : Int} : RkW N z (beM c l z) := by sorry
theorem kn_be {c l : Int} : knS (beM c l z) (snM z) = knW z := by sorry
theorem RkW.bg {c : Int} : RkW N z (bgM c n z) := RkW.be.tr (RkW.co (by decide))
theorem RkW.bh {c : Int} : RkW N z (bgH c n z) := RkW.bg.tr RkW.th
theorem RkW.en {c : Nat} : RkW N z (enM j c z) := RkW.co (by decide)
theorem RkW.po : RkW N z (poM z) := RkW.cx (by decide)
/-- a variable's link: the latest one known under the NAME -/
theorem lkz_l {K : List (Int × Int)} {q : Int} (hK : K.Pairwise (fun a b => b.1 < a.1)) : (lkZ N K q = -1 ∧ ∀ p ∈ K, ¬ N p.2 = N q) ∨ ∃ p ∈ K, lkZ N K q = p.1 ∧ N p.2 = N q ∧ ∀ p' ∈ K, N p'.2 = N q → p'.1 ≤ p.1 := by sorry
theorem lkz_ok (h : KvI N z) {q : Int} (hq : zAt z.1 ≤ q) : LkW N z (mcW z) q (lkZ N (knW z) q) := by sorry
theorem e_2 (h : 0 ≤ zAt z.1) : (eM N n z).1.2 = z.1.2 := by sorry
theorem RkW.ee : RkW N z (eM N n z) := by sorry
theorem dcl_ok {ty f h : Int} {s : SpC} (e : zFt (dclY ty f h s) = 0) : zVs (dclY ty f h s) = (zAt s, ty, f, ((zMs s).length : Int) - 1) :: zVs s ∧ zMs (dclY ty f h s) = zMs s ∧ zAt s < zAt (dclY ty f h s) ∧ zK s (zAt s).toNat = 80 := by sorry
theorem RkW.dc {ty f h : Int} (ht : 0 ≤ ty ∧ ty ≤ 4) : RkW N z (dcM N ty f h z) := by sorry
theorem vez_v {t : Int} {f : Nat → Int} {u : Nat} : ∀ {l : List (Int × Int)}, ((∃ p ∈ l, p.1 = (u : Int)) → veZ t l f u = t) ∧ (¬ (∃ p ∈ l, p.1 = (u : Int)) → veZ t l f u = f u) := by sorry
/-- variables are left -/
theorem RkW.vv {s' : SpC} {t : Int} {out : List (Int × Int)} (h : RkW N z0 z) (ho : out = knW z0) (g : GpY z.1 s') (e2 : s'.2 = z.1.2) (h1 : zAt z.1 - 1 ≤ t) (h2 : zFt s' = 0 → zAt z.1 ≤ 500 → t < zAt s') : RkW N z0 (s', (veM t out z).2) := by sorry
theorem RkW.vx {c : Int} {out : List (Int × Int)} (h : RkW N z0 z) (ho : out = knW z0) : RkW N z0 (xpM c (veM (zAt z.1) out z)) := by sorry
theorem RkW.vf {out : List (Int × Int)} (h : RkW N z0 z) (ho : out = knW z0) : RkW N z0 (veM (zAt z.1 - 1) out z) := by sorry
end
/-! which variables are known where: all that is read -/
section
variable {N : Int → Int} {z0 z : ZS} {j n k : Nat}
theorem RkW.ex : RkW N z (exS N j n z) := RkW.ee.tr (RkW.se (by intro _; rfl))
theorem RkW.cd : RkW N z (cdM N j n z) := (RkW.xp.tr RkW.ex).tr RkW.xp
theorem RkW.bd : RkW N z (bdM j k z) := (RkW.se (f := sBd k) (by intro _; rfl)).tr RkW.un
theorem RkW.xs : RkW N z (xsM N n z) := (((RkW.bg.tr RkW.ex).tr RkW.po).tr RkW.xp).tr RkW.en
theorem RkW.va2 {f v t : Int} : RkW N z (va2M N j n f v t z) := by sorry
theorem tyv_rg {s : SpC} : 0 ≤ tyvY s ∧ tyvY s ≤ 4 := by sorry
theorem RkW.va1 {f ty : Int} (ht : 0 ≤ ty ∧ ty ≤ 4) : RkW N z (va1M N j n f ty z) := by sorry
theorem RkW.va : RkW N z (vaM N j n z) := by sorry
theorem RkW.to : RkW N z (toM N n z) := ((RkW.bg.tr RkW.va).tr RkW.xp).tr RkW.en
theorem RkW.fx1 : RkW N z (fx1M N n z) := (RkW.be.tr RkW.ex).tr RkW.po
end
theorem RkW.fxl {N : Int → Int} {n : Nat} : ∀ (f j : Nat) (z : ZS), RkW N z (fxlM N n f j z) := by sorry
section
variable {N : Int → Int} {z0 z : ZS} {j n k : Nat}
theorem RkW.fx : RkW N z (fxM N n z) := RkW.fx1.tr (RkW.fxl 501 _ _)
theorem RkW.cs {jn : Int} : RkW N z (csM N jn n z) := by sorry
theorem RkW.ju {c : Int} (hc : c = 64 ∨ c = 65) : RkW N z (juM N c n z) := by sorry
theorem RkW.gi {c : Int} (hc : c = 66 ∨ c = 67) : RkW N z (giM N c n z) := by sorry
abbrev RkS (N : Int → Int) (St : ZS → ZS) : Prop := ∀ z, RkW N z (St z)
abbrev RkR (N : Int → Int) (Rw : Int → Nat → ZS → ZS × Int) : Prop := ∀ (sw : Int) (jn : Nat) (z : ZS), RkW N z (Rw sw jn z).1
variable {St : ZS → ZS} {Rw : Int → Nat → ZS → ZS × Int}
theorem RkW.blk (h : RkW N z0 z) (r : RkR N Rw) {o : List (Int × Int)} (ho : o = knW z0) : RkW N z0 (blkM Rw j o z) := by sorry
theorem RkW.bo (h : RkW N z0 z) (r : RkR N Rw) {o : List (Int × Int)} (ho : o = knW z0) : RkW N z0 (boM Rw n o z) := (h.tr RkW.be).blk r ho
theorem RkW.bl (r : RkR N Rw) : RkW N z (blM Rw n z) := (RkW.blk (RkW.bh) r rfl).tr RkW.en
theorem RkW.em : RkW N z (emM n z) := (RkW.bg.tr RkW.ac).tr RkW.en
theorem RkW.la (s : RkS N St) : RkW N z (laM n St z) := by sorry
theorem RkW.if2 (s : RkS N St) {c : Nat} : RkW N z (if2M St j k c z) := by sorry
theorem RkW.if (s : RkS N St) : RkW N z (ifM N n St z) := by sorry
theorem RkW.wh (s : RkS N St) : RkW N z (whM N n St z) := by sorry
theorem RkW.do (s : RkS N St) : RkW N z (doM N n St z) := by sorry
theorem RkW.fo1 : RkW N z (fo1M N j n z) := by sorry
theorem RkW.fo2 : RkW N z (fo2M N j k n z) := by sorry
theorem RkW.fo3 : RkW N z (fo3M N j n z) := by sorry
theorem RkW.fob : RkW N z (foB N j k n z) := by sorry
/-- what was known when S j began -/
theorem kn_j {c : Int} {w : ZS} (h : RkW N (bgH c n z) w) : knS w (snM z) = knW (bgH c n z) := by sorry
theorem RkW.fo (s : RkS N St) : RkW N z (foM2 N n St z) := by sorry
theorem RkW.sw (r : RkR N Rw) : RkW N z (swM N n Rw z) := by sorry
theorem RkW.tr1 : RkW N z (tr1M z) := by sorry
theorem RkW.tr2 (h : RkW N z0 z) (r : RkR N Rw) (hk : knS z j = knW z0) : RkW N z0 (tr2M N Rw j k n z) := by sorry
theorem RkW.tr3 (h : RkW N z0 z) (r : RkR N Rw) (hk : knS z j = knW z0) : RkW N z0 (tr3M Rw j k n z) := by sorry
theorem RkW.trr (r : RkR N Rw) : RkW N z (trM N n Rw z) := by sorry
theorem RkW.sm (s : RkS N St) (r : RkR N Rw) : RkW N z (smM N n St Rw z) := by sorry
theorem RkW.rp2 (s : RkS N St) : RkW N z (rp2M N n St z) := by sorry
theorem RkW.rp (s : RkS N St) {jn : Nat} {sw c : Int} : RkW N z (rpM N n St sw jn c z) := by sorry
theorem RkW.nx {l : Int} {i : Nat} : RkW N z (nxM l i z) := by sorry
end
theorem RkW.rwl {N : Int → Int} {St : ZS → ZS} (s : RkS N St) {n jn : Nat} {sw : Int} : ∀ (k : Nat) (f l : Int) (z : ZS), RkW N z (rwlM N n St sw jn k f l z).1 := by sorry
theorem RkW.ls {N : Int → Int} : ∀ n, RkS N (lsM N n).1 ∧ RkR N (lsM N n).2 := by sorry
/-- between methods -/
def KvP (N : Int → Int) (z : ZS) : Prop := (0 ≤ zAt z.1 ∧ zAt z.1 ≤ 500) ∧ knW z = [] ∧ (∀ u, u < vnW z → ((vrL (zVs z.1) u).1 < zAt z.1 ∧ (vrL (zVs z.1) u).2.2.2 ≤ mcW z) ∧ 0 ≤ (vrL (zVs z.1) u).1 ∧ zK z.1 (vrL (zVs z.1) u).1.toNat = 80 ∧ 0 ≤ (vrL (zVs z.1) u).2.1 ∧ (vrL (zVs z.1) u).2.1 ≤ 4) ∧ ItW N z ∧ mdZ z.2.1 = (zMs z.1).length
section
variable {N : Int → Int} {z : ZS}
theorem RkW.pa2 {i : Nat} {ty f : Int} (ht : 0 ≤ ty ∧ ty ≤ 4) : RkW N z (pa2M N i ty f z) := by sorry
theorem RkW.pa1 {i : Nat} : RkW N z (pa1M N i z) := by sorry
theorem RkW.pal : ∀ (f i : Nat) (z : ZS), RkW N z (palM N f i z) := by sorry
theorem RkW.pa : RkW N z (paM N z) := by sorry
/-- a method begins -/
theorem kv_me0 {ty : Int} (h : KvP N z) : KvI N (me0M ty z) := by sorry
theorem kvp_mv {s' : SpC} (h : KvP N z) (g : GpY z.1 s') (e2 : s'.2 = z.1.2) : KvP N (s', z.2) := by sorry
theorem kvp_me (h : zFt z.1 = 0 → KvP N z) : zFt (meM N z).1 = 0 → KvP N (meM N z) := by sorry
end
theorem kvp_pr {N : Int → Int} : ∀ (f : Nat) (z : ZS), (zFt z.1 = 0 → KvP N z) → zFt (prM N f z).1 = 0 → KvP N (prM N f z) := by sorry
/-- in a program: what NAMES in exps mean as variables -/
theorem kv_all {N : Int → Int} {f : Nat} {s : SpC} (h : zFt (prM N f (z0S s)).1 = 0) (hs : Z0Y s) : KvP N (prM N f (z0S s)) := by sorry
/-! what is read, in the reference: variables are found as they are known -/
def CxM (Nv : Int → Int) (s : SpC) (ms : MfT) : CxT := (Nv, fun v => ((vrL (zVs s) v).2.1, (vrL (zVs s) v).2.2.1), (zVs s).length, ms)
def RdW (N : Int → Int) (σ : RS) (z : ZS) : Prop := MZ N σ z ∧ MhR σ z.1 ∧ KvP N z
theorem tk_80 {k w : Int} (h : tkR k w 80) : k = 1 := by sorry
theorem vr_vl {σ : RS} : ∀ (n u : Nat), u < n → vrL (vlR σ n) u = ((aI σ 43 u).toInt, (aI σ 44 u).toInt, (aI σ 45 u).toInt, (aI σ 46 u).toInt) := by sorry
theorem nt_pos {v : Int32} (h : 0 ≤ v) : (v.toInt : Int) = (nT v : Int) ∧ v.toNatClampNeg = nT v := by sorry
section
variable {N : Int → Int} {σ : RS} {z : ZS} {Y : RS} {Nv : Int → Int} {ms : MfT}
theorem RdW.vs (R : RdW N σ z) : (gI σ 42).toInt = (vnW z : Int) ∧ vnW z ≤ 60 ∧ ∀ u, u < vnW z → vrL (zVs z.1) u = ((aI σ 43 u).toInt, (aI σ 44 u).toInt, (aI σ 45 u).toInt, (aI σ 46 u).toInt) := by sorry
/-- a token of a NAME -/
theorem RdW.tk (R : RdW N σ z) {q : Int} (h0 : 0 ≤ q) (h1 : q < zAt z.1) (h2 : zK z.1 q.toNat = 80) : q.toNat < nT (gI σ 2) ∧ q.toNat ≤ 500 ∧ aI σ 3 q.toNat = 1 := by sorry
theorem vis_k (R : RdW N σ z) (hY : JfR (sI σ 68 1) Y) {m q : Int} {t : Int32} (ht : t.toInt = q) (h0 : 0 ≤ q) (h1 : q < zAt z.1) (h2 : zK z.1 q.toNat = 80) (h89 : (gI Y 89).toInt = m) {u : Nat} (hu : u < vnW z) : VkR Y t u ↔ VisW N z m q u := by sorry
/-- variables: of the reference, of what is read -/
theorem RdW.vt (R : RdW N σ z) (hY : JfR (sI σ 68 1) Y) {v : Int} (h0 : 0 ≤ v) (h1 : v < (vnW z : Int)) : knT (CxM Nv z.1 ms) v ∧ (aI Y 44 v.toNat).toInt = (vtT (CxM Nv z.1 ms) v).1 ∧ (¬ aI Y 45 v.toNat = 0 ↔ ¬ (vtT (CxM Nv z.1 ms) v).2 = 0) ∧ 0 ≤ (vtT (CxM Nv z.1 ms) v).1 ∧ (vtT (CxM Nv z.1 ms) v).1 ≤ 4 := by sorry
/-- find -/
theorem fd_ok (R : RdW N σ z) {x : XrZ} {l : List ItZ} (hs : (.inl x :: l) <:+ z.2.1) (hx : NvI x) (hY : JfR (sI σ 68 1) Y) {t : Int32} (ht : t.toInt = x.2.1.1) (h89 : (gI Y 89).toInt = (mdZ l : Int)) : 0 ≤ (gI Y 42).toInt ∧ (∀ r, FdR Y t r → r = x.2.1.2.1 ∨ (r < 0 ∧ x.2.1.2.1 < 0)) ∧ (0 ≤ x.2.1.2.1 → knT (CxM Nv z.1 ms) x.2.1.2.1) ∧ (knT (CxM Nv z.1 ms) x.2.1.2.1 → (aI Y 44 x.2.1.2.1.toNat).toInt = (vtT (CxM Nv z.1 ms) x.2.1.2.1).1 ∧ (¬ aI Y 45 x.2.1.2.1.toNat = 0 ↔ ¬ (vtT (CxM Nv z.1 ms) x.2.1.2.1).2 = 0) ∧ 0 ≤ (vtT (CxM Nv z.1 ms) x.2.1.2.1).1 ∧ (vtT (CxM Nv z.1 ms) x.2.1.2.1).1 ≤ 4) := by sorry
/-- a variable whose NAME was known already -/
theorem cl_ok (R : RdW N σ z) (hY : JfR (sI σ 68 1) Y) {v : Nat} (hv : v < vnW z) (h89 : gI Y 89 = aI Y 46 v) {r : Int} (hr : FdR Y (aI Y 43 v) r) : 0 ≤ r ↔ clW z v = 1 := by sorry
end
/-! a walk along all that is read, for any relation that its single steps keep -/
abbrev CdN (o : Int) : Prop := ¬ o = 54 ∧ ¬ o = 41 ∧ ¬ o = 46 ∧ ¬ o = 47 ∧ ¬ o = 22
def WkC (N : Int → Int) (R : ZS → ZS → Prop) : Prop := (∀ z, R z z) ∧ (∀ a b c, R a b → R b c → R a c) ∧ (∀ z s', GpY z.1 s' → s'.2 = z.1.2 → R z (s', z.2)) ∧ (∀ z (y : Int × Int × Int × Int × Int), CdN y.1 → R z (z.1, .inr y :: z.2.1, z.2.2)) ∧ (∀ z j n f ty, 0 ≤ ty ∧ ty ≤ 4 → R z (va1M N j n f ty z)) ∧ (∀ z i, R z (arM i z)) ∧ (∀ z, R z (thM z)) ∧ (∀ z j (f : SrZ → SrZ), (∀ x, (f x).2.1 = x.2.1) → R z (seM j f z)) ∧ (∀ z c l, R z (beM c l z)) ∧ (∀ z t o, R z (veM t o z)) ∧ (∀ z ty f h, 0 ≤ ty ∧ ty ≤ 4 → R z (dcM N ty f h z)) ∧ (∀ z ty, 0 ≤ ty ∧ ty ≤ 4 → R z (padY ty z.1, z.2)) ∧ (∀ z n, R z (eM N n z)) ∧ (∀ z n, codY z.1 = 80 → R z (laB n z)) ∧ (∀ z n c, c = 64 ∨ c = 65 → R z (juM N c n z)) ∧ (∀ z ty, zFt z.1 = 0 → codY z.1 = 80 → 0 ≤ ty ∧ ty ≤ 5 → R z (accM (me0M ty z))) ∧ (∀ z a t, R z (coM 54 a 0 t z))
theorem WkC.rf {N : Int → Int} {R : ZS → ZS → Prop} (h : WkC N R) : ∀ z, R z z := h.1
theorem WkC.tr {N : Int → Int} {R : ZS → ZS → Prop} (h : WkC N R) : ∀ a b c, R a b → R b c → R a c := h.2.1
theorem WkC.s {N : Int → Int} {R : ZS → ZS → Prop} (h : WkC N R) : ∀ z s', GpY z.1 s' → s'.2 = z.1.2 → R z (s', z.2) := h.2.2.1
theorem WkC.it {N : Int → Int} {R : ZS → ZS → Prop} (h : WkC N R) : ∀ z (y : Int × Int × Int × Int × Int), CdN y.1 → R z (z.1, .inr y :: z.2.1, z.2.2) := h.2.2.2.1
theorem WkC.va1 {N : Int → Int} {R : ZS → ZS → Prop} (h : WkC N R) : ∀ z j n f ty, 0 ≤ ty ∧ ty ≤ 4 → R z (va1M N j n f ty z) := h.2.2.2.2.1
theorem WkC.ar {N : Int → Int} {R : ZS → ZS → Prop} (h : WkC N R) : ∀ z i, R z (arM i z) := h.2.2.2.2.2.1
theorem WkC.th {N : Int → Int} {R : ZS → ZS → Prop} (h : WkC N R) : ∀ z, R z (thM z) := h.2.2.2.2.2.2.1
theorem WkC.se {N : Int → Int} {R : ZS → ZS → Prop} (h : WkC N R) : ∀ z j (f : SrZ → SrZ), (∀ x, (f x).2.1 = x.2.1) → R z (seM j f z) := h.2.2.2.2.2.2.2.1
theorem WkC.be {N : Int → Int} {R : ZS → ZS → Prop} (h : WkC N R) : ∀ z c l, R z (beM c l z) := h.2.2.2.2.2.2.2.2.1
theorem WkC.ve {N : Int → Int} {R : ZS → ZS → Prop} (h : WkC N R) : ∀ z t o, R z (veM t o z) := h.2.2.2.2.2.2.2.2.2.1
theorem WkC.dc {N : Int → Int} {R : ZS → ZS → Prop} (h : WkC N R) : ∀ z ty f h, 0 ≤ ty ∧ ty ≤ 4 → R z (dcM N ty f h z) := h.2.2.2.2.2.2.2.2.2.2.1
theorem WkC.pad {N : Int → Int} {R : ZS → ZS → Prop} (h : WkC N R) : ∀ z ty, 0 ≤ ty ∧ ty ≤ 4 → R z (padY ty z.1, z.2) := h.2.2.2.2.2.2.2.2.2.2.2.1
theorem WkC.ee {N : Int → Int} {R : ZS → ZS → Prop} (h : WkC N R) : ∀ z n, R z (eM N n z) := h.2.2.2.2.2.2.2.2.2.2.2.2.1
theorem WkC.lb {N : Int → Int} {R : ZS → ZS → Prop} (h : WkC N R) : ∀ z n, codY z.1 = 80 → R z (laB n z) := h.2.2.2.2.2.2.2.2.2.2.2.2.2.1
theorem WkC.ju {N : Int → Int} {R : ZS → ZS → Prop} (h : WkC N R) : ∀ z n c, c = 64 ∨ c = 65 → R z (juM N c n z) := h.2.2.2.2.2.2.2.2.2.2.2.2.2.2.1
theorem WkC.me {N : Int → Int} {R : ZS → ZS → Prop} (h : WkC N R) : ∀ z ty, zFt z.1 = 0 → codY z.1 = 80 → 0 ≤ ty ∧ ty ≤ 5 → R z (accM (me0M ty z)) := h.2.2.2.2.2.2.2.2.2.2.2.2.2.2.2.1
theorem WkC.en {N : Int → Int} {R : ZS → ZS → Prop} (h : WkC N R) : ∀ z a t, R z (coM 54 a 0 t z) := h.2.2.2.2.2.2.2.2.2.2.2.2.2.2.2.2
def Rl (N : Int → Int) (R : ZS → ZS → Prop) (a b : ZS) : Prop := WkC N R → R a b
section
variable {N : Int → Int} {R : ZS → ZS → Prop} {a b c z0 z : ZS} {j n k : Nat}
theorem Rl.rf : Rl N R z z := fun w => w.rf z
theorem Rl.tr (h : Rl N R a b) (g : Rl N R b c) : Rl N R a c := fun w => w.tr _ _ _ (h w) (g w)
theorem Rl.ac : Rl N R z (accM z) := fun w => w.s _ _ (gd_acc _) mv_acc.1
theorem Rl.ra {c : Int} : Rl N R z (raiM c z) := fun w => w.s _ _ (gd_rai _) mv_rai.1
theorem Rl.xp {c : Int} : Rl N R z (xpM c z) := fun w => w.s _ _ (gd_xp _) mv_xp.1
theorem Rl.ty : Rl N R z (typM z) := fun w => w.s _ _ (gd_typ _) mv_typ.1
theorem Rl.it {y : Int × Int × Int × Int × Int} (h : CdN y.1) : Rl N R z (z.1, .inr y :: z.2.1, z.2.2) := fun w => w.it _ _ h
theorem Rl.co {o a b t : Int} (h : CdN o) : Rl N R z (coM o a b t z) := fun w => w.it _ _ h
theorem Rl.cx {o a b t : Int} (h : CdN o) : Rl N R z (cxM o a b t z) := fun w => w.it _ _ h
theorem Rl.va1 {f ty : Int} (ht : 0 ≤ ty ∧ ty ≤ 4) : Rl N R z (va1M N j n f ty z) := fun w => w.va1 _ _ _ _ _ ht
theorem Rl.ar {i : Int} : Rl N R z (arM i z) := fun w => w.ar _ _
theorem Rl.un : Rl N R z (unM j z) := fun w => w.ar _ _
theorem Rl.th : Rl N R z (thM z) := fun w => w.th _
theorem Rl.se {f : SrZ → SrZ} (q : ∀ x : SrZ, (f x).2.1 = x.2.1) : Rl N R z (seM j f z) := fun w => w.se _ _ _ q
theorem Rl.be {c l : Int} : Rl N R z (beM c l z) := fun w => w.be _ _ _
theorem Rl.dc {ty f h : Int} (ht : 0 ≤ ty ∧ ty ≤ 4) : Rl N R z (dcM N ty f h z) := fun w => w.dc _ _ _ _ ht
theorem Rl.ee : Rl N R z (eM N n z) := fun w => w.ee _ _
theorem Rl.pad {ty : Int} (h : 0 ≤ ty ∧ ty ≤ 4) : Rl N R z (padY ty z.1, z.2) := fun w => w.pad _ _ h
theorem Rl.lb (c : codY z.1 = 80) : Rl N R z (laB n z) := fun w => w.lb _ _ c
theorem Rl.ju {c : Int} (hc : c = 64 ∨ c = 65) : Rl N R z (juM N c n z) := fun w => w.ju _ _ _ hc
theorem Rl.bg {c : Int} : Rl N R z (bgM c n z) := Rl.be.tr (Rl.co (by decide))
theorem Rl.bh {c : Int} : Rl N R z (bgH c n z) := Rl.bg.tr Rl.th
theorem Rl.en {c : Nat} : Rl N R z (enM j c z) := Rl.co (by decide)
theorem Rl.po : Rl N R z (poM z) := Rl.cx (by decide)
theorem Rl.vx {c : Int} {out : List (Int × Int)} (h : Rl N R z0 z) : Rl N R z0 (xpM c (veM (zAt z.1) out z)) := Rl.tr (Rl.tr h (fun w => w.ve _ _ _)) Rl.xp
theorem Rl.vf {out : List (Int × Int)} (h : Rl N R z0 z) : Rl N R z0 (veM (zAt z.1 - 1) out z) := Rl.tr h (fun w => w.ve _ _ _)
theorem Rl.ex : Rl N R z (exS N j n z) := Rl.ee.tr (Rl.se (by intro _; rfl))
theorem Rl.cd : Rl N R z (cdM N j n z) := (Rl.xp.tr Rl.ex).tr Rl.xp
theorem Rl.bd : Rl N R z (bdM j k z) := (Rl.se (f := sBd k) (by intro _; rfl)).tr Rl.un
theorem Rl.xs : Rl N R z (xsM N n z) := (((Rl.bg.tr Rl.ex).tr Rl.po).tr Rl.xp).tr Rl.en
theorem Rl.va : Rl N R z (vaM N j n z) := by sorry
theorem Rl.to : Rl N R z (toM N n z) := ((Rl.bg.tr Rl.va).tr Rl.xp).tr Rl.en
theorem Rl.fx1 : Rl N R z (fx1M N n z) := (Rl.be.tr Rl.ex).tr Rl.po
end
theorem Rl.fxl {N : Int → Int} {R : ZS → ZS → Prop} {n : Nat} : ∀ (f j : Nat) (z : ZS), Rl N R z (fxlM N n f j z) := by sorry
section
variable {N : Int → Int} {R : ZS → ZS → Prop} {z0 z : ZS} {j n k : Nat}
theorem Rl.fx : Rl N R z (fxM N n z) := Rl.fx1.tr (Rl.fxl 501 _ _)
theorem Rl.cs {jn : Int} : Rl N R z (csM N jn n z) := by sorry
theorem Rl.gi {c : Int} (hc : c = 66 ∨ c = 67) : Rl N R z (giM N c n z) := by sorry
abbrev RlS (N : Int → Int) (R : ZS → ZS → Prop) (St : ZS → ZS) : Prop := ∀ z, Rl N R z (St z)
abbrev RlR (N : Int → Int) (R : ZS → ZS → Prop) (Rw : Int → Nat → ZS → ZS × Int) : Prop := ∀ (sw : Int) (jn : Nat) (z : ZS), Rl N R z (Rw sw jn z).1
variable {St : ZS → ZS} {Rw : Int → Nat → ZS → ZS × Int}
theorem Rl.blk (h : Rl N R z0 z) (r : RlR N R Rw) {o : List (Int × Int)} : Rl N R z0 (blkM Rw j o z) := by sorry
theorem Rl.bo (h : Rl N R z0 z) (r : RlR N R Rw) {o : List (Int × Int)} : Rl N R z0 (boM Rw n o z) := (h.tr Rl.be).blk r
theorem Rl.bl (r : RlR N R Rw) : Rl N R z (blM Rw n z) := (Rl.blk (Rl.bh) r).tr Rl.en
theorem Rl.em : Rl N R z (emM n z) := (Rl.bg.tr Rl.ac).tr Rl.en
theorem Rl.la (c : codY z.1 = 80) (s : RlS N R St) : Rl N R z (laM n St z) := by sorry
theorem Rl.if2 (s : RlS N R St) {c : Nat} : Rl N R z (if2M St j k c z) := by sorry
theorem Rl.if (s : RlS N R St) : Rl N R z (ifM N n St z) := by sorry
theorem Rl.wh (s : RlS N R St) : Rl N R z (whM N n St z) := by sorry
theorem Rl.do (s : RlS N R St) : Rl N R z (doM N n St z) := by sorry
theorem Rl.fo1 : Rl N R z (fo1M N j n z) := by sorry
theorem Rl.fo2 : Rl N R z (fo2M N j k n z) := by sorry
theorem Rl.fo3 : Rl N R z (fo3M N j n z) := by sorry
theorem Rl.fob : Rl N R z (foB N j k n z) := by sorry
theorem Rl.fo (s : RlS N R St) : Rl N R z (foM2 N n St z) := by sorry
theorem Rl.sw (r : RlR N R Rw) : Rl N R z (swM N n Rw z) := by sorry
theorem Rl.tr1 : Rl N R z (tr1M z) := by sorry
theorem Rl.tr2 (h : Rl N R z0 z) (r : RlR N R Rw) : Rl N R z0 (tr2M N Rw j k n z) := by sorry
theorem Rl.tr3 (h : Rl N R z0 z) (r : RlR N R Rw) : Rl N R z0 (tr3M Rw j k n z) := by sorry
theorem Rl.trr (r : RlR N R Rw) : Rl N R z (trM N n Rw z) := by sorry
theorem Rl.sm (s : RlS N R St) (r : RlR N R Rw) : Rl N R z (smM N n St Rw z) := by sorry
theorem Rl.rp2 (s : RlS N R St) : Rl N R z (rp2M N n St z) := by sorry
theorem Rl.rp (s : RlS N R St) {jn : Nat} {sw c : Int} : Rl N R z (rpM N n St sw jn c z) := by sorry
theorem Rl.nx {l : Int} {i : Nat} : Rl N R z (nxM l i z) := by sorry
end
theorem Rl.rwl {N : Int → Int} {R : ZS → ZS → Prop} {St : ZS → ZS} (s : RlS N R St) {n jn : Nat} {sw : Int} : ∀ (k : Nat) (f l : Int) (z : ZS), Rl N R z (rwlM N n St sw jn k f l z).1 := by sorry
theorem Rl.ls {N : Int → Int} {R : ZS → ZS → Prop} : ∀ n, RlS N R (lsM N n).1 ∧ RlR N R (lsM N n).2 := by sorry
section
variable {N : Int → Int} {R : ZS → ZS → Prop} {z : ZS}
theorem Rl.pa2 {i : Nat} {ty f : Int} (ht : 0 ≤ ty ∧ ty ≤ 4) : Rl N R z (pa2M N i ty f z) := by sorry
theorem Rl.pa1 {i : Nat} : Rl N R z (pa1M N i z) := by sorry
theorem Rl.pal : ∀ (f i : Nat) (z : ZS), Rl N R z (palM N f i z) := by sorry
theorem Rl.pa : Rl N R z (paM N z) := by sorry
end
section
variable {N : Int → Int} {R : ZS → ZS → Prop} {z : ZS}
theorem Rl.me : Rl N R z (meM N z) := by sorry
end
theorem Rl.pr {N : Int → Int} {R : ZS → ZS → Prop} : ∀ (f : Nat) (z : ZS), Rl N R z (prM N f z) := by sorry
/-! tokens of NAMES (variables, methods, in exps, labels) and of jumps are apart -/
def tkL : List ItZ → List Int
  | [] => []
  | .inl x :: l => if x.1.1 = 2 ∨ x.1.1 = 6 ∨ x.1.1 = 9 ∨ x.1.1 = 10 then x.2.1.1 :: tkL l else tkL l
  | .inr y :: l => if y.1 = 41 ∨ y.1 = 46 ∨ y.1 = 47 then y.2.2.2.1 :: tkL l else tkL l
def ckZ (z : ZS) (q : Int) : Nat := (tkL z.2.1).count q + ((zVs z.1).map (fun v => v.1)).count q + ((zMs z.1).map (fun m => m.1)).count q
def NaK (K : Nat → Int) : ItZ → Prop
  | .inl x => NmI x → K x.2.1.1.toNat = 80
  | .inr y => y.1 = 41 → K y.2.2.2.1.toNat = 80
def AkI (z : ZS) : Prop := (∀ q, ckZ z q ≤ 1 ∧ (0 < ckZ z q → 0 ≤ q ∧ q < zAt z.1)) ∧ (∀ y ∈ z.2.1, NaK (zK z.1) y) ∧ ∀ q ∈ (zMs z.1).map (fun m => m.1), zK z.1 q.toNat = 80
def AkW (z0 z : ZS) : Prop := GpY z0.1 z.1 ∧ (zFt z.1 = 0 → 0 ≤ zAt z0.1 → zAt z0.1 ≤ 500 → AkI z0 → AkI z)
theorem ct_1 {q t : Int} {l : List Int} : (t :: l).count q = l.count q + if t = q then 1 else 0 := by sorry
section
variable {N : Int → Int} {z0 z z' : ZS} {a b c : ZS} {j n k : Nat}
theorem AkW.rf : AkW z z := ⟨GpY.rf, fun _ _ _ h => h⟩
theorem AkW.tr (h : AkW a b) (g : AkW b c) : AkW a c := by sorry
theorem AkW.mv (g : GpY z.1 z'.1) (e2 : z'.1.2 = z.1.2) (et : tkL z'.2.1 = tkL z.2.1) (hn : ∀ K, (∀ y ∈ z.2.1, NaK K y) → ∀ y ∈ z'.2.1, NaK K y) : AkW z z' := by sorry
/-- one token more -/
theorem AkW.one {t : Int} (g : GpY z.1 z'.1) (e2 : z'.1.2 = z.1.2) (et : tkL z'.2.1 = t :: tkL z.2.1) (ht : zFt z'.1 = 0 → 0 ≤ zAt z.1 → zAt z.1 ≤ 500 → zAt z.1 ≤ t ∧ t < zAt z'.1) (hn : zFt z'.1 = 0 → (∀ y ∈ z.2.1, NaK (zK z.1) y) → ∀ y ∈ z'.2.1, NaK (zK z.1) y) : AkW z z' := by sorry
theorem nak_c {K : Nat → Int} {l : List ItZ} {x : ItZ} (hx : NaK K x) (h : ∀ y ∈ l, NaK K y) : ∀ y ∈ x :: l, NaK K y := by sorry
theorem AkW.s {s' : SpC} (g : GpY z.1 s') (e2 : s'.2 = z.1.2) : AkW z (s', z.2) := AkW.mv g e2 rfl (fun _ h => h)
theorem AkW.it {y : Int × Int × Int × Int × Int} (h : CdN y.1) : AkW z (z.1, .inr y :: z.2.1, z.2.2) := by sorry
theorem AkW.en {a t : Int} : AkW z (coM 54 a 0 t z) := by sorry
theorem AkW.pu {x : XrZ} (h : x.1.1 = 15) : AkW z (puM x z) := by sorry
theorem AkW.i22 {a b t : Int} : AkW z (coM 22 a b t z) := by sorry
theorem AkW.dc {ty f h : Int} : AkW z (dcM N ty f h z) := by sorry
theorem pad_m {ty : Int} {s : SpC} : (zMs (padY ty s)).map (fun m => m.1) = (zMs s).map (fun m => m.1) := by sorry
theorem AkW.pad {ty : Int} : AkW z (padY ty z.1, z.2) := by sorry
end
/-! tokens of NAMES and of jumps are apart: all that is read -/
theorem tkl_app : ∀ {a b : List ItZ}, tkL (a ++ b) = tkL a ++ tkL b := by sorry
theorem tkl_e {q : Int} : ∀ {t : List XrZ}, t.Pairwise (fun x y => NmI x → NmI y → ¬ x.2.1.1 = y.2.1.1) → (tkL (t.map Sum.inl)).count q ≤ 1 ∧ (0 < (tkL (t.map Sum.inl)).count q → ∃ x ∈ t, NmI x ∧ x.2.1.1 = q) := by sorry
section
variable {N : Int → Int} {z0 z z' : ZS} {j n k : Nat}
theorem AkW.ee : AkW z (eM N n z) := by sorry
theorem AkW.va1 {f ty : Int} : AkW z (va1M N j n f ty z) := by sorry
theorem cod_k {s : SpC} {c : Int} (f : zFt s = 0) (h : codY s = c) : zK s (zAt s).toNat = c := by sorry
theorem AkW.lb (c : codY z.1 = 80) : AkW z (laB n z) := by sorry
theorem AkW.ju {c : Int} (hc : c = 64 ∨ c = 65) : AkW z (juM N c n z) := by sorry
theorem AkW.me {ty : Int} (f0 : zFt z.1 = 0) (c : codY z.1 = 80) : AkW z (accM (me0M ty z)) := by sorry
end
theorem ak_w {N : Int → Int} : WkC N AkW := by sorry
theorem ak_all {N : Int → Int} {f : Nat} {s : SpC} (h : zFt (prM N f (z0S s)).1 = 0) (hs : Z0Y s) : AkI (prM N f (z0S s)) := by sorry
/-! what a token means, where tokens are apart -/
theorem tkl_in : ∀ {L : List ItZ} {x : XrZ}, .inl x ∈ L → NmI x → 0 < (tkL L).count x.2.1.1 := by sorry
theorem me_sk {b kd : Nat → Int} {T : TbT} {m : List ItZ} {q : Nat} : ∀ {t : List ItZ}, (tkL (t ++ m)).count (q : Int) ≤ 1 → 0 < (tkL m).count (q : Int) → meZ b kd T (t ++ m) q = meZ b kd T m q := by sorry
/-- NAMES of variables in exps -/
theorem me_it {b kd : Nat → Int} {T : TbT} {L : List ItZ} (hc : ∀ q, (tkL L).count q ≤ 1) {y : XrZ} (hy : .inl y ∈ L) (k : y.1.1 = 2 ∨ y.1.1 = 6 ∨ y.1.1 = 9) (h0 : 0 ≤ y.2.1.1) : meZ b kd T L y.2.1.1.toNat = y.2.1.2.1 := by sorry
/-- NAMES of methods in exps -/
theorem me_10 {b kd : Nat → Int} {T : TbT} {L l : List ItZ} (hc : ∀ q, (tkL L).count q ≤ 1) {y : XrZ} (hy : (.inl y :: l) <:+ L) (k : y.1.1 = 10) (h0 : 0 ≤ y.2.1.1) : meZ b kd T L y.2.1.1.toNat = 100 + (T.1 (xcZ l)).2.2.2 := by sorry
/-- labels -/
theorem me_la {b kd : Nat → Int} {T : TbT} {L l : List ItZ} (hc : ∀ q, (tkL L).count q ≤ 1) {y : Int × Int × Int × Int × Int} (hy : (.inr y :: l) <:+ L) (k : y.1 = 41 ∨ ((y.1 = 46 ∨ y.1 = 47) ∧ kd y.2.2.2.1.toNat = 1)) (h0 : 0 ≤ y.2.2.2.1) : meZ b kd T L y.2.2.2.1.toNat = 200 := by sorry
/-- no NAME of an exp, no label -/
theorem me_no {b kd : Nat → Int} {T : TbT} {q : Nat} : ∀ {L : List ItZ}, (tkL L).count (q : Int) = 0 → meZ b kd T L q = b q := by sorry
/-! where STORES of variables lie; MARKS of taking have their assignment -/
def StO (z : ZS) : Prop := ∀ x l, (.inl x :: l) <:+ z.2.1 → x.1.1 = 15 → ∃ (t : List XrZ) (y : Int × Int × Int × Int × Int) (l0 : List ItZ), l = t.map Sum.inl ++ (.inr y :: l0) ∧ XdE (.inr y :: l0) l ∧ x.2.2.1.2.1 = (xcZ l : Int) - 1 ∧ (∀ w, .inl w ∈ l0 → NvI w → w.2.1.1 < (vrL (zVs z.1) x.2.1.2.1.toNat).1) ∧ ∀ w, .inl w ∈ l0 → w.1.1 = 15 → w.2.1.2.1 < x.2.1.2.1
def CpO (L : List ItZ) : Prop := ∀ x, .inl x ∈ L → x.1.1 = 14 → ∃ y, .inl y ∈ L ∧ y.1.1 = 9 ∧ y.2.1.1 = x.2.1.1 ∧ y.2.1.2.1 = x.2.1.2.1
def IvI (z : ZS) : Prop := CpO z.2.1 ∧ (∀ w, .inl w ∈ z.2.1 → NvI w → 0 ≤ w.2.1.1 ∧ w.2.1.1 < zAt z.1) ∧ (∀ w, .inl w ∈ z.2.1 → w.1.1 = 15 → 0 ≤ w.2.1.2.1 ∧ w.2.1.2.1 < (vnW z : Int)) ∧ StO z
def IvW (z0 z : ZS) : Prop := GpY z0.1 z.1 ∧ (zFt z.1 = 0 → 0 ≤ zAt z0.1 → zAt z0.1 ≤ 500 → IvI z0 → IvI z)
section
variable {N : Int → Int} {z0 z z' : ZS} {a b c : ZS} {j n k : Nat}
theorem zv_2 {s t : SpC} (h : s.2 = t.2) : zVs s = zVs t := by sorry
theorem IvW.rf : IvW z z := ⟨GpY.rf, fun _ _ _ h => h⟩
theorem IvW.tr (h : IvW a b) (g : IvW b c) : IvW a c := by sorry
theorem in_u {x : XrZ} {l : List ItZ} : ∀ {u : List (Int × Int × Int × Int × Int)}, (.inl x ∈ u.map Sum.inr ++ l ↔ .inl x ∈ l) ∧ ∀ m, (.inl x :: m) <:+ (u.map Sum.inr ++ l) → (.inl x :: m) <:+ l := by sorry
theorem IvW.mv (u : List (Int × Int × Int × Int × Int)) (e : z'.2.1 = u.map Sum.inr ++ z.2.1) (g : GpY z.1 z'.1) (ev : zVs z'.1 = zVs z.1) : IvW z z' := by sorry
theorem IvW.s {s' : SpC} (g : GpY z.1 s') (e2 : s'.2 = z.1.2) : IvW z (s', z.2) := IvW.mv [] rfl g (by show zVs s' = _; unfold zVs; rw [e2])
theorem IvW.it {y : Int × Int × Int × Int × Int} : IvW z (z.1, .inr y :: z.2.1, z.2.2) := IvW.mv [y] rfl GpY.rf rfl
theorem vrl_c {a : Int × Int × Int × Int} {l : List (Int × Int × Int × Int)} {u : Nat} : vrL (a :: l) u = if u = l.length then a else vrL l u := rfl
theorem IvW.dc {ty f h : Int} : IvW z (dcM N ty f h z) := by sorry
theorem sf_tx {x : XrZ} {l m : List ItZ} : ∀ {t : List XrZ}, (.inl x :: l) <:+ (t.map Sum.inl ++ m) → x ∈ t ∨ (.inl x :: l) <:+ m := by sorry
theorem in_tx {x : XrZ} {t : List XrZ} {m : List ItZ} : .inl x ∈ t.map Sum.inl ++ m ↔ x ∈ t ∨ .inl x ∈ m := by sorry
theorem IvW.ee : IvW z (eM N n z) := by sorry
theorem IvW.se {f : SrZ → SrZ} : IvW z (seM j f z) := IvW.mv [] rfl GpY.rf rfl
theorem IvW.va1 {f ty : Int} (ht : 0 ≤ ty ∧ ty ≤ 4) : IvW z (va1M N j n f ty z) := by sorry
theorem IvW.lb : IvW z (laB n z) := by sorry
theorem IvW.ju {c : Int} : IvW z (juM N c n z) := by sorry
end
theorem iv_w {N : Int → Int} : WkC N IvW := by sorry
theorem iv_all {N : Int → Int} {f : Nat} {s : SpC} (h : zFt (prM N f (z0S s)).1 = 0) (hs : Z0Y s) : IvI (prM N f (z0S s)) := by sorry
/-! CONSTANTS of variables: at an exp that takes one, and in the end -/
theorem xk_sf : ∀ {L : List ItZ} {k : Nat}, k < xcZ L → ∃ x l, (.inl x :: l) <:+ L ∧ xcZ l = k := by sorry
theorem sfx_lt {L la lb : List ItZ} {a b : XrZ} (ha : (.inl a :: la) <:+ L) (hb : (.inl b :: lb) <:+ L) (h : xcZ la < xcZ lb) : (.inl a :: la) <:+ lb := by sorry
theorem sf_tu {x : XrZ} {l m : List ItZ} : ∀ {t : List XrZ}, (.inl x :: l) <:+ (t.map Sum.inl ++ m) → (∃ u, (x :: u) <:+ t ∧ l = u.map Sum.inl ++ m) ∨ (.inl x :: l) <:+ m := by sorry
section
variable {C : CxT} {xs : Nat → XrZ} {v : Nat}
theorem tv_up {i : Nat} {T : TbT} (h : tbT C xs i = some T) : ∀ (j : Nat) (U : TbT), i ≤ j → tbT C xs j = some U → (∀ k, i ≤ k → k < j → ¬ ((xs k).1.1 = 15 ∧ (v : Int) = (xs k).2.1.2.1)) → U.2 v = T.2 v := by sorry
theorem tv_0 {i : Nat} {T : TbT} (h : tbT C xs i = some T) (hn : ∀ k, k < i → ¬ ((xs k).1.1 = 15 ∧ (v : Int) = (xs k).2.1.2.1)) : T.2 v = (0, 0) := by sorry
theorem tb_at : ∀ {j : Nat} {U : TbT} {i : Nat}, i ≤ j → tbT C xs j = some U → ∃ T, tbT C xs i = some T := by sorry
end
section
variable {N : Int → Int} {C : CxT} {z : ZS} {T : TbT}
/-- STORES that lie ahead of one are of earlier variables -/
theorem sto_lt (I : IvI z) {x w : XrZ} {l : List ItZ} (hx : (.inl x :: l) <:+ z.2.1) (kx : x.1.1 = 15) (hw : .inl w ∈ l) (kw : w.1.1 = 15) : w.2.1.2.1 < x.2.1.2.1 := by sorry
theorem sto_un (I : IvI z) {x w : XrZ} {l m : List ItZ} (hx : (.inl x :: l) <:+ z.2.1) (kx : x.1.1 = 15) (hw : (.inl w :: m) <:+ z.2.1) (kw : w.1.1 = 15) (e : x.2.1.2.1 = w.2.1.2.1) : xcZ l = xcZ m := by sorry
theorem pu_2 (H : ZjD C z T) (I : IvI z) (K : KvP N z) {x : XrZ} {l : List ItZ} (hx : (.inl x :: l) <:+ z.2.1) (k : x.1.1 = 2) : ¬ (T.1 (xcZ l)).2.1 = 0 ↔ ¬ (T.2 x.2.1.2.1.toNat).1 = 0 := by sorry
end
/-! what the reference's flow asks of what is read and judged -/
section
variable {N : Int → Int} {C : CxT} {z : ZS} {T : TbT}
/-- the assignment that a MARK of taking belongs to -/
theorem kn_9 (H : ZjD C z T) {y : XrZ} (hy : .inl y ∈ z.2.1) (k : y.1.1 = 9) : knT C y.2.1.2.1 := by sorry
theorem pu_all (H : ZjD C z T) (I : IvI z) (K : KvP N z) (S : SxS z) : PuE C z T := by sorry
theorem me_14 {b kd : Nat → Int} (I : IvI z) (A : AkI z) {x : XrZ} (hx : .inl x ∈ z.2.1) (k : x.1.1 = 14) : meZ b kd T z.2.1 x.2.1.1.toNat = x.2.1.2.1 := by sorry
end
section
variable {N : Int → Int} {σ σ1 : RS} {z : ZS} {T : TbT} {Nv : Int → Int} {ms : MfT} {b kd : Nat → Int}
theorem ff_fl0 : FfR σ (fl0 σ) := by sorry
theorem en_of (R : RdW N σ z) (A : AkI z) (I : IvI z) (h4 : z.2.1.length ≤ 4000) (J : JR b kd (sI σ 68 1) σ1 (CxM Nv z.1 ms) (tnM z) z.2.1 T []) : EnF (fl0 σ1) (CxM Nv z.1 ms) z T := by sorry
end
/-! methods of what is read, in the reference -/
def mthL : List (Int × Int × List Int) → Nat → Option (Int × Int × List Int)
  | [], _ => none
  | a :: l, k => if k = l.length then some a else mthL l k
/-- methods by number: the class's own; out, in -/
def msM (Nv : Int → Int) (Ko Ki : Int) (s : SpC) : MfT := fun i => if i = 10 then some (Ko, 5, [4]) else if i = 11 then some (Ki, 3, []) else (mthL (zMs s) i).map (fun m => (Nv m.1, m.2.1, m.2.2.reverse))
/-- where variables of methods stand -/
def V4R (σ : RS) : Prop := ∀ m : Nat, m < nT (gI σ 36) → (0 ≤ (aI σ 40 m).toInt ∧ 0 ≤ (aI σ 39 m).toInt) ∧ ∀ k : Nat, k < nT (gI σ 42) → ((aI σ 46 k).toInt = (m : Int) → (aI σ 40 m).toInt ≤ (k : Int)) ∧ ((aI σ 40 m).toInt ≤ (k : Int) → (k : Int) < (aI σ 40 m).toInt + (aI σ 39 m).toInt → (aI σ 46 k).toInt = (m : Int))
theorem ml_len {σ : RS} : ∀ n, (mlR σ n).length = n := by sorry
theorem pl_len {f : Nat → Int32} {a : Nat} : ∀ n, (plR f a n).length = n := by sorry
theorem pl_get {f : Nat → Int32} {a : Nat} : ∀ n i, i < n → (plR f a n).reverse.getD i 0 = (f (a + i)).toInt := by sorry
theorem mth_ml {σ : RS} : ∀ n k, mthL (mlR σ n) k = if k < n then some ((aI σ 37 k).toInt, (aI σ 38 k).toInt, plR (aI σ 44) (nT (aI σ 40 k)) (nT (aI σ 39 k))) else none := by sorry
theorem mth_mem : ∀ {l : List (Int × Int × List Int)} {k : Nat} {m}, mthL l k = some m → m ∈ l := by sorry
section
variable {N : Int → Int} {σ Y : RS} {z : ZS} {Ko Ki : Int}
theorem RdW.ms (R : RdW N σ z) : (0 ≤ gI σ 36 ∧ gI σ 36 ≤ 10) ∧ zMs z.1 = mlR σ (nT (gI σ 36)) ∧ ∀ m, m < nT (gI σ 36) → nT (aI σ 40 m) + nT (aI σ 39 m) ≤ nT (gI σ 42) := ⟨R.2.1.2.2.2.2.1, R.2.1.2.2.2.1, R.2.1.2.2.2.2.2⟩
theorem ms_own (R : RdW N σ z) {i : Nat} (h : i < nT (gI σ 36)) : msM N Ko Ki z.1 i = some (N (aI σ 37 i).toInt, (aI σ 38 i).toInt, (plR (aI σ 44) (nT (aI σ 40 i)) (nT (aI σ 39 i))).reverse) := by sorry
theorem ms_some (R : RdW N σ z) {i : Nat} : (∃ e, msM N Ko Ki z.1 i = some e) ↔ (i < nT (gI σ 36) ∨ i = 10 ∨ i = 11) := by sorry
/-- bits that a method begins with, TYPES -/
theorem mtf_of (R : RdW N σ z) (V : V4R σ) {σ0 : RS} (hf : JfR (sI σ 68 1) σ0) : MtF σ0 (msM N Ko Ki z.1) (fun M => (aI σ 40 M).toInt) (nT (gI σ 36)) := by sorry
end
/-! methods of what is read: what the reference asks of them where it judges -/
/-- NAMES that mean out, in -/
def WoK (N : Int → Int) (σ : RS) (Ko Ki : Int) : Prop := ∀ t : Nat, t < nT (gI σ 2) → t ≤ 500 → aI σ 3 t = 1 → ((aL σ 7 t = Int64.ofInt 7304564 ∧ aI σ 5 t = 3) ↔ N (t : Int) = Ko) ∧ ((aL σ 7 t = Int64.ofInt 26990 ∧ aI σ 5 t = 2) ↔ N (t : Int) = Ki)
section
variable {N : Int → Int} {σ Y : RS} {z : ZS} {Ko Ki : Int}
/-- NAMES of methods are tokens of NAMES -/
theorem mn_tk (R : RdW N σ z) (A : AkI z) {i : Nat} (h : i < nT (gI σ 36)) : (0 ≤ (aI σ 37 i).toInt ∧ (aI σ 37 i).toInt < zAt z.1) ∧ zK z.1 (aI σ 37 i).toInt.toNat = 80 := by sorry
theorem jf_mp (R : RdW N σ z) (V : V4R σ) (hY : JfR (sI σ 68 1) Y) {m : Int32} (h0 : 0 ≤ m.toInt) (h1 : m.toInt < 12) {e : MtT} (he : msM N Ko Ki z.1 m.toInt.toNat = some e) : MpR Y m e.2.2 ∧ (if m = 10 then (5 : Int32) else if m = 11 then 3 else aI Y 38 m.toNatClampNeg).toInt = e.2.1 := by sorry
/-- a NAME is a method's -/
theorem jf_nm (R : RdW N σ z) (A : AkI z) (W : WoK N σ Ko Ki) (hY : JfR (sI σ 68 1) Y) {m : Int32} (h0 : 0 ≤ m.toInt) (h1 : m.toInt < 12) {e : MtT} (he : msM N Ko Ki z.1 m.toInt.toNat = some e) {q : Int} (q0 : 0 ≤ q) (q1 : q < zAt z.1) (q2 : zK z.1 q.toNat = 80) : nmR Y m q.toNat ↔ e.1 = N q := by sorry
theorem jf_36 (R : RdW N σ z) (hY : JfR (sI σ 68 1) Y) : gI Y 36 = gI σ 36 := by sorry
/-- MsR: what a call's NAME means -/
theorem msr_of (R : RdW N σ z) (A : AkI z) (V : V4R σ) (W : WoK N σ Ko Ki) (hY : JfR (sI σ 68 1) Y) {t : Int32} {q : Int} (ht : t.toInt = q) (q0 : 0 ≤ q) (q1 : q < zAt z.1) (q2 : zK z.1 q.toNat = 80) : MsR Y t (N q) (msM N Ko Ki z.1) := by sorry
/-- MtR: methods among themselves -/
theorem mtr_of (R : RdW N σ z) (A : AkI z) (V : V4R σ) (W : WoK N σ Ko Ki) (hY : JfR (sI σ 68 1) Y) : MtR Y (msM N Ko Ki z.1) (nT (gI σ 36)) := by sorry
end
/-! what judging asks of exps, out of what is read -/
section
variable {N : Int → Int} {σ : RS} {z : ZS} {Ko Ki : Int}
/-- no two methods are alike, where none is told twice -/
theorem nd_of (R : RdW N σ z) (h : ∀ k, k < nT (gI σ 36) → m1T (msM N Ko Ki z.1) k 12) : NdT (msM N Ko Ki z.1) := by sorry
theorem cc_of (R : RdW N σ z) {x : XrZ} {l : List ItZ} (hx : (.inl x :: l) <:+ z.2.1) : ccZ (sI σ 68 1) l.length x := by sorry
/-- STORES -/
theorem stx_of (R : RdW N σ z) (I : IvI z) {ms : MfT} {x : XrZ} {l : List ItZ} (hx : (.inl x :: l) <:+ z.2.1) (k : x.1.1 = 15) : StxR (sI σ 68 1) (CxM N z.1 ms) l x := by sorry
theorem t0_co {C : CxT} {L : List ItZ} {x : XrZ} {l : List ItZ} (hx : (.inl x :: l) <:+ L) (k : ¬ (x.1.1 = 0 ∨ x.1.1 = 1)) : ((t0T C.1 (xgZ L)).1 (xcZ l)).2.1 = 0 := by sorry
end
/-! TYPES of methods -/
def TmI (s : SpC) : Prop := ∀ m ∈ zMs s, 0 ≤ m.2.1 ∧ m.2.1 ≤ 5
def TmW (z0 z : ZS) : Prop := GpY z0.1 z.1 ∧ (zFt z.1 = 0 → 0 ≤ zAt z0.1 → zAt z0.1 ≤ 500 → TmI z0.1 → TmI z.1)
section
variable {N : Int → Int} {z0 z z' : ZS} {a b c : ZS} {j n k : Nat}
theorem TmW.rf : TmW z z := ⟨GpY.rf, fun _ _ _ h => h⟩
theorem TmW.tr (h : TmW a b) (g : TmW b c) : TmW a c := by sorry
theorem TmW.mv (g : GpY z.1 z'.1) (e : zMs z'.1 = zMs z.1) : TmW z z' := ⟨g, fun _ _ _ h => by
  unfold TmI
  rw [e]
  exact h⟩
theorem zm_2 {s t : SpC} (h : s.2 = t.2) : zMs s = zMs t := by sorry
theorem TmW.s {s' : SpC} (g : GpY z.1 s') (e2 : s'.2 = z.1.2) : TmW z (s', z.2) := TmW.mv g (zm_2 e2)
theorem TmW.dc {ty f h : Int} : TmW z (dcM N ty f h z) := by sorry
theorem TmW.ee : TmW z (eM N n z) := by sorry
theorem TmW.se {f : SrZ → SrZ} : TmW z (seM j f z) := TmW.mv GpY.rf rfl
theorem TmW.it {y : Int × Int × Int × Int × Int} : TmW z (z.1, .inr y :: z.2.1, z.2.2) := TmW.mv GpY.rf rfl
theorem TmW.pu {x : XrZ} : TmW z (puM x z) := TmW.mv GpY.rf rfl
theorem TmW.va1 {f ty : Int} : TmW z (va1M N j n f ty z) := by sorry
theorem TmW.ju {c : Int} : TmW z (juM N c n z) := by sorry
theorem TmW.pad {ty : Int} : TmW z (padY ty z.1, z.2) := by sorry
theorem TmW.me {ty : Int} (ht : 0 ≤ ty ∧ ty ≤ 5) : TmW z (accM (me0M ty z)) := by sorry
end
theorem tm_w {N : Int → Int} : WkC N TmW := by sorry
theorem tm_all {N : Int → Int} {f : Nat} {s : SpC} (h : zFt (prM N f (z0S s)).1 = 0) (hs : Z0Y s) : TmI (prM N f (z0S s)).1 := by sorry
/-- TYPES of methods by number -/
theorem my_of {Nv : Int → Int} {Ko Ki : Int} {z : ZS} (h : TmI z.1) : MyT (CxM Nv z.1 (msM Nv Ko Ki z.1)) := by sorry
/-! small premises of judging, out of what is read -/
section
variable {N : Int → Int} {σ : RS} {z : ZS} {ms : MfT}
theorem vv_of (R : RdW N σ z) {xs : Nat → XrZ} : VvT (CxM N z.1 ms) (t0T N xs) := by sorry
theorem g42_of (R : RdW N σ z) : (gI σ 42).toInt = (vnW z : Int) ∧ (CxM N z.1 ms).2.2.1 = vnW z := ⟨R.vs.1, rfl⟩
theorem g18_of (R : RdW N σ z) : (gI σ 18).toInt = (z.2.1.length : Int) := by sorry
theorem g2_of (R : RdW N σ z) : 0 ≤ (gI σ 2).toInt := by sorry
/-- codes: what the text shows of them -/
theorem iy_of (R : RdW N σ z) {y : Int × Int × Int × Int × Int} {l : List ItZ} (hy : (.inr y :: l) <:+ z.2.1) : IcR id (sI σ 68 1) (.inr y :: l) := by sorry
/-- things' codes: 37 to 39, 41, 51 -/
theorem tc_of (R : RdW N σ z) {y : Int × Int × Int × Int × Int} {l : List ItZ} (hy : (.inr y :: l) <:+ z.2.1) (ht : thO y.1 = true) : TcR σ (tnM z) l.length y := R.1.2.2.2.2.2.1.2.2 l.length y (itN_at hy) ht
end
/-! the reference's flow over a program that is read and judged -/
section
variable {N Nv : Int → Int} {σ σ1 Y : RS} {s : SpC} {T : TbT} {Ko Ki : Int} {b kd : Nat → Int} {f g n : Nat} {L : List Nat} {c m : Int32}
theorem rf_fl (hs : Z0Y s) (hft : zFt (prM N g (z0S s)).1 = 0) (R : RdW N σ (prM N g (z0S s))) (V : V4R σ) (h4 : (prM N g (z0S s)).2.1.length ≤ 4000)
    (J : JR b kd (sI σ 68 1) σ1 (CxM N (prM N g (z0S s)).1 (msM N Ko Ki (prM N g (z0S s)).1)) (tnM (prM N g (z0S s))) (prM N g (z0S s)).2.1 T [])
    (H : DfX N (CxM N (prM N g (z0S s)).1 (msM N Ko Ki (prM N g (z0S s)).1)) (prM N g (z0S s)) T (msM N Ko Ki (prM N g (z0S s)).1))
    (hok : ∀ y l, (.inr y :: l) <:+ (prM N g (z0S s)).2.1 → okS (CxM N (prM N g (z0S s)).1 (msM N Ko Ki (prM N g (z0S s)).1)) N T l y)
    (P : PrD N (prM N g (z0S s)) L 0 (0, 0, []) (psM (prM N g (z0S s)))) (hL : L.length = (zMs (prM N g (z0S s)).1).length) (hf : 2 * snM (prM N g (z0S s)) ≤ f) (hT : FlT (fl0 σ1) n Y c m) (hc : ¬ c < gI Y 18) :
    (BdF Y ↔ ¬ FlO N (prM N g (z0S s)) T (msM N Ko Ki (prM N g (z0S s)).1) (fun M => (aI σ 40 M).toInt) f L 0) ∧
    (FlO N (prM N g (z0S s)) T (msM N Ko Ki (prM N g (z0S s)).1) (fun M => (aI σ 40 M).toInt) f L 0 → LgF (prM N g (z0S s)) 0 (snM (prM N g (z0S s))) (fl0 σ1) Y (FlG N (prM N g (z0S s)) T (msM N Ko Ki (prM N g (z0S s)).1) (fun M => (aI σ 40 M).toInt) f L 0)) := by sorry
end
/-! checks of codes, checks of S's: of what is read -/
section
variable {N : Int → Int} {σ : RS} {s : SpC} {T : TbT} {Ko Ki : Int} {g : Nat} {L : List Nat}
theorem ok_sk (hs : Z0Y s) (R : RdW N σ (prM N g (z0S s))) (P : PrD N (prM N g (z0S s)) L 0 (0, 0, []) (psM (prM N g (z0S s)))) (hL : L.length = (zMs (prM N g (z0S s)).1).length) :
    (∀ y l, (.inr y :: l) <:+ (prM N g (z0S s)).2.1 → okS (CxM N (prM N g (z0S s)).1 (msM N Ko Ki (prM N g (z0S s)).1)) N T l y) ↔ ∀ j, j < snM (prM N g (z0S s)) → skT N (prM N g (z0S s)) T (msM N Ko Ki (prM N g (z0S s)).1) j := by sorry
theorem zj_of (hs : Z0Y s) (hft : zFt (prM N g (z0S s)).1 = 0) {C : CxT} (P : PrD N (prM N g (z0S s)) L 0 (0, 0, []) (psM (prM N g (z0S s)))) (hJ : JdL C (prM N g (z0S s)) T) : ZjD C (prM N g (z0S s)) T := by sorry
end
/-! values of CONSTANTS are of their TYPES: all exps -/
def SgX (x : XrZ) : Prop := (x.1.1 = 4 → x.1.2.1 = 34 ∨ x.1.2.1 = 35 ∨ x.1.2.1 = 39 ∨ x.1.2.1 = 40) ∧ (x.1.1 = 5 → 0 ≤ x.2.1.2.2 ∧ x.2.1.2.2 ≤ 4) ∧ (x.1.1 = 7 → 20 ≤ x.1.2.1 ∧ x.1.2.1 ≤ 38)
theorem jd_i {C : CxT} {z : ZS} (hS : SkP z.2.1 []) (hk : ∀ i, i < xnM z → 0 ≤ (xth z i).1.1 ∧ (xth z i).1.1 ≤ 15) (hg : ∀ i, i < xnM z → SgX (xth z i)) (h1 : ∀ i, i < xnM z → (xth z i).1.1 = 1 → VaT ((t0T C.1 (fun i => xth z i)).1 i)) (hv : VvT C (t0T C.1 (fun i => xth z i))) (hm : MyT C) : ∀ i, i ≤ xnM z → ∀ U, tbT C (fun i => xth z i) i = some U → VvT C U ∧ ∀ k, k < i → (xth z k).1.1 ≤ 10 → VaT (U.1 k) := by sorry
theorem jd_of {C : CxT} {z : ZS} {T : TbT} (hT : tbT C (fun i => xth z i) (xnM z) = some T) (hS : SkP z.2.1 []) (hk : ∀ i, i < xnM z → 0 ≤ (xth z i).1.1 ∧ (xth z i).1.1 ≤ 15) (hg : ∀ i, i < xnM z → SgX (xth z i))
    (h1 : ∀ i, i < xnM z → (xth z i).1.1 = 1 → VaT ((t0T C.1 (fun i => xth z i)).1 i)) (hv : VvT C (t0T C.1 (fun i => xth z i))) (hm : MyT C) : JdL C z T := by sorry
/-! what both flows ask, out of what is read and judged -/
section
variable {N : Int → Int} {σ : RS} {s : SpC} {T : TbT} {Ko Ki : Int} {g : Nat} {L : List Nat}
theorem dfx_of (hs : Z0Y s) (hft : zFt (prM N g (z0S s)).1 = 0) (R : RdW N σ (prM N g (z0S s))) (P : PrD N (prM N g (z0S s)) L 0 (0, 0, []) (psM (prM N g (z0S s)))) (hL : L.length = (zMs (prM N g (z0S s)).1).length)
    (hg : ∀ i, i < xnM (prM N g (z0S s)) → SgX (xth (prM N g (z0S s)) i)) (h1 : ∀ i, i < xnM (prM N g (z0S s)) → (xth (prM N g (z0S s)) i).1.1 = 1 → VaT ((t0T N (fun i => xth (prM N g (z0S s)) i)).1 i))
    (hT : tbT (CxM N (prM N g (z0S s)).1 (msM N Ko Ki (prM N g (z0S s)).1)) (fun i => xth (prM N g (z0S s)) i) (xnM (prM N g (z0S s))) = some T)
    (hok : ∀ y l, (.inr y :: l) <:+ (prM N g (z0S s)).2.1 → okS (CxM N (prM N g (z0S s)).1 (msM N Ko Ki (prM N g (z0S s)).1)) N T l y) :
    DfX N (CxM N (prM N g (z0S s)).1 (msM N Ko Ki (prM N g (z0S s)).1)) (prM N g (z0S s)) T (msM N Ko Ki (prM N g (z0S s)).1) := by sorry
end
/-! NAMES and worths of tokens by the class's own numbers, in the reference -/
def NwN (N : Int → Int) (x : TxY) (n : Nat) : Prop := ∀ k : Nat, k < n → ∃ v : Int64, v.toInt = N (k : Int) ∧ WoC x (atY x k) v
def koY : Int := kyY [116, 117, 111]
def kiY : Int := kyY [110, 105]
/-- what tokens are worth -/
def WsT (N : Int → Int) (τ : RS) (s : SpC) : Prop := ∀ i : Nat, i < nT (gI τ 2) → i ≤ 500 →
  (zK s i = 81 ∨ zK s i = 82 → ∃ v : Int, (0 ≤ v ∧ v < 10000000000000000000) ∧ N (i : Int) = (Int64.ofInt v).toInt ∧ aL τ 9 i = Int64.ofInt v ∧ aI τ 11 i = grY (if zK s i = 82 then 76 else 0) v ∧ aI τ 3 i = 2) ∧
  (zK s i = 83 → (0 ≤ N (i : Int) ∧ N (i : Int) ≤ 126) ∧ aL τ 9 i = Int64.ofInt (N (i : Int)) ∧ aI τ 3 i = 3) ∧
  (zK s i = 72 ∨ zK s i = 73 → aI τ 3 i = 4 ∧ (aI τ 6 i).toInt = zK s i - 50)
theorem lx_a {σ τ : RS} {x : TxY} {s : SpC} {n : Nat} (hx : okY x) (hL : LxQ σ τ x) (hT : TkS x s n) {i : Nat} (hi : i < nT (gI τ 2)) (h5 : i ≤ 500) (h0 : ¬ aI τ 3 i = 0) (h6 : ¬ aI τ 3 i = 6) : (i + 1 < nT (gI τ 2)) ∧ i < n ∧ tkR (aI τ 3 i).toInt (aI τ 6 i).toInt (oneY x (atY x i)).2 ∧ (aI τ 5 i).toInt = (oneY x (atY x i)).1 ∧ zK s i = (oneY x (atY x i)).2 ∧ atY x i < x.2 ∧ 0 ≤ atY x i := by sorry
theorem wo_1 {l w : List Int} {a : Int64} {b : Int32} (hl : alK l) (hw : alK w) (h8 : w.length ≤ 8) (h1 : a = hwY l) (h2 : b.toInt = (l.length : Int)) : (a = hwY w ∧ b.toInt = (w.length : Int)) ↔ kyY l = kyY w := by sorry
section
variable {N : Int → Int} {σ τ : RS} {x : TxY} {s : SpC} {n : Nat}
/-- a NAME's number -/
theorem nw_80 (hx : okY x) (hL : LxQ σ τ x) (hV : ∃ m : Nat, (gI τ 2).toInt = m + 1 ∧ TkT τ x m) (hT : TkS x s n) (hN : NwN N x n) {i : Nat} (hi : i < nT (gI τ 2)) (h5 : i ≤ 500) (h3 : aI τ 3 i = 1) : N (i : Int) = kyY (nbZ x i) ∧ aL τ 7 i = hwY (nbZ x i) ∧ (aI τ 5 i).toInt = ((nbZ x i).length : Int) := by sorry
theorem nmz_w (hx : okY x) (hL : LxQ σ τ x) (hV : ∃ m : Nat, (gI τ 2).toInt = m + 1 ∧ TkT τ x m) (hT : TkS x s n) (hN : NwN N x n) : NmZ N τ := by sorry
theorem wok_w (hx : okY x) (hL : LxQ σ τ x) (hV : ∃ m : Nat, (gI τ 2).toInt = m + 1 ∧ TkT τ x m) (hT : TkS x s n) (hN : NwN N x n) : WoK N τ koY kiY := by sorry
end
theorem nv_b {x : TxY} : ∀ (f : Nat) (e v : Int), 0 ≤ v → (0 ≤ nvY x f e v ∧ nvY x f e v + 1 ≤ (v + 1) * ((10 ^ (ndY x f e - e).toNat : Nat) : Int)) ∧ e ≤ ndY x f e := by sorry
theorem one_n {x : TxY} {i : Int} (h : (oneY x i).2 = 81 ∨ (oneY x i).2 = 82) : ndY x (x.2 - i).toNat i - i ≤ 19 := by sorry
theorem one_c8 {x : TxY} {i : Int} (h : (oneY x i).2 = 83) : 32 ≤ btY x (i + 1) ∧ btY x (i + 1) ≤ 126 := by sorry
/-- the kind of a token by its code -/
theorem tk_lit {k w c : Int} (h : tkR k w c) : (c = 81 ∨ c = 82 → k = 2) ∧ (c = 83 → k = 3) ∧ (c = 72 ∨ c = 73 → k = 4 ∧ w = c - 50) := by sorry
theorem ws_w {N : Int → Int} {σ τ : RS} {x : TxY} {s : SpC} {n : Nat} (hx : okY x) (hL : LxQ σ τ x) (hV : ∃ m : Nat, (gI τ 2).toInt = m + 1 ∧ TkT τ x m) (hT : TkS x s n) (hN : NwN N x n) (hS : ∀ i, i < nT (gI τ 2) → i ≤ 500 → tkR (aI τ 3 i).toInt (aI τ 6 i).toInt (zK s i)) : WsT N τ s := by sorry
/-! what each record of an exp tells of itself -/
def RpX (Kd : Nat → Int) (hi : Int) (x : XrZ) : Prop := SgX x ∧ (x.1.1 = 9 → x.1.2.1 = 8 ∨ (22 ≤ x.1.2.1 ∧ x.1.2.1 ≤ 38 ∧ (x.1.2.1 ≤ 24 ∨ 31 ≤ x.1.2.1))) ∧ (x.1.1 ≤ 10 → 0 ≤ x.2.1.1) ∧ (x.1.1 = 10 → x.1.2.2.1 = x.2.1.1 ∧ (x.2.2.2.length : Int) ≤ hi) ∧ (x.1.1 ≤ 1 → (x.1.2.2.1 = x.2.1.1 ∧ x.2.1.1 < hi ∧ Kd x.2.1.1.toNat = x.1.2.1) ∧ (0 ≤ x.1.1 ∧ (x.1.1 = 0 ↔ (x.1.2.1 = 81 ∨ x.1.2.1 = 82))) ∧ (x.1.2.1 = 81 ∨ x.1.2.1 = 82 ∨ x.1.2.1 = 83 ∨ x.1.2.1 = 72 ∨ x.1.2.1 = 73))
section
variable {Kd : Nat → Int} {hi hi' : Int} {x : XrZ}
theorem RpX.wd (h : RpX Kd hi x) (q : hi ≤ hi') : RpX Kd hi' x := by sorry
theorem rp_o (h : ¬ x.1.1 ≤ 1 ∧ ¬ x.1.1 = 4 ∧ ¬ x.1.1 = 5 ∧ ¬ x.1.1 = 7 ∧ ¬ x.1.1 = 9 ∧ ¬ x.1.1 = 10) (g : x.1.1 ≤ 10 → 0 ≤ x.2.1.1) : RpX Kd hi x := by sorry
theorem rp_4 (k : x.1.1 = 4) (h : x.1.2.1 = 34 ∨ x.1.2.1 = 35 ∨ x.1.2.1 = 39 ∨ x.1.2.1 = 40) (g : 0 ≤ x.2.1.1) : RpX Kd hi x := by sorry
theorem rp_5 (k : x.1.1 = 5) (h : 0 ≤ x.2.1.2.2 ∧ x.2.1.2.2 ≤ 4) (g : 0 ≤ x.2.1.1) : RpX Kd hi x := by sorry
theorem rp_7 (k : x.1.1 = 7) (h : 20 ≤ x.1.2.1 ∧ x.1.2.1 ≤ 38) (g : 0 ≤ x.2.1.1) : RpX Kd hi x := by sorry
theorem rp_9 (k : x.1.1 = 9) (h : x.1.2.1 = 8 ∨ (22 ≤ x.1.2.1 ∧ x.1.2.1 ≤ 38 ∧ (x.1.2.1 ≤ 24 ∨ 31 ≤ x.1.2.1))) (g : 0 ≤ x.2.1.1) : RpX Kd hi x := by sorry
theorem rp_10 (k : x.1.1 = 10) (h : x.1.2.2.1 = x.2.1.1 ∧ (x.2.2.2.length : Int) ≤ hi) (g : 0 ≤ x.2.1.1) : RpX Kd hi x := by sorry
theorem rp_0 (k : x.1.1 ≤ 1) (k0 : 0 ≤ x.1.1 ∧ (x.1.1 = 0 ↔ (x.1.2.1 = 81 ∨ x.1.2.1 = 82))) (h : x.1.2.2.1 = x.2.1.1 ∧ x.2.1.1 < hi ∧ Kd x.2.1.1.toNat = x.1.2.1) (c : x.1.2.1 = 81 ∨ x.1.2.1 = 82 ∨ x.1.2.1 = 83 ∨ x.1.2.1 = 72 ∨ x.1.2.1 = 73) (g : 0 ≤ x.2.1.1) : RpX Kd hi x := by sorry
end
theorem opf_r {c : Int} (h : 8 ≤ c ∧ c ≤ 19) : opfZ c = 8 ∨ (22 ≤ opfZ c ∧ opfZ c ≤ 38 ∧ (opfZ c ≤ 24 ∨ 31 ≤ opfZ c)) := by sorry
/-- from z to z' an exp is read, or a piece of one -/
def RpW (z z' : ZS) : Prop := 0 ≤ zAt z.1 → (zAt z.1 ≤ zAt z'.1 ∧ GpY z.1 z'.1 ∧ zK z'.1 = zK z.1) ∧ (zFt z'.1 = 0 → ∃ t : List XrZ, z'.2.1 = t.map Sum.inl ++ z.2.1 ∧ ∀ x ∈ t, RpX (zK z.1) (zAt z'.1) x)
abbrev RpM (f : ZS → ZS) : Prop := ∀ z, RpW z (f z)
def WtQ (W : WtZ) : Prop := ∀ w ∈ W, (20 ≤ w.1 ∧ w.1 ≤ 38) ∧ 0 ≤ w.2.1
section
variable {z z1 z2 : ZS} {x : XrZ} {N : Int → Int}
theorem RpW.rf : RpW z z := by sorry
theorem RpW.tr (h : RpW z z1) (g : RpW z1 z2) : RpW z z2 := by sorry
theorem RpW.m {s' : SpC} (l : zAt z.1 ≤ zAt s') (g : GpY z.1 s') (e : s'.2 = z.1.2) : RpW z (s', z.2) := by sorry
theorem RpW.ac : RpW z (accM z) := RpW.m mv_acc.2 (gd_acc _) mv_acc.1
theorem RpW.xp {c : Int} : RpW z (xpM c z) := RpW.m mv_xp.2 (gd_xp _) mv_xp.1
theorem RpW.ra {c : Int} : RpW z (raiM c z) := RpW.m mv_rai.2 (gd_rai _) mv_rai.1
theorem RpW.ty : RpW z (typM z) := RpW.m mv_typ.2 (gd_typ _) mv_typ.1
theorem RpW.pu (h : RpW z z1) (hx : 0 ≤ zAt z.1 → zFt z1.1 = 0 → RpX (zK z.1) (zAt z1.1) x) : RpW z (puM x z1) := by sorry
theorem cl_1 {p : Int} : ∀ (W : WtZ) (z : ZS), (clM p W z).1 = z.1 := by sorry
theorem rp_cl {p : Int} : ∀ (W : WtZ) (z : ZS), WtQ W → RpW z (clM p W z) := by sorry
theorem rp_fk : RpW z (fkM z) := by sorry
theorem csw_m {p : Int} : ∀ {W : WtZ}, ∀ w ∈ cswZ p W, w ∈ W := by sorry
theorem csr_1 {p : Int} : ∀ {W : WtZ} {r : Int × Int}, WtQ W → 0 ≤ r.1 → 0 ≤ (csrZ p W r).1 := by sorry
theorem rp_chl {O : ZS → ZS} (hO : RpM O) : ∀ (f : Nat) (W : WtZ) (r : Int × Int) (z : ZS), WtQ W → 0 ≤ r.1 → RpW z (chlM O f W r z) := by sorry
theorem rp_ch2 {E C : ZS → ZS} (hE : RpM E) (hC : RpM C) {r : Int × Int} (hr : 0 ≤ r.1) : RpW z (ch2M E C r z) := by sorry
theorem rp_chc {O E C : ZS → ZS} (hO : RpM O) (hE : RpM E) (hC : RpM C) : RpM (chcM O E C) := by sorry
theorem rp_xps {O E C : ZS → ZS} (hO : RpM O) (hE : RpM E) (hC : RpM C) : RpM (xpsM N O E C) := by sorry
theorem rp_cle {r : Int × Int} (hr : 0 ≤ r.1) {l : List Int} (hl : zFt z.1 = 0 → (l.length : Int) ≤ zAt z.1) : RpW z (cleM r l z) := by sorry
theorem rp_clp {E : ZS → ZS} (hE : RpM E) {r : Int × Int} (hr : 0 ≤ r.1) : ∀ (f : Nat) (l : List Int) (z : ZS), 0 ≤ zAt z.1 → (zFt z.1 = 0 → (l.length : Int) ≤ zAt z.1) → RpW z (clpM E r f l z) := by sorry
theorem rp_opr {m : Nat} {E : ZS → ZS} {J : Int → ZS → ZS} (hE : RpM E) (hJ : ∀ g, RpM (J g)) (g : Int) : RpM (oprM N m E J g) := by sorry
theorem rp_lv : ∀ n, RpM (eM N n) ∧ RpM (cM N n) ∧ ∀ g, RpM (oM N n g) := by sorry
end
/-! what each record tells of itself, in all that is read; methods of variables -/
def RpI (z : ZS) : Prop := (∀ x, .inl x ∈ z.2.1 → RpX (zK z.1) (zAt z.1) x) ∧ ∀ v ∈ zVs z.1, v.2.2.2 < ((zMs z.1).length : Int)
def RqW (z0 z : ZS) : Prop := GpY z0.1 z.1 ∧ (zFt z.1 = 0 → 0 ≤ zAt z0.1 → zAt z0.1 ≤ 500 → RpI z0 → RpI z)
section
variable {N : Int → Int} {z0 z z' : ZS} {a b c : ZS} {j n k : Nat}
theorem RqW.rf : RqW z z := ⟨GpY.rf, fun _ _ _ h => h⟩
theorem RqW.tr (h : RqW a b) (g : RqW b c) : RqW a c := by sorry
/-- no record more that counts, nothing told but places -/
theorem RqW.mv (g : GpY z.1 z'.1) (e : ∀ x, .inl x ∈ z'.2.1 → x.1.1 = 15 ∨ .inl x ∈ z.2.1) (e2 : z'.1.2 = z.1.2) : RqW z z' := by sorry
theorem RqW.s {s' : SpC} (g : GpY z.1 s') (e2 : s'.2 = z.1.2) : RqW z (s', z.2) := RqW.mv g (fun _ h => Or.inr h) e2
theorem RqW.it {y : Int × Int × Int × Int × Int} : RqW z (z.1, .inr y :: z.2.1, z.2.2) := by sorry
theorem RqW.pu {x : XrZ} (k : x.1.1 = 15) : RqW z (puM x z) := by sorry
theorem RqW.dc {ty f h : Int} : RqW z (dcM N ty f h z) := by sorry
theorem RqW.ee : RqW z (eM N n z) := by sorry
theorem RqW.se {f : SrZ → SrZ} : RqW z (seM j f z) := RqW.mv GpY.rf (fun _ h => Or.inr h) rfl
theorem RqW.va1 {f ty : Int} : RqW z (va1M N j n f ty z) := by sorry
theorem RqW.ju {c : Int} : RqW z (juM N c n z) := by sorry
theorem RqW.lb : RqW z (laB n z) := by sorry
theorem RqW.pad {ty : Int} : RqW z (padY ty z.1, z.2) := by sorry
theorem RqW.me {ty : Int} : RqW z (accM (me0M ty z)) := by sorry
end
theorem rq_w {N : Int → Int} : WkC N RqW := by sorry
theorem rp_z0 {s : SpC} (hs : Z0Y s) : RpI (z0S s) := by sorry
theorem rp_all {N : Int → Int} {f : Nat} {s : SpC} (h : zFt (prM N f (z0S s)).1 = 0) (hs : Z0Y s) : RpI (prM N f (z0S s)) := by sorry
/-! what reading leaves alone; where params of methods stand -/
def FrP (c Y : RS) : Prop := gI Y 2 = gI c 2 ∧ aL Y = aL c ∧ (aI Y 3 = aI c 3 ∧ aI Y 4 = aI c 4 ∧ aI Y 5 = aI c 5 ∧ aI Y 6 = aI c 6 ∧ aI Y 8 = aI c 8 ∧ aI Y 10 = aI c 10 ∧ aI Y 11 = aI c 11)
def V5 (a b : Int32) (f g h : Nat → Int32) : Prop := (0 ≤ a.toInt ∧ a.toInt ≤ 10) ∧ (0 ≤ b.toInt ∧ b.toInt ≤ 60) ∧ ∀ m : Nat, (m : Int) < a.toInt → (0 ≤ (g m).toInt ∧ 0 ≤ (f m).toInt ∧ (g m).toInt + (f m).toInt ≤ b.toInt) ∧ ∀ k : Nat, (k : Int) < b.toInt → ((h k).toInt = (m : Int) → (g m).toInt ≤ (k : Int)) ∧ ((g m).toInt ≤ (k : Int) → (k : Int) < (g m).toInt + (f m).toInt → (h k).toInt = (m : Int))
def J4 (c Y : RS) : Prop := FrP c Y ∧ V5 (gI Y 36) (gI Y 42) (aI Y 39) (aI Y 40) (aI Y 46) ∧ (0 ≤ (gI Y 18).toInt ∧ (gI Y 18).toInt ≤ 4000)
def K6 (c Y : RS) : Prop := FrP c Y ∧ (gI Y 18 = gI c 18 ∧ gI Y 36 = gI c 36 ∧ gI Y 42 = gI c 42 ∧ gI Y 62 = gI c 62) ∧ (aI Y 39 = aI c 39 ∧ aI Y 40 = aI c 40 ∧ aI Y 46 = aI c 46)
section
variable {c Y Z : RS} {k : Nat} {v : Int32} {f : Nat → Int32}
theorem gI_p {j : Nat} (h : k ≠ j) : gI (sI Y k v) j = gI Y j := by sorry
theorem FrP.i (h : FrP c Y) (hk : k ≠ 2) : FrP c (sI Y k v) := ⟨(gI_p hk).trans h.1, h.2⟩
theorem FrP.a (h : FrP c Y) (hk : k ≠ 3 ∧ k ≠ 4 ∧ k ≠ 5 ∧ k ≠ 6 ∧ k ≠ 8 ∧ k ≠ 10 ∧ k ≠ 11) : FrP c (sA Y k f) := by sorry
theorem FrP.rf : FrP Y Y := ⟨rfl, rfl, rfl, rfl, rfl, rfl, rfl, rfl, rfl⟩
theorem FrP.tr (h : FrP c Y) (g : FrP Y Z) : FrP c Z := by sorry
theorem K6.rf : K6 Y Y := ⟨FrP.rf, ⟨rfl, rfl, rfl, rfl⟩, rfl, rfl, rfl⟩
theorem K6.i (h : K6 c Y) (hk : k ≠ 2 ∧ k ≠ 18 ∧ k ≠ 36 ∧ k ≠ 42 ∧ k ≠ 62) : K6 c (sI Y k v) := by sorry
theorem K6.a (h : K6 c Y) (hk : (k ≠ 3 ∧ k ≠ 4 ∧ k ≠ 5 ∧ k ≠ 6 ∧ k ≠ 8 ∧ k ≠ 10 ∧ k ≠ 11) ∧ k ≠ 39 ∧ k ≠ 40 ∧ k ≠ 46) : K6 c (sA Y k f) := by sorry
theorem J4.i (h : J4 c Y) (hk : k ≠ 2 ∧ k ≠ 18 ∧ k ≠ 36 ∧ k ≠ 42) : J4 c (sI Y k v) := by sorry
theorem J4.a (h : J4 c Y) (hk : (k ≠ 3 ∧ k ≠ 4 ∧ k ≠ 5 ∧ k ≠ 6 ∧ k ≠ 8 ∧ k ≠ 10 ∧ k ≠ 11) ∧ k ≠ 39 ∧ k ≠ 40 ∧ k ≠ 46) : J4 c (sA Y k f) := by sorry
theorem J4.ks (h : J4 c Y) (g : K6 Y Z) : J4 c Z := by sorry
theorem J4.e (h : J4 c Y) (h0 : 0 ≤ gI Y 18) (h1 : gI Y 18 < 4000) : J4 c (sI Y 18 (gI Y 18 + 1)) := by sorry
/-- where the params of the method that is read stand; i: how many names are still to come -/
def PX (a b : Int32) (f g h : Nat → Int32) (i : Int) : Prop := (a.toInt < 10 ∧ 0 ≤ (g a.toNatClampNeg).toInt ∧ i ≤ (f a.toNatClampNeg).toInt ∧ (f a.toNatClampNeg).toInt ≤ 6) ∧ (g a.toNatClampNeg).toInt + (f a.toNatClampNeg).toInt = b.toInt + i ∧ ∀ k : Nat, (k : Int) < b.toInt → ((h k).toInt = a.toInt ↔ (g a.toNatClampNeg).toInt ≤ (k : Int))
def QV (c : RS) (m : Int32) (Y : RS) (i : Int) : Prop := J4 c Y ∧ (gI Y 62 = 0 ∧ m = gI Y 36) ∧ PX (gI Y 36) (gI Y 42) (aI Y 39) (aI Y 40) (aI Y 46) i
def M0 (c Y : RS) : Prop := J4 c Y ∧ ∀ k : Nat, (k : Int) < (gI Y 42).toInt → (aI Y 46 k).toInt < (gI Y 36).toInt
variable {m x : Int32} {w5 : Int}
theorem QV.i (h : QV c m Y w5) (hk : (k ≠ 2 ∧ k ≠ 18 ∧ k ≠ 36 ∧ k ≠ 42) ∧ k ≠ 62) : QV c m (sI Y k v) w5 := by sorry
theorem QV.a (h : QV c m Y w5) (hk : (k ≠ 3 ∧ k ≠ 4 ∧ k ≠ 5 ∧ k ≠ 6 ∧ k ≠ 8 ∧ k ≠ 10 ∧ k ≠ 11) ∧ k ≠ 39 ∧ k ≠ 40 ∧ k ≠ 46) : QV c m (sA Y k f) w5 := by sorry
theorem QV.ks (h : QV c m Y w5) (g : K6 Y Z) : QV c m Z w5 := by sorry
theorem M0.ks (h : M0 c Y) (g : K6 Y Z) : M0 c Z := by sorry
theorem px_n {a : Int32} {p : Nat} (h0 : 0 ≤ a.toInt) : (p = a.toNatClampNeg ↔ (p : Int) = a.toInt) := by sorry
theorem QV.new {f1 f2 : Nat → Int32} (h : M0 c Y) (h10 : ¬ gI Y 36 = 10) : QV c (gI Y 36) (sI (sA (sA (sA (sA Y 37 f1) 38 f2) 39 (upd (aI Y 39) (gI Y 36).toNatClampNeg 0)) 40 (upd (aI Y 40) (gI Y 36).toNatClampNeg (gI Y 42))) 62 0) 0 := by sorry
theorem QV.me (h : QV c m Y 0) : J4 c (sI (sA Y 41 f) 36 (gI Y 36 + 1)) := by sorry
theorem QV.inc (h : QV c m Y 0) (h6 : ¬ aI Y 39 m.toNatClampNeg = 6) : QV c m (sA Y 39 (upd (aI Y 39) m.toNatClampNeg (aI Y 39 m.toNatClampNeg + 1))) 1 := by sorry
theorem va_n (h0 : 0 ≤ v.toInt) {p : Nat} (hp : (p : Int) < v.toInt) : p ≠ v.toNatClampNeg := fun q => by have := (px_n h0).mp q; omega
theorem J4.va {f3 f4 f5 f7 f8 : Nat → Int32} (h : J4 c Y) (h60 : ¬ gI Y 42 = 60) : J4 c (sA (sA (sA (sA (sA (sA (sI Y 42 (gI Y 42 + 1)) 43 f3) 44 f4) 45 f5) 46 (upd (aI Y 46) (gI Y 42).toNatClampNeg x)) 47 f7) 48 f8) := by sorry
theorem QV.va {f3 f4 f5 f7 f8 : Nat → Int32} (h : QV c m Y 1) (h60 : ¬ gI Y 42 = 60) : QV c m (sA (sA (sA (sA (sA (sA (sI Y 42 (gI Y 42 + 1)) 43 f3) 44 f4) 45 f5) 46 (upd (aI Y 46) (gI Y 42).toNatClampNeg (gI Y 36))) 47 f7) 48 f8) 0 := by sorry
end
def Pv_isWordK6 (c : RS) : UP1 := fun A1 σ => match A1 with
  | [.int a1] => K6 c σ
  | _ => False
def Qv_isWordK6 (c : RS) : UQ1 := fun A1 σ w τ => match A1 with
  | [.int a1] => (∃ r : Int32, w = some (.int r)) ∧ K6 c τ
  | _ => False
def Qw_isWordK6 : UQ1 := fun A1 σ w τ => ∀ (c : RS), Pv_isWordK6 c A1 σ → Qv_isWordK6 c A1 σ w τ
set_option maxRecDepth 100000 in
set_option maxHeartbeats 4000000 in
theorem v_isWordK6 (c : RS) : UMet 15 (Pv_isWordK6 c) (Qv_isWordK6 c) := by sorry
theorem w_isWordK6 : UMet 15 (fun _ _ => True) Qw_isWordK6 := fun A1 σ _ w τ h c hP => v_isWordK6 c A1 σ hP w τ h
def Pv_isTypeK6 (c : RS) : UP1 := fun A1 σ => match A1 with
  | [.int a1] => K6 c σ
  | _ => False
def Qv_isTypeK6 (c : RS) : UQ1 := fun A1 σ w τ => match A1 with
  | [.int a1] => (∃ r : Int32, w = some (.int r)) ∧ K6 c τ
  | _ => False
def Qw_isTypeK6 : UQ1 := fun A1 σ w τ => ∀ (c : RS), Pv_isTypeK6 c A1 σ → Qv_isTypeK6 c A1 σ w τ
set_option maxRecDepth 100000 in
set_option maxHeartbeats 4000000 in
theorem v_isTypeK6 (c : RS) : UMet 23 (Pv_isTypeK6 c) (Qv_isTypeK6 c) := by sorry
theorem w_isTypeK6 : UMet 23 (fun _ _ => True) Qw_isTypeK6 := fun A1 σ _ w τ h c hP => v_isTypeK6 c A1 σ hP w τ h
def Pv_isSignK6 (c : RS) : UP1 := fun A1 σ => match A1 with
  | [.int a1] => K6 c σ
  | _ => False
def Qv_isSignK6 (c : RS) : UQ1 := fun A1 σ w τ => match A1 with
  | [.int a1] => (∃ r : Int32, w = some (.int r)) ∧ K6 c τ
  | _ => False
def Qw_isSignK6 : UQ1 := fun A1 σ w τ => ∀ (c : RS), Pv_isSignK6 c A1 σ → Qv_isSignK6 c A1 σ w τ
set_option maxRecDepth 100000 in
set_option maxHeartbeats 4000000 in
theorem v_isSignK6 (c : RS) : UMet 14 (Pv_isSignK6 c) (Qv_isSignK6 c) := by sorry
theorem w_isSignK6 : UMet 14 (fun _ _ => True) Qw_isSignK6 := fun A1 σ _ w τ h c hP => v_isSignK6 c A1 σ hP w τ h
def Pv_wrongK6 (c : RS) : UP1 := fun A1 σ => match A1 with
  | [.int a1, .int a2] => K6 c σ
  | _ => False
def Qv_wrongK6 (c : RS) : UQ1 := fun A1 σ w τ => match A1 with
  | [.int a1, .int a2] => (w = some (.int 0)) ∧ K6 c τ
  | _ => False
def Qw_wrongK6 : UQ1 := fun A1 σ w τ => ∀ (c : RS), Pv_wrongK6 c A1 σ → Qv_wrongK6 c A1 σ w τ
set_option maxRecDepth 100000 in
set_option maxHeartbeats 4000000 in
theorem v_wrongK6 (c : RS) : UMet 12 (Pv_wrongK6 c) (Qv_wrongK6 c) := by sorry
theorem w_wrongK6 : UMet 12 (fun _ _ => True) Qw_wrongK6 := fun A1 σ _ w τ h c hP => v_wrongK6 c A1 σ hP w τ h
def Pv_takeK6 (c : RS) : UP1 := fun A1 σ => match A1 with
  | [] => K6 c σ
  | _ => False
def Qv_takeK6 (c : RS) : UQ1 := fun A1 σ w τ => match A1 with
  | [] => (∃ r : Int32, w = some (.int r)) ∧ K6 c τ
  | _ => False
def Qw_takeK6 : UQ1 := fun A1 σ w τ => ∀ (c : RS), Pv_takeK6 c A1 σ → Qv_takeK6 c A1 σ w τ
set_option maxRecDepth 100000 in
set_option maxHeartbeats 4000000 in
theorem v_takeK6 (c : RS) : UMet 17 (Pv_takeK6 c) (Qv_takeK6 c) := by sorry
theorem w_takeK6 : UMet 17 (fun _ _ => True) Qw_takeK6 := fun A1 σ _ w τ h c hP => v_takeK6 c A1 σ hP w τ h
def Pv_cantK6 (c : RS) : UP1 := fun A1 σ => match A1 with
  | [] => K6 c σ
  | _ => False
def Qv_cantK6 (c : RS) : UQ1 := fun A1 σ w τ => match A1 with
  | [] => (w = some (.int 0)) ∧ K6 c τ
  | _ => False
def Qw_cantK6 : UQ1 := fun A1 σ w τ => ∀ (c : RS), Pv_cantK6 c A1 σ → Qv_cantK6 c A1 σ w τ
set_option maxRecDepth 100000 in
set_option maxHeartbeats 4000000 in
theorem v_cantK6 (c : RS) : UMet 13 (Pv_cantK6 c) (Qv_cantK6 c) := by sorry
theorem w_cantK6 : UMet 13 (fun _ _ => True) Qw_cantK6 := fun A1 σ _ w τ h c hP => v_cantK6 c A1 σ hP w τ h
def Pv_wantK6 (c : RS) : UP1 := fun A1 σ => match A1 with
  | [.int a1] => K6 c σ
  | _ => False
def Qv_wantK6 (c : RS) : UQ1 := fun A1 σ w τ => match A1 with
  | [.int a1] => (∃ r : Int32, w = some (.int r)) ∧ K6 c τ
  | _ => False
def Qw_wantK6 : UQ1 := fun A1 σ w τ => ∀ (c : RS), Pv_wantK6 c A1 σ → Qv_wantK6 c A1 σ w τ
set_option maxRecDepth 100000 in
set_option maxHeartbeats 4000000 in
theorem v_wantK6 (c : RS) : UMet 18 (Pv_wantK6 c) (Qv_wantK6 c) := by sorry
theorem w_wantK6 : UMet 18 (fun _ _ => True) Qw_wantK6 := fun A1 σ _ w τ h c hP => v_wantK6 c A1 σ hP w τ h
def Pv_thingK6 (c : RS) : UP1 := fun A1 σ => match A1 with
  | [.int a1, .int a2] => K6 c σ
  | _ => False
def Qv_thingK6 (c : RS) : UQ1 := fun A1 σ w τ => match A1 with
  | [.int a1, .int a2] => (∃ r : Int32, w = some (.int r)) ∧ K6 c τ
  | _ => False
def Qw_thingK6 : UQ1 := fun A1 σ w τ => ∀ (c : RS), Pv_thingK6 c A1 σ → Qv_thingK6 c A1 σ w τ
set_option maxRecDepth 100000 in
set_option maxHeartbeats 4000000 in
theorem v_thingK6 (c : RS) : UMet 35 (Pv_thingK6 c) (Qv_thingK6 c) := by sorry
theorem w_thingK6 : UMet 35 (fun _ _ => True) Qw_thingK6 := fun A1 σ _ w τ h c hP => v_thingK6 c A1 σ hP w τ h
def Pv_wrongJ4 (c : RS) : UP1 := fun A1 σ => match A1 with
  | [.int a1, .int a2] => J4 c σ
  | _ => False
def Qv_wrongJ4 (c : RS) : UQ1 := fun A1 σ w τ => match A1 with
  | [.int a1, .int a2] => (w = some (.int 0)) ∧ J4 c τ
  | _ => False
def Qw_wrongJ4 : UQ1 := fun A1 σ w τ => ∀ (c : RS), Pv_wrongJ4 c A1 σ → Qv_wrongJ4 c A1 σ w τ
set_option maxRecDepth 100000 in
set_option maxHeartbeats 4000000 in
theorem v_wrongJ4 (c : RS) : UMet 12 (Pv_wrongJ4 c) (Qv_wrongJ4 c) := by sorry
theorem w_wrongJ4 : UMet 12 (fun _ _ => True) Qw_wrongJ4 := fun A1 σ _ w τ h c hP => v_wrongJ4 c A1 σ hP w τ h
def Pv_cantJ4 (c : RS) : UP1 := fun A1 σ => match A1 with
  | [] => J4 c σ
  | _ => False
def Qv_cantJ4 (c : RS) : UQ1 := fun A1 σ w τ => match A1 with
  | [] => (w = some (.int 0)) ∧ J4 c τ
  | _ => False
def Qw_cantJ4 : UQ1 := fun A1 σ w τ => ∀ (c : RS), Pv_cantJ4 c A1 σ → Qv_cantJ4 c A1 σ w τ
set_option maxRecDepth 100000 in
set_option maxHeartbeats 4000000 in
theorem v_cantJ4 (c : RS) : UMet 13 (Pv_cantJ4 c) (Qv_cantJ4 c) := by sorry
theorem w_cantJ4 : UMet 13 (fun _ _ => True) Qw_cantJ4 := fun A1 σ _ w τ h c hP => v_cantJ4 c A1 σ hP w τ h
def Pv_emitJ4 (c : RS) : UP1 := fun A1 σ => match A1 with
  | [.int a1, .int a2, .int a3] => J4 c σ
  | _ => False
def Qv_emitJ4 (c : RS) : UQ1 := fun A1 σ w τ => match A1 with
  | [.int a1, .int a2, .int a3] => (∃ r : Int32, w = some (.int r)) ∧ J4 c τ
  | _ => False
def Qw_emitJ4 : UQ1 := fun A1 σ w τ => ∀ (c : RS), Pv_emitJ4 c A1 σ → Qv_emitJ4 c A1 σ w τ
set_option maxRecDepth 100000 in
set_option maxHeartbeats 4000000 in
theorem v_emitJ4 (c : RS) : UMet 20 (Pv_emitJ4 c) (Qv_emitJ4 c) := by sorry
theorem w_emitJ4 : UMet 20 (fun _ _ => True) Qw_emitJ4 := fun A1 σ _ w τ h c hP => v_emitJ4 c A1 σ hP w τ h
def Pv_emitExpJ4 (c : RS) : UP1 := fun A1 σ => match A1 with
  | [.int a1, .int a2, .int a3, .int a4, .int a5] => J4 c σ
  | _ => False
def Qv_emitExpJ4 (c : RS) : UQ1 := fun A1 σ w τ => match A1 with
  | [.int a1, .int a2, .int a3, .int a4, .int a5] => (∃ r : Int32, w = some (.int r)) ∧ J4 c τ
  | _ => False
def Qw_emitExpJ4 : UQ1 := fun A1 σ w τ => ∀ (c : RS), Pv_emitExpJ4 c A1 σ → Qv_emitExpJ4 c A1 σ w τ
set_option maxRecDepth 100000 in
set_option maxHeartbeats 4000000 in
theorem v_emitExpJ4 (c : RS) : UMet 21 (Pv_emitExpJ4 c) (Qv_emitExpJ4 c) := by sorry
theorem w_emitExpJ4 : UMet 21 (fun _ _ => True) Qw_emitExpJ4 := fun A1 σ _ w τ h c hP => v_emitExpJ4 c A1 σ hP w τ h
def Pv_takeJ4 (c : RS) : UP1 := fun A1 σ => match A1 with
  | [] => J4 c σ
  | _ => False
def Qv_takeJ4 (c : RS) : UQ1 := fun A1 σ w τ => match A1 with
  | [] => (∃ r : Int32, w = some (.int r)) ∧ J4 c τ
  | _ => False
def Qw_takeJ4 : UQ1 := fun A1 σ w τ => ∀ (c : RS), Pv_takeJ4 c A1 σ → Qv_takeJ4 c A1 σ w τ
set_option maxRecDepth 100000 in
set_option maxHeartbeats 4000000 in
theorem v_takeJ4 (c : RS) : UMet 17 (Pv_takeJ4 c) (Qv_takeJ4 c) := by sorry
theorem w_takeJ4 : UMet 17 (fun _ _ => True) Qw_takeJ4 := fun A1 σ _ w τ h c hP => v_takeJ4 c A1 σ hP w τ h
def Pv_wholeJ4 (c : RS) : UP1 := fun A1 σ => match A1 with
  | [.int a1] => J4 c σ
  | _ => False
def Qv_wholeJ4 (c : RS) : UQ1 := fun A1 σ w τ => match A1 with
  | [.int a1] => (w = none) ∧ J4 c τ
  | _ => False
def Qw_wholeJ4 : UQ1 := fun A1 σ w τ => ∀ (c : RS), Pv_wholeJ4 c A1 σ → Qv_wholeJ4 c A1 σ w τ
set_option maxRecDepth 100000 in
set_option maxHeartbeats 4000000 in
theorem v_wholeJ4 (c : RS) : UMet 26 (Pv_wholeJ4 c) (Qv_wholeJ4 c) := by sorry
theorem w_wholeJ4 : UMet 26 (fun _ _ => True) Qw_wholeJ4 := fun A1 σ _ w τ h c hP => v_wholeJ4 c A1 σ hP w τ h
def Pv_closeCallJ4 (c : RS) : UP1 := fun A1 σ => match A1 with
  | [] => J4 c σ
  | _ => False
def Qv_closeCallJ4 (c : RS) : UQ1 := fun A1 σ w τ => match A1 with
  | [] => (∃ r : Int32, w = some (.int r)) ∧ J4 c τ
  | _ => False
def Qw_closeCallJ4 : UQ1 := fun A1 σ w τ => ∀ (c : RS), Pv_closeCallJ4 c A1 σ → Qv_closeCallJ4 c A1 σ w τ
set_option maxRecDepth 100000 in
set_option maxHeartbeats 4000000 in
theorem v_closeCallJ4 (c : RS) : UMet 31 (Pv_closeCallJ4 c) (Qv_closeCallJ4 c) := by sorry
theorem w_closeCallJ4 : UMet 31 (fun _ _ => True) Qw_closeCallJ4 := fun A1 σ _ w τ h c hP => v_closeCallJ4 c A1 σ hP w τ h
def Pv_strengthJ4 (c : RS) : UP1 := fun A1 σ => match A1 with
  | [.int a1] => J4 c σ
  | _ => False
def Qv_strengthJ4 (c : RS) : UQ1 := fun A1 σ w τ => match A1 with
  | [.int a1] => (∃ r : Int32, w = some (.int r)) ∧ J4 c τ
  | _ => False
def Qw_strengthJ4 : UQ1 := fun A1 σ w τ => ∀ (c : RS), Pv_strengthJ4 c A1 σ → Qv_strengthJ4 c A1 σ w τ
set_option maxRecDepth 100000 in
set_option maxHeartbeats 4000000 in
theorem v_strengthJ4 (c : RS) : UMet 22 (Pv_strengthJ4 c) (Qv_strengthJ4 c) := by sorry
theorem w_strengthJ4 : UMet 22 (fun _ _ => True) Qw_strengthJ4 := fun A1 σ _ w τ h c hP => v_strengthJ4 c A1 σ hP w τ h
def Pv_reduceJ4 (c : RS) : UP1 := fun A1 σ => match A1 with
  | [.int a1] => J4 c σ
  | _ => False
def Qv_reduceJ4 (c : RS) : UQ1 := fun A1 σ w τ => match A1 with
  | [.int a1] => (w = none) ∧ J4 c τ
  | _ => False
def Qw_reduceJ4 : UQ1 := fun A1 σ w τ => ∀ (c : RS), Pv_reduceJ4 c A1 σ → Qv_reduceJ4 c A1 σ w τ
set_option maxRecDepth 100000 in
set_option maxHeartbeats 4000000 in
theorem v_reduceJ4 (c : RS) : UMet 32 (Pv_reduceJ4 c) (Qv_reduceJ4 c) := by sorry
theorem w_reduceJ4 : UMet 32 (fun _ _ => True) Qw_reduceJ4 := fun A1 σ _ w τ h c hP => v_reduceJ4 c A1 σ hP w τ h
def Pv_completeJ4 (c : RS) : UP1 := fun A1 σ => match A1 with
  | [] => J4 c σ
  | _ => False
def Qv_completeJ4 (c : RS) : UQ1 := fun A1 σ w τ => match A1 with
  | [] => (w = none) ∧ J4 c τ
  | _ => False
def Qw_completeJ4 : UQ1 := fun A1 σ w τ => ∀ (c : RS), Pv_completeJ4 c A1 σ → Qv_completeJ4 c A1 σ w τ
set_option maxRecDepth 100000 in
set_option maxHeartbeats 4000000 in
theorem v_completeJ4 (c : RS) : UMet 33 (Pv_completeJ4 c) (Qv_completeJ4 c) := by sorry
theorem w_completeJ4 : UMet 33 (fun _ _ => True) Qw_completeJ4 := fun A1 σ _ w τ h c hP => v_completeJ4 c A1 σ hP w τ h
def Pv_enterJ4 (c : RS) : UP1 := fun A1 σ => match A1 with
  | [] => J4 c σ
  | _ => False
def Qv_enterJ4 (c : RS) : UQ1 := fun A1 σ w τ => match A1 with
  | [] => (∃ r : Int32, w = some (.int r)) ∧ J4 c τ
  | _ => False
def Qw_enterJ4 : UQ1 := fun A1 σ w τ => ∀ (c : RS), Pv_enterJ4 c A1 σ → Qv_enterJ4 c A1 σ w τ
set_option maxRecDepth 100000 in
set_option maxHeartbeats 4000000 in
theorem v_enterJ4 (c : RS) : UMet 19 (Pv_enterJ4 c) (Qv_enterJ4 c) := by sorry
theorem w_enterJ4 : UMet 19 (fun _ _ => True) Qw_enterJ4 := fun A1 σ _ w τ h c hP => v_enterJ4 c A1 σ hP w τ h
def Pv_isSignJ4 (c : RS) : UP1 := fun A1 σ => match A1 with
  | [.int a1] => J4 c σ
  | _ => False
def Qv_isSignJ4 (c : RS) : UQ1 := fun A1 σ w τ => match A1 with
  | [.int a1] => (∃ r : Int32, w = some (.int r)) ∧ J4 c τ
  | _ => False
def Qw_isSignJ4 : UQ1 := fun A1 σ w τ => ∀ (c : RS), Pv_isSignJ4 c A1 σ → Qv_isSignJ4 c A1 σ w τ
set_option maxRecDepth 100000 in
set_option maxHeartbeats 4000000 in
theorem v_isSignJ4 (c : RS) : UMet 14 (Pv_isSignJ4 c) (Qv_isSignJ4 c) := by sorry
theorem w_isSignJ4 : UMet 14 (fun _ _ => True) Qw_isSignJ4 := fun A1 σ _ w τ h c hP => v_isSignJ4 c A1 σ hP w τ h
def Pv_pushJ4 (c : RS) : UP1 := fun A1 σ => match A1 with
  | [.int a1, .int a2, .int a3] => J4 c σ
  | _ => False
def Qv_pushJ4 (c : RS) : UQ1 := fun A1 σ w τ => match A1 with
  | [.int a1, .int a2, .int a3] => (∃ r : Int32, w = some (.int r)) ∧ J4 c τ
  | _ => False
def Qw_pushJ4 : UQ1 := fun A1 σ w τ => ∀ (c : RS), Pv_pushJ4 c A1 σ → Qv_pushJ4 c A1 σ w τ
set_option maxRecDepth 100000 in
set_option maxHeartbeats 4000000 in
theorem v_pushJ4 (c : RS) : UMet 25 (Pv_pushJ4 c) (Qv_pushJ4 c) := by sorry
theorem w_pushJ4 : UMet 25 (fun _ _ => True) Qw_pushJ4 := fun A1 σ _ w τ h c hP => v_pushJ4 c A1 σ hP w τ h
def Pv_waitJ4 (c : RS) : UP1 := fun A1 σ => match A1 with
  | [.int a1] => J4 c σ
  | _ => False
def Qv_waitJ4 (c : RS) : UQ1 := fun A1 σ w τ => match A1 with
  | [.int a1] => (∃ r : Int32, w = some (.int r)) ∧ J4 c τ
  | _ => False
def Qw_waitJ4 : UQ1 := fun A1 σ w τ => ∀ (c : RS), Pv_waitJ4 c A1 σ → Qv_waitJ4 c A1 σ w τ
set_option maxRecDepth 100000 in
set_option maxHeartbeats 4000000 in
theorem v_waitJ4 (c : RS) : UMet 28 (Pv_waitJ4 c) (Qv_waitJ4 c) := by sorry
theorem w_waitJ4 : UMet 28 (fun _ _ => True) Qw_waitJ4 := fun A1 σ _ w τ h c hP => v_waitJ4 c A1 σ hP w τ h
def Pv_behindJ4 (c : RS) : UP1 := fun A1 σ => match A1 with
  | [] => J4 c σ
  | _ => False
def Qv_behindJ4 (c : RS) : UQ1 := fun A1 σ w τ => match A1 with
  | [] => (∃ r : Int32, w = some (.int r)) ∧ J4 c τ
  | _ => False
def Qw_behindJ4 : UQ1 := fun A1 σ w τ => ∀ (c : RS), Pv_behindJ4 c A1 σ → Qv_behindJ4 c A1 σ w τ
set_option maxRecDepth 100000 in
set_option maxHeartbeats 4000000 in
theorem v_behindJ4 (c : RS) : UMet 34 (Pv_behindJ4 c) (Qv_behindJ4 c) := by sorry
theorem w_behindJ4 : UMet 34 (fun _ _ => True) Qw_behindJ4 := fun A1 σ _ w τ h c hP => v_behindJ4 c A1 σ hP w τ h
def Pv_isTypeJ4 (c : RS) : UP1 := fun A1 σ => match A1 with
  | [.int a1] => J4 c σ
  | _ => False
def Qv_isTypeJ4 (c : RS) : UQ1 := fun A1 σ w τ => match A1 with
  | [.int a1] => (∃ r : Int32, w = some (.int r)) ∧ J4 c τ
  | _ => False
def Qw_isTypeJ4 : UQ1 := fun A1 σ w τ => ∀ (c : RS), Pv_isTypeJ4 c A1 σ → Qv_isTypeJ4 c A1 σ w τ
set_option maxRecDepth 100000 in
set_option maxHeartbeats 4000000 in
theorem v_isTypeJ4 (c : RS) : UMet 23 (Pv_isTypeJ4 c) (Qv_isTypeJ4 c) := by sorry
theorem w_isTypeJ4 : UMet 23 (fun _ _ => True) Qw_isTypeJ4 := fun A1 σ _ w τ h c hP => v_isTypeJ4 c A1 σ hP w τ h
def Pv_isWordJ4 (c : RS) : UP1 := fun A1 σ => match A1 with
  | [.int a1] => J4 c σ
  | _ => False
def Qv_isWordJ4 (c : RS) : UQ1 := fun A1 σ w τ => match A1 with
  | [.int a1] => (∃ r : Int32, w = some (.int r)) ∧ J4 c τ
  | _ => False
def Qw_isWordJ4 : UQ1 := fun A1 σ w τ => ∀ (c : RS), Pv_isWordJ4 c A1 σ → Qv_isWordJ4 c A1 σ w τ
set_option maxRecDepth 100000 in
set_option maxHeartbeats 4000000 in
theorem v_isWordJ4 (c : RS) : UMet 15 (Pv_isWordJ4 c) (Qv_isWordJ4 c) := by sorry
theorem w_isWordJ4 : UMet 15 (fun _ _ => True) Qw_isWordJ4 := fun A1 σ _ w τ h c hP => v_isWordJ4 c A1 σ hP w τ h
def Pv_isSetAtJ4 (c : RS) : UP1 := fun A1 σ => match A1 with
  | [.int a1] => J4 c σ
  | _ => False
def Qv_isSetAtJ4 (c : RS) : UQ1 := fun A1 σ w τ => match A1 with
  | [.int a1] => (∃ r : Int32, w = some (.int r)) ∧ J4 c τ
  | _ => False
def Qw_isSetAtJ4 : UQ1 := fun A1 σ w τ => ∀ (c : RS), Pv_isSetAtJ4 c A1 σ → Qv_isSetAtJ4 c A1 σ w τ
set_option maxRecDepth 100000 in
set_option maxHeartbeats 4000000 in
theorem v_isSetAtJ4 (c : RS) : UMet 24 (Pv_isSetAtJ4 c) (Qv_isSetAtJ4 c) := by sorry
theorem w_isSetAtJ4 : UMet 24 (fun _ _ => True) Qw_isSetAtJ4 := fun A1 σ _ w τ h c hP => v_isSetAtJ4 c A1 σ hP w τ h
def Pv_namedJ4 (c : RS) : UP1 := fun A1 σ => match A1 with
  | [.int a1] => J4 c σ
  | _ => False
def Qv_namedJ4 (c : RS) : UQ1 := fun A1 σ w τ => match A1 with
  | [.int a1] => (∃ r : Int32, w = some (.int r)) ∧ J4 c τ
  | _ => False
def Qw_namedJ4 : UQ1 := fun A1 σ w τ => ∀ (c : RS), Pv_namedJ4 c A1 σ → Qv_namedJ4 c A1 σ w τ
set_option maxRecDepth 100000 in
set_option maxHeartbeats 4000000 in
theorem v_namedJ4 (c : RS) : UMet 30 (Pv_namedJ4 c) (Qv_namedJ4 c) := by sorry
theorem w_namedJ4 : UMet 30 (fun _ _ => True) Qw_namedJ4 := fun A1 σ _ w τ h c hP => v_namedJ4 c A1 σ hP w τ h
def Pv_wantJ4 (c : RS) : UP1 := fun A1 σ => match A1 with
  | [.int a1] => J4 c σ
  | _ => False
def Qv_wantJ4 (c : RS) : UQ1 := fun A1 σ w τ => match A1 with
  | [.int a1] => (∃ r : Int32, w = some (.int r)) ∧ J4 c τ
  | _ => False
def Qw_wantJ4 : UQ1 := fun A1 σ w τ => ∀ (c : RS), Pv_wantJ4 c A1 σ → Qv_wantJ4 c A1 σ w τ
set_option maxRecDepth 100000 in
set_option maxHeartbeats 4000000 in
theorem v_wantJ4 (c : RS) : UMet 18 (Pv_wantJ4 c) (Qv_wantJ4 c) := by sorry
theorem w_wantJ4 : UMet 18 (fun _ _ => True) Qw_wantJ4 := fun A1 σ _ w τ h c hP => v_wantJ4 c A1 σ hP w τ h
def Pv_operandJ4 (c : RS) : UP1 := fun A1 σ => match A1 with
  | [.int a1] => J4 c σ
  | _ => False
def Qv_operandJ4 (c : RS) : UQ1 := fun A1 σ w τ => match A1 with
  | [.int a1] => (∃ r : Int32, w = some (.int r)) ∧ J4 c τ
  | _ => False
def Qw_operandJ4 : UQ1 := fun A1 σ w τ => ∀ (c : RS), Pv_operandJ4 c A1 σ → Qv_operandJ4 c A1 σ w τ
set_option maxRecDepth 100000 in
set_option maxHeartbeats 4000000 in
theorem v_operandJ4 (c : RS) : UMet 29 (Pv_operandJ4 c) (Qv_operandJ4 c) := by sorry
theorem w_operandJ4 : UMet 29 (fun _ _ => True) Qw_operandJ4 := fun A1 σ _ w τ h c hP => v_operandJ4 c A1 σ hP w τ h
def Pv_expressionJ4 (c : RS) : UP1 := fun A1 σ => match A1 with
  | [] => J4 c σ
  | _ => False
def Qv_expressionJ4 (c : RS) : UQ1 := fun A1 σ w τ => match A1 with
  | [] => (∃ r : Int32, w = some (.int r)) ∧ J4 c τ
  | _ => False
def Qw_expressionJ4 : UQ1 := fun A1 σ w τ => ∀ (c : RS), Pv_expressionJ4 c A1 σ → Qv_expressionJ4 c A1 σ w τ
set_option maxRecDepth 100000 in
set_option maxHeartbeats 4000000 in
theorem v_expressionJ4 (c : RS) : UMet 27 (Pv_expressionJ4 c) (Qv_expressionJ4 c) := by sorry
theorem w_expressionJ4 : UMet 27 (fun _ _ => True) Qw_expressionJ4 := fun A1 σ _ w τ h c hP => v_expressionJ4 c A1 σ hP w τ h
def Pv_conditionJ4 (c : RS) : UP1 := fun A1 σ => match A1 with
  | [] => J4 c σ
  | _ => False
def Qv_conditionJ4 (c : RS) : UQ1 := fun A1 σ w τ => match A1 with
  | [] => (∃ r : Int32, w = some (.int r)) ∧ J4 c τ
  | _ => False
def Qw_conditionJ4 : UQ1 := fun A1 σ w τ => ∀ (c : RS), Pv_conditionJ4 c A1 σ → Qv_conditionJ4 c A1 σ w τ
set_option maxRecDepth 100000 in
set_option maxHeartbeats 4000000 in
theorem v_conditionJ4 (c : RS) : UMet 52 (Pv_conditionJ4 c) (Qv_conditionJ4 c) := by sorry
theorem w_conditionJ4 : UMet 52 (fun _ _ => True) Qw_conditionJ4 := fun A1 σ _ w τ h c hP => v_conditionJ4 c A1 σ hP w τ h
def Pv_isRowJ4 (c : RS) : UP1 := fun A1 σ => match A1 with
  | [.int a1] => J4 c σ
  | _ => False
def Qv_isRowJ4 (c : RS) : UQ1 := fun A1 σ w τ => match A1 with
  | [.int a1] => (∃ r : Int32, w = some (.int r)) ∧ J4 c τ
  | _ => False
def Qw_isRowJ4 : UQ1 := fun A1 σ w τ => ∀ (c : RS), Pv_isRowJ4 c A1 σ → Qv_isRowJ4 c A1 σ w τ
set_option maxRecDepth 100000 in
set_option maxHeartbeats 4000000 in
theorem v_isRowJ4 (c : RS) : UMet 43 (Pv_isRowJ4 c) (Qv_isRowJ4 c) := by sorry
theorem w_isRowJ4 : UMet 43 (fun _ _ => True) Qw_isRowJ4 := fun A1 σ _ w τ h c hP => v_isRowJ4 c A1 σ hP w τ h
def Pv_leaveJ4 (c : RS) : UP1 := fun A1 σ => match A1 with
  | [.int a1, .int a2] => J4 c σ
  | _ => False
def Qv_leaveJ4 (c : RS) : UQ1 := fun A1 σ w τ => match A1 with
  | [.int a1, .int a2] => (w = none) ∧ J4 c τ
  | _ => False
def Qw_leaveJ4 : UQ1 := fun A1 σ w τ => ∀ (c : RS), Pv_leaveJ4 c A1 σ → Qv_leaveJ4 c A1 σ w τ
set_option maxRecDepth 100000 in
set_option maxHeartbeats 4000000 in
theorem v_leaveJ4 (c : RS) : UMet 42 (Pv_leaveJ4 c) (Qv_leaveJ4 c) := by sorry
theorem w_leaveJ4 : UMet 42 (fun _ _ => True) Qw_leaveJ4 := fun A1 σ _ w τ h c hP => v_leaveJ4 c A1 σ hP w τ h
def Pv_finishedJ4 (c : RS) : UP1 := fun A1 σ => match A1 with
  | [] => J4 c σ
  | _ => False
def Qv_finishedJ4 (c : RS) : UQ1 := fun A1 σ w τ => match A1 with
  | [] => (∃ r : Int32, w = some (.int r)) ∧ J4 c τ
  | _ => False
def Qw_finishedJ4 : UQ1 := fun A1 σ w τ => ∀ (c : RS), Pv_finishedJ4 c A1 σ → Qv_finishedJ4 c A1 σ w τ
set_option maxRecDepth 100000 in
set_option maxHeartbeats 4000000 in
theorem v_finishedJ4 (c : RS) : UMet 69 (Pv_finishedJ4 c) (Qv_finishedJ4 c) := by sorry
theorem w_finishedJ4 : UMet 69 (fun _ _ => True) Qw_finishedJ4 := fun A1 σ _ w τ h c hP => v_finishedJ4 c A1 σ hP w τ h
def Pv_openJ4 (c : RS) : UP1 := fun A1 σ => match A1 with
  | [.int a1, .int a2, .int a3] => J4 c σ
  | _ => False
def Qv_openJ4 (c : RS) : UQ1 := fun A1 σ w τ => match A1 with
  | [.int a1, .int a2, .int a3] => (∃ r : Int32, w = some (.int r)) ∧ J4 c τ
  | _ => False
def Qw_openJ4 : UQ1 := fun A1 σ w τ => ∀ (c : RS), Pv_openJ4 c A1 σ → Qv_openJ4 c A1 σ w τ
set_option maxRecDepth 100000 in
set_option maxHeartbeats 4000000 in
theorem v_openJ4 (c : RS) : UMet 36 (Pv_openJ4 c) (Qv_openJ4 c) := by sorry
theorem w_openJ4 : UMet 36 (fun _ _ => True) Qw_openJ4 := fun A1 σ _ w τ h c hP => v_openJ4 c A1 σ hP w τ h
def Pv_variableJ4 (c : RS) : UP1 := fun A1 σ => match A1 with
  | [.int a1, .int a2, .int a3] => J4 c σ
  | _ => False
def Qv_variableJ4 (c : RS) : UQ1 := fun A1 σ w τ => match A1 with
  | [.int a1, .int a2, .int a3] => (∃ r : Int32, w = some (.int r)) ∧ J4 c τ
  | _ => False
def Qw_variableJ4 : UQ1 := fun A1 σ w τ => ∀ (c : RS), Pv_variableJ4 c A1 σ → Qv_variableJ4 c A1 σ w τ
set_option maxRecDepth 100000 in
set_option maxHeartbeats 4000000 in
theorem v_variableJ4 (c : RS) : UMet 40 (Pv_variableJ4 c) (Qv_variableJ4 c) := by sorry
theorem w_variableJ4 : UMet 40 (fun _ _ => True) Qw_variableJ4 := fun A1 σ _ w τ h c hP => v_variableJ4 c A1 σ hP w τ h
def Pv_closeTryJ4 (c : RS) : UP1 := fun A1 σ => match A1 with
  | [.int a1, .int a2, .int a3] => J4 c σ
  | _ => False
def Qv_closeTryJ4 (c : RS) : UQ1 := fun A1 σ w τ => match A1 with
  | [.int a1, .int a2, .int a3] => (∃ r : Int32, w = some (.int r)) ∧ J4 c τ
  | _ => False
def Qw_closeTryJ4 : UQ1 := fun A1 σ w τ => ∀ (c : RS), Pv_closeTryJ4 c A1 σ → Qv_closeTryJ4 c A1 σ w τ
set_option maxRecDepth 100000 in
set_option maxHeartbeats 4000000 in
theorem v_closeTryJ4 (c : RS) : UMet 68 (Pv_closeTryJ4 c) (Qv_closeTryJ4 c) := by sorry
theorem w_closeTryJ4 : UMet 68 (fun _ _ => True) Qw_closeTryJ4 := fun A1 σ _ w τ h c hP => v_closeTryJ4 c A1 σ hP w τ h
def Pv_closedJ4 (c : RS) : UP1 := fun A1 σ => match A1 with
  | [.int a1] => J4 c σ
  | _ => False
def Qv_closedJ4 (c : RS) : UQ1 := fun A1 σ w τ => match A1 with
  | [.int a1] => (∃ r : Int32, w = some (.int r)) ∧ J4 c τ
  | _ => False
def Qw_closedJ4 : UQ1 := fun A1 σ w τ => ∀ (c : RS), Pv_closedJ4 c A1 σ → Qv_closedJ4 c A1 σ w τ
set_option maxRecDepth 100000 in
set_option maxHeartbeats 4000000 in
theorem v_closedJ4 (c : RS) : UMet 61 (Pv_closedJ4 c) (Qv_closedJ4 c) := by sorry
theorem w_closedJ4 : UMet 61 (fun _ _ => True) Qw_closedJ4 := fun A1 σ _ w τ h c hP => v_closedJ4 c A1 σ hP w τ h
def Pv_closeRowJ4 (c : RS) : UP1 := fun A1 σ => match A1 with
  | [.int a1] => J4 c σ
  | _ => False
def Qv_closeRowJ4 (c : RS) : UQ1 := fun A1 σ w τ => match A1 with
  | [.int a1] => (∃ r : Int32, w = some (.int r)) ∧ J4 c τ
  | _ => False
def Qw_closeRowJ4 : UQ1 := fun A1 σ w τ => ∀ (c : RS), Pv_closeRowJ4 c A1 σ → Qv_closeRowJ4 c A1 σ w τ
set_option maxRecDepth 100000 in
set_option maxHeartbeats 4000000 in
theorem v_closeRowJ4 (c : RS) : UMet 67 (Pv_closeRowJ4 c) (Qv_closeRowJ4 c) := by sorry
theorem w_closeRowJ4 : UMet 67 (fun _ _ => True) Qw_closeRowJ4 := fun A1 σ _ w τ h c hP => v_closeRowJ4 c A1 σ hP w τ h
def Pv_closeSwitchJ4 (c : RS) : UP1 := fun A1 σ => match A1 with
  | [] => J4 c σ
  | _ => False
def Qv_closeSwitchJ4 (c : RS) : UQ1 := fun A1 σ w τ => match A1 with
  | [] => (∃ r : Int32, w = some (.int r)) ∧ J4 c τ
  | _ => False
def Qw_closeSwitchJ4 : UQ1 := fun A1 σ w τ => ∀ (c : RS), Pv_closeSwitchJ4 c A1 σ → Qv_closeSwitchJ4 c A1 σ w τ
set_option maxRecDepth 100000 in
set_option maxHeartbeats 4000000 in
theorem v_closeSwitchJ4 (c : RS) : UMet 60 (Pv_closeSwitchJ4 c) (Qv_closeSwitchJ4 c) := by sorry
theorem w_closeSwitchJ4 : UMet 60 (fun _ _ => True) Qw_closeSwitchJ4 := fun A1 σ _ w τ h c hP => v_closeSwitchJ4 c A1 σ hP w τ h
def Pv_groupedJ4 (c : RS) : UP1 := fun A1 σ => match A1 with
  | [] => J4 c σ
  | _ => False
def Qv_groupedJ4 (c : RS) : UQ1 := fun A1 σ w τ => match A1 with
  | [] => (∃ r : Int32, w = some (.int r)) ∧ J4 c τ
  | _ => False
def Qw_groupedJ4 : UQ1 := fun A1 σ w τ => ∀ (c : RS), Pv_groupedJ4 c A1 σ → Qv_groupedJ4 c A1 σ w τ
set_option maxRecDepth 100000 in
set_option maxHeartbeats 4000000 in
theorem v_groupedJ4 (c : RS) : UMet 45 (Pv_groupedJ4 c) (Qv_groupedJ4 c) := by sorry
theorem w_groupedJ4 : UMet 45 (fun _ _ => True) Qw_groupedJ4 := fun A1 σ _ w τ h c hP => v_groupedJ4 c A1 σ hP w τ h
def Pv_isToldJ4 (c : RS) : UP1 := fun A1 σ => match A1 with
  | [] => J4 c σ
  | _ => False
def Qv_isToldJ4 (c : RS) : UQ1 := fun A1 σ w τ => match A1 with
  | [] => (∃ r : Int32, w = some (.int r)) ∧ J4 c τ
  | _ => False
def Qw_isToldJ4 : UQ1 := fun A1 σ w τ => ∀ (c : RS), Pv_isToldJ4 c A1 σ → Qv_isToldJ4 c A1 σ w τ
set_option maxRecDepth 100000 in
set_option maxHeartbeats 4000000 in
theorem v_isToldJ4 (c : RS) : UMet 46 (Pv_isToldJ4 c) (Qv_isToldJ4 c) := by sorry
theorem w_isToldJ4 : UMet 46 (fun _ _ => True) Qw_isToldJ4 := fun A1 σ _ w τ h c hP => v_isToldJ4 c A1 σ hP w τ h
/-! what reading leaves alone, further -/
def Pv_labelJ4 (c : RS) : UP1 := fun A1 σ => match A1 with
  | [] => J4 c σ
  | _ => False
def Qv_labelJ4 (c : RS) : UQ1 := fun A1 σ w τ => match A1 with
  | [] => (∃ r : Int32, w = some (.int r)) ∧ J4 c τ
  | _ => False
def Qw_labelJ4 : UQ1 := fun A1 σ w τ => ∀ (c : RS), Pv_labelJ4 c A1 σ → Qv_labelJ4 c A1 σ w τ
set_option maxRecDepth 100000 in
set_option maxHeartbeats 4000000 in
theorem v_labelJ4 (c : RS) : UMet 59 (Pv_labelJ4 c) (Qv_labelJ4 c) := by sorry
theorem w_labelJ4 : UMet 59 (fun _ _ => True) Qw_labelJ4 := fun A1 σ _ w τ h c hP => v_labelJ4 c A1 σ hP w τ h
def Pv_thingJ4 (c : RS) : UP1 := fun A1 σ => match A1 with
  | [.int a1, .int a2] => J4 c σ
  | _ => False
def Qv_thingJ4 (c : RS) : UQ1 := fun A1 σ w τ => match A1 with
  | [.int a1, .int a2] => (∃ r : Int32, w = some (.int r)) ∧ J4 c τ
  | _ => False
def Qw_thingJ4 : UQ1 := fun A1 σ w τ => ∀ (c : RS), Pv_thingJ4 c A1 σ → Qv_thingJ4 c A1 σ w τ
set_option maxRecDepth 100000 in
set_option maxHeartbeats 4000000 in
theorem v_thingJ4 (c : RS) : UMet 35 (Pv_thingJ4 c) (Qv_thingJ4 c) := by sorry
theorem w_thingJ4 : UMet 35 (fun _ _ => True) Qw_thingJ4 := fun A1 σ _ w τ h c hP => v_thingJ4 c A1 σ hP w τ h
def Pv_doOfJ4 (c : RS) : UP1 := fun A1 σ => match A1 with
  | [] => J4 c σ
  | _ => False
def Qv_doOfJ4 (c : RS) : UQ1 := fun A1 σ w τ => match A1 with
  | [] => (∃ r : Int32, w = some (.int r)) ∧ J4 c τ
  | _ => False
def Qw_doOfJ4 : UQ1 := fun A1 σ w τ => ∀ (c : RS), Pv_doOfJ4 c A1 σ → Qv_doOfJ4 c A1 σ w τ
set_option maxRecDepth 100000 in
set_option maxHeartbeats 4000000 in
theorem v_doOfJ4 (c : RS) : UMet 55 (Pv_doOfJ4 c) (Qv_doOfJ4 c) := by sorry
theorem w_doOfJ4 : UMet 55 (fun _ _ => True) Qw_doOfJ4 := fun A1 σ _ w τ h c hP => v_doOfJ4 c A1 σ hP w τ h
def Pv_declarationJ4 (c : RS) : UP1 := fun A1 σ => match A1 with
  | [.int a1] => J4 c σ
  | _ => False
def Qv_declarationJ4 (c : RS) : UQ1 := fun A1 σ w τ => match A1 with
  | [.int a1] => (∃ r : Int32, w = some (.int r)) ∧ J4 c τ
  | _ => False
def Qw_declarationJ4 : UQ1 := fun A1 σ w τ => ∀ (c : RS), Pv_declarationJ4 c A1 σ → Qv_declarationJ4 c A1 σ w τ
set_option maxRecDepth 100000 in
set_option maxHeartbeats 4000000 in
theorem v_declarationJ4 (c : RS) : UMet 48 (Pv_declarationJ4 c) (Qv_declarationJ4 c) := by sorry
theorem w_declarationJ4 : UMet 48 (fun _ _ => True) Qw_declarationJ4 := fun A1 σ _ w τ h c hP => v_declarationJ4 c A1 σ hP w τ h
def Pv_popJ4 (c : RS) : UP1 := fun A1 σ => match A1 with
  | [] => J4 c σ
  | _ => False
def Qv_popJ4 (c : RS) : UQ1 := fun A1 σ w τ => match A1 with
  | [] => (w = none) ∧ J4 c τ
  | _ => False
def Qw_popJ4 : UQ1 := fun A1 σ w τ => ∀ (c : RS), Pv_popJ4 c A1 σ → Qv_popJ4 c A1 σ w τ
set_option maxRecDepth 100000 in
set_option maxHeartbeats 4000000 in
theorem v_popJ4 (c : RS) : UMet 51 (Pv_popJ4 c) (Qv_popJ4 c) := by sorry
theorem w_popJ4 : UMet 51 (fun _ _ => True) Qw_popJ4 := fun A1 σ _ w τ h c hP => v_popJ4 c A1 σ hP w τ h
def Pv_expsJ4 (c : RS) : UP1 := fun A1 σ => match A1 with
  | [] => J4 c σ
  | _ => False
def Qv_expsJ4 (c : RS) : UQ1 := fun A1 σ w τ => match A1 with
  | [] => (∃ r : Int32, w = some (.int r)) ∧ J4 c τ
  | _ => False
def Qw_expsJ4 : UQ1 := fun A1 σ w τ => ∀ (c : RS), Pv_expsJ4 c A1 σ → Qv_expsJ4 c A1 σ w τ
set_option maxRecDepth 100000 in
set_option maxHeartbeats 4000000 in
theorem v_expsJ4 (c : RS) : UMet 56 (Pv_expsJ4 c) (Qv_expsJ4 c) := by sorry
theorem w_expsJ4 : UMet 56 (fun _ _ => True) Qw_expsJ4 := fun A1 σ _ w τ h c hP => v_expsJ4 c A1 σ hP w τ h
def Pv_forOfJ4 (c : RS) : UP1 := fun A1 σ => match A1 with
  | [] => J4 c σ
  | _ => False
def Qv_forOfJ4 (c : RS) : UQ1 := fun A1 σ w τ => match A1 with
  | [] => (∃ r : Int32, w = some (.int r)) ∧ J4 c τ
  | _ => False
def Qw_forOfJ4 : UQ1 := fun A1 σ w τ => ∀ (c : RS), Pv_forOfJ4 c A1 σ → Qv_forOfJ4 c A1 σ w τ
set_option maxRecDepth 100000 in
set_option maxHeartbeats 4000000 in
theorem v_forOfJ4 (c : RS) : UMet 57 (Pv_forOfJ4 c) (Qv_forOfJ4 c) := by sorry
theorem w_forOfJ4 : UMet 57 (fun _ _ => True) Qw_forOfJ4 := fun A1 σ _ w τ h c hP => v_forOfJ4 c A1 σ hP w τ h
def Pv_givesJ4 (c : RS) : UP1 := fun A1 σ => match A1 with
  | [] => J4 c σ
  | _ => False
def Qv_givesJ4 (c : RS) : UQ1 := fun A1 σ w τ => match A1 with
  | [] => (∃ r : Int32, w = some (.int r)) ∧ J4 c τ
  | _ => False
def Qw_givesJ4 : UQ1 := fun A1 σ w τ => ∀ (c : RS), Pv_givesJ4 c A1 σ → Qv_givesJ4 c A1 σ w τ
set_option maxRecDepth 100000 in
set_option maxHeartbeats 4000000 in
theorem v_givesJ4 (c : RS) : UMet 65 (Pv_givesJ4 c) (Qv_givesJ4 c) := by sorry
theorem w_givesJ4 : UMet 65 (fun _ _ => True) Qw_givesJ4 := fun A1 σ _ w τ h c hP => v_givesJ4 c A1 σ hP w τ h
def Pv_ifOfJ4 (c : RS) : UP1 := fun A1 σ => match A1 with
  | [] => J4 c σ
  | _ => False
def Qv_ifOfJ4 (c : RS) : UQ1 := fun A1 σ w τ => match A1 with
  | [] => (∃ r : Int32, w = some (.int r)) ∧ J4 c τ
  | _ => False
def Qw_ifOfJ4 : UQ1 := fun A1 σ w τ => ∀ (c : RS), Pv_ifOfJ4 c A1 σ → Qv_ifOfJ4 c A1 σ w τ
set_option maxRecDepth 100000 in
set_option maxHeartbeats 4000000 in
theorem v_ifOfJ4 (c : RS) : UMet 53 (Pv_ifOfJ4 c) (Qv_ifOfJ4 c) := by sorry
theorem w_ifOfJ4 : UMet 53 (fun _ _ => True) Qw_ifOfJ4 := fun A1 σ _ w τ h c hP => v_ifOfJ4 c A1 σ hP w τ h
def Pv_isSignAtJ4 (c : RS) : UP1 := fun A1 σ => match A1 with
  | [.int a1, .int a2] => J4 c σ
  | _ => False
def Qv_isSignAtJ4 (c : RS) : UQ1 := fun A1 σ w τ => match A1 with
  | [.int a1, .int a2] => (∃ r : Int32, w = some (.int r)) ∧ J4 c τ
  | _ => False
def Qw_isSignAtJ4 : UQ1 := fun A1 σ w τ => ∀ (c : RS), Pv_isSignAtJ4 c A1 σ → Qv_isSignAtJ4 c A1 σ w τ
set_option maxRecDepth 100000 in
set_option maxHeartbeats 4000000 in
theorem v_isSignAtJ4 (c : RS) : UMet 16 (Pv_isSignAtJ4 c) (Qv_isSignAtJ4 c) := by sorry
theorem w_isSignAtJ4 : UMet 16 (fun _ _ => True) Qw_isSignAtJ4 := fun A1 σ _ w τ h c hP => v_isSignAtJ4 c A1 σ hP w τ h
def Pv_sameNameJ4 (c : RS) : UP1 := fun A1 σ => match A1 with
  | [.int a1, .int a2] => J4 c σ
  | _ => False
def Qv_sameNameJ4 (c : RS) : UQ1 := fun A1 σ w τ => match A1 with
  | [.int a1, .int a2] => (∃ r : Int32, w = some (.int r)) ∧ J4 c τ
  | _ => False
def Qw_sameNameJ4 : UQ1 := fun A1 σ w τ => ∀ (c : RS), Pv_sameNameJ4 c A1 σ → Qv_sameNameJ4 c A1 σ w τ
set_option maxRecDepth 100000 in
set_option maxHeartbeats 4000000 in
theorem v_sameNameJ4 (c : RS) : UMet 63 (Pv_sameNameJ4 c) (Qv_sameNameJ4 c) := by sorry
theorem w_sameNameJ4 : UMet 63 (fun _ _ => True) Qw_sameNameJ4 := fun A1 σ _ w τ h c hP => v_sameNameJ4 c A1 σ hP w τ h
def Pv_named_J4 (c : RS) : UP1 := fun A1 σ => match A1 with
  | [.int a1, .int a2] => J4 c σ
  | _ => False
def Qv_named_J4 (c : RS) : UQ1 := fun A1 σ w τ => match A1 with
  | [.int a1, .int a2] => (∃ r : Int32, w = some (.int r)) ∧ J4 c τ
  | _ => False
def Qw_named_J4 : UQ1 := fun A1 σ w τ => ∀ (c : RS), Pv_named_J4 c A1 σ → Qv_named_J4 c A1 σ w τ
set_option maxRecDepth 100000 in
set_option maxHeartbeats 4000000 in
theorem v_named_J4 (c : RS) : UMet 64 (Pv_named_J4 c) (Qv_named_J4 c) := by sorry
theorem w_named_J4 : UMet 64 (fun _ _ => True) Qw_named_J4 := fun A1 σ _ w τ h c hP => v_named_J4 c A1 σ hP w τ h
def Pv_jumpJ4 (c : RS) : UP1 := fun A1 σ => match A1 with
  | [] => J4 c σ
  | _ => False
def Qv_jumpJ4 (c : RS) : UQ1 := fun A1 σ w τ => match A1 with
  | [] => (∃ r : Int32, w = some (.int r)) ∧ J4 c τ
  | _ => False
def Qw_jumpJ4 : UQ1 := fun A1 σ w τ => ∀ (c : RS), Pv_jumpJ4 c A1 σ → Qv_jumpJ4 c A1 σ w τ
set_option maxRecDepth 100000 in
set_option maxHeartbeats 4000000 in
theorem v_jumpJ4 (c : RS) : UMet 62 (Pv_jumpJ4 c) (Qv_jumpJ4 c) := by sorry
theorem w_jumpJ4 : UMet 62 (fun _ _ => True) Qw_jumpJ4 := fun A1 σ _ w τ h c hP => v_jumpJ4 c A1 σ hP w τ h
def Pv_plainJ4 (c : RS) : UP1 := fun A1 σ => match A1 with
  | [] => J4 c σ
  | _ => False
def Qv_plainJ4 (c : RS) : UQ1 := fun A1 σ w τ => match A1 with
  | [] => (∃ r : Int32, w = some (.int r)) ∧ J4 c τ
  | _ => False
def Qw_plainJ4 : UQ1 := fun A1 σ w τ => ∀ (c : RS), Pv_plainJ4 c A1 σ → Qv_plainJ4 c A1 σ w τ
set_option maxRecDepth 100000 in
set_option maxHeartbeats 4000000 in
theorem v_plainJ4 (c : RS) : UMet 50 (Pv_plainJ4 c) (Qv_plainJ4 c) := by sorry
theorem w_plainJ4 : UMet 50 (fun _ _ => True) Qw_plainJ4 := fun A1 σ _ w τ h c hP => v_plainJ4 c A1 σ hP w τ h
def Pv_switchOfJ4 (c : RS) : UP1 := fun A1 σ => match A1 with
  | [] => J4 c σ
  | _ => False
def Qv_switchOfJ4 (c : RS) : UQ1 := fun A1 σ w τ => match A1 with
  | [] => (∃ r : Int32, w = some (.int r)) ∧ J4 c τ
  | _ => False
def Qw_switchOfJ4 : UQ1 := fun A1 σ w τ => ∀ (c : RS), Pv_switchOfJ4 c A1 σ → Qv_switchOfJ4 c A1 σ w τ
set_option maxRecDepth 100000 in
set_option maxHeartbeats 4000000 in
theorem v_switchOfJ4 (c : RS) : UMet 58 (Pv_switchOfJ4 c) (Qv_switchOfJ4 c) := by sorry
theorem w_switchOfJ4 : UMet 58 (fun _ _ => True) Qw_switchOfJ4 := fun A1 σ _ w τ h c hP => v_switchOfJ4 c A1 σ hP w τ h
def Pv_tryOfJ4 (c : RS) : UP1 := fun A1 σ => match A1 with
  | [] => J4 c σ
  | _ => False
def Qv_tryOfJ4 (c : RS) : UQ1 := fun A1 σ w τ => match A1 with
  | [] => (∃ r : Int32, w = some (.int r)) ∧ J4 c τ
  | _ => False
def Qw_tryOfJ4 : UQ1 := fun A1 σ w τ => ∀ (c : RS), Pv_tryOfJ4 c A1 σ → Qv_tryOfJ4 c A1 σ w τ
set_option maxRecDepth 100000 in
set_option maxHeartbeats 4000000 in
theorem v_tryOfJ4 (c : RS) : UMet 66 (Pv_tryOfJ4 c) (Qv_tryOfJ4 c) := by sorry
theorem w_tryOfJ4 : UMet 66 (fun _ _ => True) Qw_tryOfJ4 := fun A1 σ _ w τ h c hP => v_tryOfJ4 c A1 σ hP w τ h
def Pv_whileOfJ4 (c : RS) : UP1 := fun A1 σ => match A1 with
  | [] => J4 c σ
  | _ => False
def Qv_whileOfJ4 (c : RS) : UQ1 := fun A1 σ w τ => match A1 with
  | [] => (∃ r : Int32, w = some (.int r)) ∧ J4 c τ
  | _ => False
def Qw_whileOfJ4 : UQ1 := fun A1 σ w τ => ∀ (c : RS), Pv_whileOfJ4 c A1 σ → Qv_whileOfJ4 c A1 σ w τ
set_option maxRecDepth 100000 in
set_option maxHeartbeats 4000000 in
theorem v_whileOfJ4 (c : RS) : UMet 54 (Pv_whileOfJ4 c) (Qv_whileOfJ4 c) := by sorry
theorem w_whileOfJ4 : UMet 54 (fun _ _ => True) Qw_whileOfJ4 := fun A1 σ _ w τ h c hP => v_whileOfJ4 c A1 σ hP w τ h
def Pv_statementJ4 (c : RS) : UP1 := fun A1 σ => match A1 with
  | [] => J4 c σ
  | _ => False
def Qv_statementJ4 (c : RS) : UQ1 := fun A1 σ w τ => match A1 with
  | [] => (∃ r : Int32, w = some (.int r)) ∧ J4 c τ
  | _ => False
def Qw_statementJ4 : UQ1 := fun A1 σ w τ => ∀ (c : RS), Pv_statementJ4 c A1 σ → Qv_statementJ4 c A1 σ w τ
set_option maxRecDepth 100000 in
set_option maxHeartbeats 4000000 in
theorem v_statementJ4 (c : RS) : UMet 49 (Pv_statementJ4 c) (Qv_statementJ4 c) := by sorry
theorem w_statementJ4 : UMet 49 (fun _ _ => True) Qw_statementJ4 := fun A1 σ _ w τ h c hP => v_statementJ4 c A1 σ hP w τ h
def Pv_scopeJ4 (c : RS) : UP1 := fun A1 σ => match A1 with
  | [] => J4 c σ
  | _ => False
def Qv_scopeJ4 (c : RS) : UQ1 := fun A1 σ w τ => match A1 with
  | [] => (∃ r : Int32, w = some (.int r)) ∧ J4 c τ
  | _ => False
def Qw_scopeJ4 : UQ1 := fun A1 σ w τ => ∀ (c : RS), Pv_scopeJ4 c A1 σ → Qv_scopeJ4 c A1 σ w τ
set_option maxRecDepth 100000 in
set_option maxHeartbeats 4000000 in
theorem v_scopeJ4 (c : RS) : UMet 41 (Pv_scopeJ4 c) (Qv_scopeJ4 c) := by sorry
theorem w_scopeJ4 : UMet 41 (fun _ _ => True) Qw_scopeJ4 := fun A1 σ _ w τ h c hP => v_scopeJ4 c A1 σ hP w τ h
def Pv_toldJ4 (c : RS) : UP1 := fun A1 σ => match A1 with
  | [] => J4 c σ
  | _ => False
def Qv_toldJ4 (c : RS) : UQ1 := fun A1 σ w τ => match A1 with
  | [] => (∃ r : Int32, w = some (.int r)) ∧ J4 c τ
  | _ => False
def Qw_toldJ4 : UQ1 := fun A1 σ w τ => ∀ (c : RS), Pv_toldJ4 c A1 σ → Qv_toldJ4 c A1 σ w τ
set_option maxRecDepth 100000 in
set_option maxHeartbeats 4000000 in
theorem v_toldJ4 (c : RS) : UMet 47 (Pv_toldJ4 c) (Qv_toldJ4 c) := by sorry
theorem w_toldJ4 : UMet 47 (fun _ _ => True) Qw_toldJ4 := fun A1 σ _ w τ h c hP => v_toldJ4 c A1 σ hP w τ h
def Pv_pieceJ4 (c : RS) : UP1 := fun A1 σ => match A1 with
  | [] => J4 c σ
  | _ => False
def Qv_pieceJ4 (c : RS) : UQ1 := fun A1 σ w τ => match A1 with
  | [] => (∃ r : Int32, w = some (.int r)) ∧ J4 c τ
  | _ => False
def Qw_pieceJ4 : UQ1 := fun A1 σ w τ => ∀ (c : RS), Pv_pieceJ4 c A1 σ → Qv_pieceJ4 c A1 σ w τ
set_option maxRecDepth 100000 in
set_option maxHeartbeats 4000000 in
theorem v_pieceJ4 (c : RS) : UMet 44 (Pv_pieceJ4 c) (Qv_pieceJ4 c) := by sorry
theorem w_pieceJ4 : UMet 44 (fun _ _ => True) Qw_pieceJ4 := fun A1 σ _ w τ h c hP => v_pieceJ4 c A1 σ hP w τ h
/-! where params of methods stand, method by method -/
theorem vl_in {σ : RS} : ∀ (n k : Nat), k < n → ((aI σ 43 k).toInt, (aI σ 44 k).toInt, (aI σ 45 k).toInt, (aI σ 46 k).toInt) ∈ vlR σ n := by sorry
theorem m0_of {c Y : RS} {t : ZS} (hJ : J4 c Y) (hM : MhR Y t.1) (hR : RpI t) : M0 c Y := by sorry
def Pv_variableQ4 (c : RS) (m : Int32) : UP1 := fun A1 σ => match A1 with
  | [.int a1, .int a2, .int a3] => QV c m σ 1
  | _ => False
def Qv_variableQ4 (c : RS) (m : Int32) : UQ1 := fun A1 σ w τ => match A1 with
  | [.int a1, .int a2, .int a3] => ∃ r : Int32, w = some (.int r) ∧ (¬ r = 0 → QV c m τ 0)
  | _ => False
def Qw_variableQ4 : UQ1 := fun A1 σ w τ => ∀ (c : RS) (m : Int32), Pv_variableQ4 c m A1 σ → Qv_variableQ4 c m A1 σ w τ
set_option maxRecDepth 100000 in
set_option maxHeartbeats 4000000 in
theorem v_variableQ4 (c : RS) (m : Int32) : UMet 40 (Pv_variableQ4 c m) (Qv_variableQ4 c m) := by sorry
theorem w_variableQ4 : UMet 40 (fun _ _ => True) Qw_variableQ4 := fun A1 σ _ w τ h c m hP => v_variableQ4 c m A1 σ hP w τ h
def Pv_paramQ4 (c : RS) : UP1 := fun A1 σ => match A1 with
  | [.int m, .int k] => QV c m σ 0
  | _ => False
def Qv_paramQ4 (c : RS) : UQ1 := fun A1 σ w τ => match A1 with
  | [.int m, .int k] => ∃ r : Int32, w = some (.int r) ∧ (¬ r = 0 → QV c m τ 0)
  | _ => False
def Qw_paramQ4 : UQ1 := fun A1 σ w τ => ∀ (c : RS), Pv_paramQ4 c A1 σ → Qv_paramQ4 c A1 σ w τ
set_option maxRecDepth 100000 in
set_option maxHeartbeats 4000000 in
theorem v_paramQ4 (c : RS) : UMet 39 (Pv_paramQ4 c) (Qv_paramQ4 c) := by sorry
theorem w_paramQ4 : UMet 39 (fun _ _ => True) Qw_paramQ4 := fun A1 σ _ w τ h c hP => v_paramQ4 c A1 σ hP w τ h
def Pv_methodQ4 (c : RS) : UP1 := fun A1 σ => match A1 with
  | [] => M0 c σ
  | _ => False
def Qv_methodQ4 (c : RS) : UQ1 := fun A1 σ w τ => match A1 with
  | [] => ∃ r : Int32, w = some (.int r) ∧ (¬ r = 0 → J4 c τ)
  | _ => False
def Qw_methodQ4 : UQ1 := fun A1 σ w τ => ∀ (c : RS), Pv_methodQ4 c A1 σ → Qv_methodQ4 c A1 σ w τ
set_option maxRecDepth 100000 in
set_option maxHeartbeats 4000000 in
theorem v_methodQ4 (c : RS) : UMet 38 (Pv_methodQ4 c) (Qv_methodQ4 c) := by sorry
theorem w_methodQ4 : UMet 38 (fun _ _ => True) Qw_methodQ4 := fun A1 σ _ w τ h c hP => v_methodQ4 c A1 σ hP w τ h
def Qw_methodB4 : UQ1 := fun A1 σ w τ => Qw_methodZ A1 σ w τ ∧ Qw_methodQ4 A1 σ w τ
theorem w_methodB4 : UMet 38 (fun _ _ => True) Qw_methodB4 := by sorry
def Pv_parseQ4 (N : Int → Int) (z : ZS) : UP1 := fun A1 σ => match A1 with
  | [] => (ShR (sI (sI σ 14 0) 15 0) z.1 ∧ Z0Y z.1 ∧ z.2.1 = [] ∧ tnM z = 0 ∧ TlZ σ z.1 ∧ NmZ N σ) ∧ RpI z
  | _ => False
def Qv_parseQ4 (N : Int → Int) (z : ZS) : UQ1 := fun A1 σ w τ => match A1 with
  | [] => ∃ r : Int32, w = some (.int r) ∧ (¬ r = 0 → J4 σ τ)
  | _ => False
def Qw_parseQ4 : UQ1 := fun A1 σ w τ => ∀ (N : Int → Int) (z : ZS), Pv_parseQ4 N z A1 σ → Qv_parseQ4 N z A1 σ w τ
set_option maxRecDepth 100000 in
set_option maxHeartbeats 4000000 in
theorem v_parseQ4 (N : Int → Int) (z : ZS) : UMet 37 (Pv_parseQ4 N z) (Qv_parseQ4 N z) := by sorry
theorem w_parseQ4 : UMet 37 (fun _ _ => True) Qw_parseQ4 := fun A1 σ _ w τ h N z hP => v_parseQ4 N z A1 σ hP w τ h
/-! what reading leaves behind of tokens and methods; literals -/
theorem J4.v4 {c σ : RS} (h : J4 c σ) : V4R σ := by sorry
theorem J4.h4 {c σ : RS} (h : J4 c σ) : (gI σ 18).toInt ≤ 4000 := h.2.2.2
theorem WsT.fr {N : Int → Int} {c Y : RS} {s t : SpC} (h : WsT N c s) (f : FrP c Y) (e : zK t = zK s) : WsT N Y t := by sorry
theorem WoK.fr {N : Int → Int} {c Y : RS} {Ko Ki : Int} (h : WoK N c Ko Ki) (f : FrP c Y) : WoK N Y Ko Ki := by sorry
theorem lit_nb {v sg lk : Int} (h0 : 0 ≤ v) (h1 : v < 10000000000000000000) (hs : sg = 81 ∨ sg = 82) : nbT (Int64.ofInt v) (gtT sg) lk ↔ (grY (if sg = 82 then 76 else 0) v = 2 ∨ (grY (if sg = 82 then 76 else 0) v = 1 ∧ ¬ lk = 1)) := by sorry
theorem ch_nr : ∀ k : Fin 127, nrT 2 (Int64.ofInt (k.val : Int)) = Int64.ofInt (k.val : Int) := by sorry
section
variable {N : Int → Int} {σ : RS} {z : ZS} {C : CxT} {x : XrZ} {l : List ItZ}
/-- a literal's token -/
theorem lit_tk (R : RdW N σ z) (hx : RpX (zK z.1) (zAt z.1) x) (k : x.1.1 ≤ 1) : (0 ≤ x.2.1.1 ∧ x.2.1.1.toNat < nT (gI σ 2) ∧ x.2.1.1.toNat ≤ 500) := by sorry
theorem t0_at {xs : Nat → XrZ} {i : Nat} (h : xs i = x) : (t0T N xs).1 i = (tyX x, coX x, Int64.ofInt (vaX N x), if x.1.1 = 10 then -1 else 0) := by sorry
theorem lit_of (R : RdW N σ z) (W : WsT N σ z.1) (hc : C.1 = N) (hx : (.inl x :: l) <:+ z.2.1) (hp : RpX (zK z.1) (zAt z.1) x) (k : x.1.1 ≤ 1) {Y : RS} {c : Int32} (hY : JfR (sI σ 68 1) Y) (hl : c.toInt = (l.length : Int)) :
    (((aI Y 3 (aI Y 22 c.toNatClampNeg).toNatClampNeg = 2 ∧ (aI Y 11 (aI Y 22 c.toNatClampNeg).toNatClampNeg = 2 ∨ (aI Y 11 (aI Y 22 c.toNatClampNeg).toNatClampNeg = 1 ∧ aI Y 21 c.toNatClampNeg = 0))) ↔ exT C (t0T C.1 (xgZ z.2.1)) (xcZ l) x = none) ∧ ∀ e, exT C (t0T C.1 (xgZ z.2.1)) (xcZ l) x = some e → (aI Y 20 c.toNatClampNeg).toInt = e.1 ∧ ¬ e.2.1 = 0 ∧ e.2.2.1 = (if aI Y 3 (aI Y 22 c.toNatClampNeg).toNatClampNeg = 4 then (if aI Y 6 (aI Y 22 c.toNatClampNeg).toNatClampNeg = 22 then 1 else 0) else if aI Y 20 c.toNatClampNeg = 3 then (aL Y 9 (aI Y 22 c.toNatClampNeg).toNatClampNeg).toInt32.toInt64 else aL Y 9 (aI Y 22 c.toNatClampNeg).toNatClampNeg)) := by sorry
/-- a literal's value is of its TYPE -/
theorem vt_1 (R : RdW N σ z) (W : WsT N σ z.1) (hx : (.inl x :: l) <:+ z.2.1) (hp : RpX (zK z.1) (zAt z.1) x) (k : x.1.1 = 1) : VaT ((t0T N (xgZ z.2.1)).1 (xcZ l)) := by sorry
end
/-! what judging asks of one exp, whole -/
section
variable {N : Int → Int} {σ : RS} {z : ZS} {Ko Ki : Int} {x : XrZ} {l : List ItZ}
theorem tk_22 (R : RdW N σ z) (hx : (.inl x :: l) <:+ z.2.1) (k : x.1.1 ≤ 2 ∨ x.1.1 = 6 ∨ x.1.1 = 9 ∨ x.1.1 = 10 ∨ x.1.1 = 14) {Y : RS} {c : Int32} (hY : JfR (sI σ 68 1) Y) (hl : c.toInt = (l.length : Int)) : (aI Y 22 c.toNatClampNeg).toInt = x.2.1.1 := by sorry
theorem xtx_of (R : RdW N σ z) (V : V4R σ) (W : WsT N σ z.1) (O : WoK N σ Ko Ki) (A : AkI z) (P : RpI z) (hn : ∀ k, k < nT (gI σ 36) → m1T (msM N Ko Ki z.1) k 12) (hx : (.inl x :: l) <:+ z.2.1) (h0 : 0 ≤ x.1.1) (k : x.1.1 ≤ 14) : XtxR (sI σ 68 1) (CxM N z.1 (msM N Ko Ki z.1)) (t0T N (xgZ z.2.1)) l x := by sorry
end
/-! shapes of codes, S by S -/
def YcP (y : Int × Int × Int × Int × Int) (u : List ItZ) : Prop := (19 ≤ y.1 ∧ ((tkO y → 0 ≤ y.2.2.2.2) ∧ (¬ tkO y → y.2.2.2.2 < 0))) ∧ (y.1 = 38 → 0 ≤ swZ y.2.1 u) ∧ (y.1 = 42 → lbZ u ≠ [])
def CoR (l m : List ItZ) : Prop := (lbZ m = lbZ l ∧ mdZ m = mdZ l ∧ ∀ k, 0 ≤ swZ k l → 0 ≤ swZ k m) ∧ ∀ y u, (.inr y :: u) <:+ m → (.inr y :: u) <:+ l ∨ (YcP y u ∧ mdZ u = mdZ l)
section
variable {l m n : List ItZ} {o a b t v : Int} {y : Int × Int × Int × Int × Int}
theorem CoR.rf : CoR l l := ⟨⟨rfl, rfl, fun _ h => h⟩, fun _ _ h => Or.inl h⟩
theorem CoR.tr (h : CoR l m) (g : CoR m n) : CoR l n := by sorry
theorem CoR.xs (h : XsR l m) : CoR l m := by sorry
theorem CoR.x {lv : Int} {r : XrZ} (h : ExX lv l m r) : CoR l m := CoR.xs h.xs
/-- one code more -/
theorem CoR.cc (h : YcP y l) (h1 : ¬ y.1 = 54 ∧ ¬ y.1 = 41 ∧ ¬ y.1 = 42) (h2 : y.1 = 37 → 0 ≤ y.2.2.2.2) : CoR l (.inr y :: l) := by sorry
theorem tk_no (h : ¬ o = 21 ∧ ¬ o = 23 ∧ ¬ o = 27 ∧ ¬ o = 31 ∧ ¬ (o = 33 ∧ ¬ b = 0) ∧ ¬ o = 37 ∧ ¬ o = 38 ∧ ¬ (o = 48 ∧ ¬ a = 0) ∧ ¬ o = 49) : ¬ tkO (o, a, b, t, v) := by sorry
theorem CoR.cN (hv : v < 0) (h : (¬ o = 21 ∧ ¬ o = 23 ∧ ¬ o = 27 ∧ ¬ o = 31 ∧ ¬ (o = 33 ∧ ¬ b = 0) ∧ ¬ o = 37 ∧ ¬ o = 38 ∧ ¬ (o = 48 ∧ ¬ a = 0) ∧ ¬ o = 49) ∧ 19 ≤ o ∧ ¬ o = 54 ∧ ¬ o = 41 ∧ ¬ o = 42) : CoR l (.inr (o, a, b, t, v) :: l) := by sorry
theorem CoR.cI (h : (¬ o = 21 ∧ ¬ o = 23 ∧ ¬ o = 27 ∧ ¬ o = 31 ∧ ¬ (o = 33 ∧ ¬ b = 0) ∧ ¬ o = 37 ∧ ¬ o = 38 ∧ ¬ (o = 48 ∧ ¬ a = 0) ∧ ¬ o = 49) ∧ 19 ≤ o ∧ ¬ o = 54 ∧ ¬ o = 41 ∧ ¬ o = 42) : CoR l (cIy o a b t :: l) := CoR.cN (by decide) h
theorem CoR.cE (hx : 1 ≤ xcZ l) (h : o = 21 ∨ o = 23 ∨ o = 27 ∨ o = 31 ∨ (o = 33 ∧ ¬ b = 0) ∨ o = 37 ∨ o = 38 ∨ (o = 48 ∧ ¬ a = 0) ∨ o = 49) (h2 : o = 38 → 0 ≤ swZ a l) : CoR l (cEy o a b t l :: l) := by sorry
/-- a label and what stands behind it -/
theorem CoR.la (g : CoR (cIy 41 a b t :: l) m) {a' b' t' : Int} : CoR l (cIy 42 a' b' t' :: m) := by sorry
end
section
variable {N : Int → Int} {M : Int} {z : ZS} {St : SsT} {Rw : RsT} {lv : Int}
theorem cor_va {j k : Nat} {h : Int × Int × Int × Int} {l m : List ItZ} (v : VaD z j h (k : Int) l m) : CoR l m := by sorry
theorem cor_fx {a : Int} : ∀ {L : List Nat} {p q : Ps}, FxD z lv a L p q → CoR p.2.2 q.2.2 := by sorry
theorem cor_fi {j : Nat} {o : Int} {p q : Ps} (h : FiD z lv j o p q) : CoR p.2.2 q.2.2 := by sorry
theorem cor_fc {k : Nat} {t x : Int} {l m : List ItZ} (h : FcD lv k t x l m) : CoR l m := by sorry
theorem cor_row {sw : Int} {k : Nat} {a : Int} (hS : ∀ a p q, St a p q → CoR p.2.2 q.2.2) : ∀ {L : List Nat} {p q : Ps}, (sw = 1 → 0 ≤ swZ k p.2.2) → RwD St z lv sw k a L p q → CoR p.2.2 q.2.2 := by sorry
theorem cor_bk {lv' : Int} {a : Int} (hR : ∀ k a L p q, Rw 0 k a L p q → CoR p.2.2 q.2.2) {p q : Ps} (h : BkD Rw z lv' a p q) : CoR p.2.2 q.2.2 := by sorry
theorem cor_st : ∀ n a p q, StD N M z n a p q → CoR p.2.2 q.2.2 := by sorry
theorem cor_pr : ∀ (L : List Nat) (M : Nat) (p q : Ps), PrD N z L M p q → mdZ p.2.2 = M → lbZ p.2.2 = [] → lbZ q.2.2 = [] ∧ ∀ y u, (.inr y :: u) <:+ q.2.2 → (.inr y :: u) <:+ p.2.2 ∨ (YcP y u ∧ mdZ u < M + L.length) := by sorry
theorem cor_all {L : List Nat} (h : PrD N z L 0 (0, 0, []) (psM z)) : lbZ z.2.1 = [] ∧ ∀ y u, (.inr y :: u) <:+ z.2.1 → YcP y u ∧ mdZ u < L.length := by sorry
end
/-! declarations name variables that are told -/
def DvI (z : ZS) : Prop := ∀ y, .inr y ∈ z.2.1 → y.1 = 22 → (y.2.2.1 = 0 ∨ y.2.2.1 = 2) ∧ 0 ≤ y.2.1 ∧ y.2.1 < (vnW z : Int)
def DvW (z0 z : ZS) : Prop := GpY z0.1 z.1 ∧ (zFt z.1 = 0 → 0 ≤ zAt z0.1 → zAt z0.1 ≤ 500 → DvI z0 → DvI z)
section
variable {N : Int → Int} {z0 z z' : ZS} {a b c : ZS} {j n k : Nat}
theorem DvW.rf : DvW z z := ⟨GpY.rf, fun _ _ _ h => h⟩
theorem DvW.tr (h : DvW a b) (g : DvW b c) : DvW a c := by sorry
theorem DvW.mv (g : GpY z.1 z'.1) (e : ∀ y, .inr y ∈ z'.2.1 → y.1 = 22 → .inr y ∈ z.2.1) (ev : vnW z ≤ vnW z') : DvW z z' := by sorry
theorem vn_e (e : z'.1.2 = z.1.2) : vnW z' = vnW z := by sorry
theorem DvW.s {s' : SpC} (g : GpY z.1 s') (e2 : s'.2 = z.1.2) : DvW z (s', z.2) := by sorry
theorem DvW.it {y : Int × Int × Int × Int × Int} (h : ¬ y.1 = 22) : DvW z (z.1, .inr y :: z.2.1, z.2.2) := by sorry
theorem DvW.dc {ty f h : Int} : DvW z (dcM N ty f h z) := by sorry
theorem DvW.ee : DvW z (eM N n z) := by sorry
theorem DvW.se {f : SrZ → SrZ} : DvW z (seM j f z) := DvW.mv GpY.rf (fun _ h _ => h) (Nat.le_refl _)
theorem DvW.pu {x : XrZ} : DvW z (puM x z) := by sorry
theorem DvW.va1 {f ty : Int} : DvW z (va1M N j n f ty z) := by sorry
theorem DvW.lb : DvW z (laB n z) := by sorry
theorem DvW.ju {c : Int} (hc : c = 64 ∨ c = 65) : DvW z (juM N c n z) := by sorry
theorem DvW.pad {ty : Int} : DvW z (padY ty z.1, z.2) := DvW.mv (gd_pad _) (fun _ h _ => h) (Nat.le_refl _)
theorem DvW.me {ty : Int} : DvW z (accM (me0M ty z)) := by sorry
end
theorem dv_w {N : Int → Int} : WkC N DvW := by sorry
theorem dv_all {N : Int → Int} {f : Nat} {s : SpC} (h : zFt (prM N f (z0S s)).1 = 0) (hs : Z0Y s) : DvI (prM N f (z0S s)) := by sorry
/-! what judging asks of one code of an S, whole; all that judging asks -/
section
variable {N : Int → Int} {σ : RS} {z : ZS} {Ko Ki : Int} {l : List ItZ} {y : Int × Int × Int × Int × Int} {L : List Nat}
theorem lb_in : ∀ {l : List ItZ} {p : Int × Int}, p ∈ lbZ l → ∃ w u, (.inr w :: u) <:+ l ∧ w.1 = 41 ∧ p = (w.2.1, w.2.2.2.1) := by sorry
/-- a token that a code names -/
theorem ck_y (A : AkI z) (hy : (.inr y :: l) <:+ z.2.1) (k : y.1 = 41 ∨ y.1 = 46 ∨ y.1 = 47) : 0 ≤ y.2.2.2.1 ∧ y.2.2.2.1 < zAt z.1 := by sorry
theorem ytx_of (R : RdW N σ z) (A : AkI z) (D : DvI z) (P : PrD N z L 0 (0, 0, []) (psM z)) (hL : L.length = (zMs z.1).length) (hy : (.inr y :: l) <:+ z.2.1) : YtxR (fun t => (aI σ 3 t).toInt) (sI σ 68 1) (CxM N z.1 (msM N Ko Ki z.1)) N (tnM z) l y := by sorry
end
/-! a program that was read, in the reference: all that judging asks -/
def CxR (N : Int → Int) (z : ZS) : CxT := CxM N z.1 (msM N koY kiY z.1)
def RdA (N : Int → Int) (σ : RS) (s : SpC) (z : ZS) : Prop := (Z0Y s ∧ z = prM N 11 (z0S s) ∧ zFt z.1 = 0) ∧ RdW N σ z ∧ (V4R σ ∧ (gI σ 18).toInt ≤ 4000) ∧ (WsT N σ z.1 ∧ WoK N σ koY kiY)
theorem pq_59 {k : Int} : ∀ l : List ItZ, pqZ 59 k l = -2 := by sorry
section
variable {N : Int → Int} {σ : RS} {s : SpC} {z : ZS}
theorem RdA.pd (h : RdA N σ s z) : ∃ L : List Nat, L.length = (zMs z.1).length ∧ (∀ (q : (Nat → Nat) × (Nat → Nat)) (i j : Nat), L[i]? = some j → (jfM N 11 (z0S s) q).1 i = j) ∧ PrD N z L 0 (0, 0, []) (psM z) := by sorry
theorem RdA.ak (h : RdA N σ s z) : AkI z := by sorry
theorem RdA.iv (h : RdA N σ s z) : IvI z := by sorry
theorem RdA.rp (h : RdA N σ s z) : RpI z := by sorry
theorem RdA.dv (h : RdA N σ s z) : DvI z := by sorry
theorem RdA.sk (h : RdA N σ s z) : SkP z.2.1 [] := by sorry
theorem RdA.tm (h : RdA N σ s z) : TmI z.1 := by sorry
theorem RdA.kx (h : RdA N σ s z) {i : Nat} (hi : i < xnM z) : 0 ≤ (xth z i).1.1 ∧ (xth z i).1.1 ≤ 15 := by sorry
theorem RdA.k0 (h : RdA N σ s z) {x : XrZ} {l : List ItZ} (hx : (.inl x :: l) <:+ z.2.1) : 0 ≤ x.1.1 ∧ x.1.1 ≤ 15 := by sorry
theorem RdA.nm (h : RdA N σ s z) : nT (gI σ 36) = (zMs z.1).length := by sorry
theorem stj_of (h : RdA N σ s z) (h91 : gI σ 91 = 0) : StJ (fun t => (aI σ 3 t).toInt) σ (CxR N z) N (t0T (CxR N z).1 (xgZ z.2.1)) z.2.1 (tnM z) (nT (gI σ 36)) (vnW z) (fun v => clW z v = 1) := by sorry
/-- all that is asked ahead of flow -/
theorem RdA.rg (h : RdA N σ s z) : RgI z.2.1 := by sorry
end
/-! a program that was read and judged, in the reference -/
abbrev V1R (σ : RS) : Nat → Int := fun M => (aI σ 40 M).toInt
abbrev kdR (σ : RS) : Nat → Int := fun t => (aI σ 3 t).toInt
abbrev bmR (σ : RS) (z : ZS) : Nat → Int := fun q => (vnR σ (mtfR (sA σ 80 (clrR σ (gI σ 2).toInt.toNat)) (nT (gI σ 36))) (vnW z) q).toInt
/-- nothing is told of the program -/
def OkW (N : Int → Int) (z : ZS) (V1 : Nat → Int) (L : List Nat) (T : TbT) : Prop := ((∀ k, k < (zMs z.1).length → m1T (msM N koY kiY z.1) k 12) ∧ ∀ v, v < vnW z → ¬ clW z v = 1) ∧ tbT (CxR N z) (fun i => xth z i) (xnM z) = some T ∧ (∀ y l, (.inr y :: l) <:+ z.2.1 → okS (CxR N z) N T l y) ∧ FlO N z T (msM N koY kiY z.1) V1 (2 * snM z) L 0
/-- what stands where nothing is told -/
def JgS (N : Int → Int) (σ τ : RS) (z : ZS) (L : List Nat) (T : TbT) (σ1 : RS) : Prop := JR (bmR σ z) (kdR σ) (sI σ 68 1) σ1 (CxR N z) (tnM z) z.2.1 T [] ∧ FfR σ1 τ ∧ LgF z 0 (snM z) (fl0 σ1) τ (FlG N z T (msM N koY kiY z.1) (V1R σ) (2 * snM z) L 0)
theorem ff_flt {σ0 : RS} : ∀ (n : Nat) (Y : RS) (c m : Int32), FlT σ0 n Y c m → FfR σ0 Y := by sorry
theorem xg_ex : ∀ {L : List ItZ} {i : Nat}, i < xcZ L → ∃ x l, (.inl x :: l) <:+ L ∧ xcZ l = i ∧ xgZ L i = x := by sorry
section
variable {N : Int → Int} {σ τ : RS} {s : SpC} {z : ZS} {L : List Nat}
theorem RdA.sg (h : RdA N σ s z) {i : Nat} (hi : i < xnM z) : SgX (xth z i) := by sorry
theorem RdA.va (h : RdA N σ s z) {i : Nat} (hi : i < xnM z) (k : (xth z i).1.1 = 1) : VaT ((t0T N (fun i => xth z i)).1 i) := by sorry
/-- judged: with an ERROR, or without one and all as it is told -/
theorem rj_of (h : RdA N σ s z) (h91 : gI σ 91 = 0) (ev : EvM 82 [] σ none τ) (hL : L.length = (zMs z.1).length) (P : PrD N z L 0 (0, 0, []) (psM z)) : (¬ gI τ 66 = 0 ∧ ∀ T, ¬ OkW N z (V1R σ) L T) ∨ (gI τ 66 = 0 ∧ ∃ T σ1, OkW N z (V1R σ) L T ∧ JgS N σ τ z L T σ1) := by sorry
end
/-! a text is cut and read, in the reference: all that is known of it -/
theorem rda_of {N : Int → Int} {ρ T U : RS} {x : TxY} {s : SpC} {n : Nat} {b : Int32} (hok : okY x) (hx : (gI ρ 1).toInt = x.2 ∧ ∀ j, (aI ρ 0 j).toInt = x.1 j) (hZ : Z0Y s) (hT : TkS x s n) (hN : NwN N x n) (e1 : EvM 6 [] ρ none T) (hS : ShR (sI (sI T 14 0) 15 0) s) (e2 : EvM 37 [] T (some (.int b)) U) : (b = 0 ∧ FlR U (prlY 11 s)) ∨ (b = 1 ∧ RdA N U s (prM N 11 (z0S s)) ∧ FrP T U) := by sorry
/-- fields that other calls leave alone -/
def F9 (σ τ : RS) : Prop := (∀ k, k < 118 → ¬ k = 1 → ¬ k = 68 → gI τ k = gI σ k) ∧ (∀ k, k < 118 → ¬ k = 0 → aI τ k = aI σ k) ∧ ∀ k, k < 118 → aL τ k = aL σ k
theorem F9.rf {σ : RS} : F9 σ σ := ⟨fun _ _ _ _ => rfl, fun _ _ _ => rfl, fun _ _ => rfl⟩
theorem F9.tr {σ τ υ : RS} (h : F9 σ τ) (g : F9 τ υ) : F9 σ υ := by sorry
section
variable {N : Int → Int} {σ τ : RS} {s : SpC} {z : ZS}
theorem F9.I (h : F9 σ τ) {k : Nat} (a : k < 118 ∧ ¬ k = 1 ∧ ¬ k = 68) : gI τ k = gI σ k := h.1 k a.1 a.2.1 a.2.2
theorem F9.A (h : F9 σ τ) {k : Nat} (a : k < 118 ∧ ¬ k = 0) : aI τ k = aI σ k := h.2.1 k a.1 a.2
theorem F9.l7 (h : F9 σ τ) : aL τ 7 = aL σ 7 := h.2.2 7 (by decide)
theorem MhR.f9 (h : MhR σ z.1) (f : F9 σ τ) : MhR τ z.1 := by sorry
theorem MZ.f9 (h : MZ N σ z) (f : F9 σ τ) : MZ N τ z := by sorry
/-- what is known of it stands where these fields do -/
theorem RdA.f9 (h : RdA N σ s z) (f : F9 σ τ) : RdA N τ s z := by sorry
end
/-! ranges of exps are apart -/
def RgT (lo hi : Int) (t : List XrZ) : Prop := (∀ x ∈ t, x.1.1 ≤ 10 → lo ≤ x.1.2.2.1 ∧ x.1.2.2.1 ≤ x.1.2.2.2 ∧ x.1.2.2.2 < hi) ∧ t.Pairwise (fun x y => x.1.1 ≤ 10 → y.1.1 ≤ 10 → ¬ (x.1.2.2.1 = y.1.2.2.1 ∧ x.1.2.2.2 = y.1.2.2.2))
section
variable {lo mid hi : Int} {t u : List XrZ} {x : XrZ}
theorem RgT.nil : RgT lo hi [] := ⟨fun _ h => absurd h List.not_mem_nil, List.Pairwise.nil⟩
theorem RgT.wd {lo' hi' : Int} (h : RgT lo hi t) (h1 : lo' ≤ lo) (h2 : hi ≤ hi') : RgT lo' hi' t := ⟨fun x a b => by have := h.1 x a b; omega, h.2⟩
theorem RgT.ap (h : RgT lo mid t) (g : RgT mid hi u) (h1 : lo ≤ mid) (h2 : mid ≤ hi) : RgT lo hi (u ++ t) := by sorry
theorem RgT.pu (h : RgT lo hi t) (hx : x.1.1 ≤ 10 → (lo ≤ x.1.2.2.1 ∧ x.1.2.2.1 ≤ x.1.2.2.2 ∧ x.1.2.2.2 < hi) ∧ ∀ y ∈ t, y.1.1 ≤ 10 → ¬ (x.1.2.2.1 = y.1.2.2.1 ∧ x.1.2.2.2 = y.1.2.2.2)) : RgT lo hi (x :: t) := by sorry
end
/-- from z to z' an exp is read, or a piece of one -/
def EgW (z z' : ZS) : Prop := (zAt z.1 ≤ zAt z'.1 ∧ GpY z.1 z'.1) ∧ (zFt z'.1 = 0 → ∃ t : List XrZ, z'.2.1 = t.map Sum.inl ++ z.2.1 ∧ RgT (zAt z.1) (zAt z'.1) t)
abbrev EgM (f : ZS → ZS) : Prop := ∀ z, EgW z (f z) ∧ (zFt (f z).1 = 0 → zAt z.1 < zAt (f z).1)
section
variable {z z1 z2 : ZS} {x : XrZ} {N : Int → Int}
theorem EgW.rf : EgW z z := ⟨⟨Int.le_refl _, GpY.rf⟩, fun _ => ⟨[], rfl, RgT.nil⟩⟩
theorem EgW.tr (h : EgW z z1) (g : EgW z1 z2) : EgW z z2 := by sorry
theorem EgW.m {s' : SpC} (l : zAt z.1 ≤ zAt s') (g : GpY z.1 s') : EgW z (s', z.2) := ⟨⟨l, g⟩, fun _ => ⟨[], rfl, RgT.nil⟩⟩
theorem EgW.ac : EgW z (accM z) := EgW.m mv_acc.2 (gd_acc _)
theorem EgW.xp {c : Int} : EgW z (xpM c z) := EgW.m mv_xp.2 (gd_xp _)
theorem EgW.ra {c : Int} : EgW z (raiM c z) := EgW.m mv_rai.2 (gd_rai _)
theorem EgW.ty : EgW z (typM z) := EgW.m mv_typ.2 (gd_typ _)
/-- a mark -/
theorem EgW.pm (h : EgW z z1) (k : ¬ x.1.1 ≤ 10) : EgW z (puM x z1) := by sorry
/-- a record around what was read from a later place on: its first token is none of theirs -/
theorem EgW.pf (h : EgW z z1) (g : EgW z1 z2) (k1 : x.1.2.2.1 = zAt z.1) (e0 : ∃ t : List XrZ, z1.2.1 = t.map Sum.inl ++ z.2.1 ∧ ∀ y ∈ t, ¬ y.1.1 ≤ 10) (hl : zFt z2.1 = 0 → zAt z.1 < zAt z1.1) (kl : zFt z2.1 = 0 → x.1.2.2.1 ≤ x.1.2.2.2 ∧ x.1.2.2.2 < zAt z2.1) : EgW z (puM x z2) := by sorry
theorem no_mk : ∃ t : List XrZ, z.2.1 = t.map Sum.inl ++ z.2.1 ∧ ∀ y ∈ t, ¬ y.1.1 ≤ 10 := ⟨[], rfl, fun _ h => absurd h List.not_mem_nil⟩
theorem EgW.lf (h : EgW z z1) (e0 : z1.2.1 = z.2.1) (k1 : x.1.2.2.1 = zAt z.1) (kl : zFt z1.1 = 0 → x.1.2.2.1 ≤ x.1.2.2.2 ∧ x.1.2.2.2 < zAt z1.1) : EgW z (puM x z1) := by sorry
/-- firsts of operators that wait go down to lo -/
def WdQ (lo : Int) : WtZ → Int → Prop
  | [], f => f = lo
  | w :: W, f => w.2.1 < f ∧ WdQ lo W w.2.1
theorem WdQ.le {lo : Int} : ∀ {W : WtZ} {f : Int}, WdQ lo W f → lo ≤ f := by sorry
/-- in the midst of a chain that began at lo: base, what is laid -/
def ChI (lo : Int) (B : List ItZ) (W : WtZ) (r : Int × Int) (z : ZS) : Prop := ∃ t : List XrZ, z.2.1 = t.map Sum.inl ++ B ∧ RgT lo (zAt z.1) t ∧ (∀ x ∈ t, x.1.1 ≤ 10 → x.1.2.2.2 = zAt z.1 - 1 → r.1 ≤ x.1.2.2.1) ∧ WdQ lo W r.1 ∧ r.1 < zAt z.1
theorem ch_cl {lo : Int} {B : List ItZ} {p : Int} : ∀ (W : WtZ) (r : Int × Int) (z : ZS), ChI lo B W r z → ChI lo B (cswZ p W) (csrZ p W r) (clM p W z) := by sorry
theorem csw_00 : ∀ {W : WtZ}, cswZ 0 W = [] := by sorry
theorem fk_1 : (fkM z).1 = z.1 := by sorry
theorem ch_chl {O : ZS → ZS} (hO : EgM O) {lo : Int} {B : List ItZ} : ∀ (f : Nat) (W : WtZ) (r : Int × Int) (z : ZS), ((zAt z.1 ≤ zAt (chlM O f W r z).1 ∧ GpY z.1 (chlM O f W r z).1) ∧ (zFt (chlM O f W r z).1 = 0 → ChI lo B W r z → ∃ q : Int × Int, ChI lo B [] q (chlM O f W r z))) := by sorry
def EgS (z z' : ZS) : Prop := EgW z z' ∧ (zFt z'.1 = 0 → zAt z.1 < zAt z'.1)
theorem EgS.mk (w : EgW z z1) (l : zAt (accY z.1) ≤ zAt z1.1) (g : GpY (accY z.1) z1.1) : EgS z z1 := ⟨w, fun f => by
  have := ac_lt (g.z f)
  omega⟩
theorem eg_chc {O E C : ZS → ZS} (hO : EgM O) (hE : EgM E) (hC : EgM C) : EgM (chcM O E C) := by sorry
theorem eg_xps {O E C : ZS → ZS} (hO : EgM O) (hE : EgM E) (hC : EgM C) : EgM (xpsM N O E C) := by sorry
/-- a call's arguments: where its end is read -/
theorem eg_clp {E : ZS → ZS} (hE : EgM E) {r : Int × Int} : ∀ (f : Nat) (l : List Int) (z : ZS), ∃ (l' : List Int) (zc : ZS), clpM E r f l z = puM (calZ r.1 r.2 l' zc.1) (xpM 1 zc) ∧ EgW z zc := by sorry
theorem eg_opr {m : Nat} {E : ZS → ZS} {J : Int → ZS → ZS} (hE : EgM E) (hJ : ∀ g, EgM (J g)) (g : Int) : EgM (oprM N m E J g) := by sorry
theorem eg_lv : ∀ n, EgM (eM N n) ∧ EgM (cM N n) ∧ ∀ g, EgM (oM N n g) := by sorry
end
/-! ranges of exps are apart, in all that is read -/
def EaI (z : ZS) : Prop := ∀ x l, (.inl x :: l) <:+ z.2.1 → x.1.1 ≤ 10 → (x.1.2.2.2 < zAt z.1 ∧ x.1.2.2.1 ≤ x.1.2.2.2) ∧ ∀ y, .inl y ∈ l → y.1.1 ≤ 10 → ¬ (x.1.2.2.1 = y.1.2.2.1 ∧ x.1.2.2.2 = y.1.2.2.2)
def EaW (z0 z : ZS) : Prop := GpY z0.1 z.1 ∧ (zFt z.1 = 0 → 0 ≤ zAt z0.1 → zAt z0.1 ≤ 500 → EaI z0 → EaI z)
theorem sf_nu {x : XrZ} {l L : List ItZ} (k : x.1.1 ≤ 10) : ∀ {u : List ItZ}, (∀ w ∈ u, ∀ y, w = .inl y → ¬ y.1.1 ≤ 10) → (.inl x :: l) <:+ (u ++ L) → (.inl x :: l) <:+ L := by sorry
section
variable {N : Int → Int} {z0 z z' : ZS} {a b c : ZS} {j n k : Nat}
theorem EaW.rf : EaW z z := ⟨GpY.rf, fun _ _ _ h => h⟩
theorem EaW.tr (h : EaW a b) (g : EaW b c) : EaW a c := by sorry
theorem EaW.mv (g : GpY z.1 z'.1) (u : List ItZ) (e : z'.2.1 = u ++ z.2.1) (hu : ∀ w ∈ u, ∀ y, w = .inl y → ¬ y.1.1 ≤ 10) : EaW z z' := by sorry
theorem no_u : ∀ w ∈ ([] : List ItZ), ∀ y, w = .inl y → ¬ y.1.1 ≤ 10 := fun _ h => absurd h List.not_mem_nil
theorem EaW.s {s' : SpC} (g : GpY z.1 s') : EaW z (s', z.2) := EaW.mv g [] rfl no_u
theorem EaW.it {y : Int × Int × Int × Int × Int} : EaW z (z.1, .inr y :: z.2.1, z.2.2) := by sorry
theorem EaW.pu {x : XrZ} (k : ¬ x.1.1 ≤ 10) : EaW z (puM x z) := by sorry
theorem EaW.ee : EaW z (eM N n z) := by sorry
theorem EaW.se {f : SrZ → SrZ} : EaW z (seM j f z) := EaW.mv GpY.rf [] rfl no_u
theorem EaW.dc {ty f h : Int} : EaW z (dcM N ty f h z) := EaW.mv (gd_dcl _) [] rfl no_u
theorem EaW.va1 {f ty : Int} : EaW z (va1M N j n f ty z) := by sorry
theorem EaW.ju {c : Int} : EaW z (juM N c n z) := by sorry
theorem EaW.lb : EaW z (laB n z) := by sorry
end
theorem ea_w {N : Int → Int} : WkC N EaW := by sorry
theorem ea_all {N : Int → Int} {f : Nat} {s : SpC} (h : zFt (prM N f (z0S s)).1 = 0) (hs : Z0Y s) : EaI (prM N f (z0S s)) := by sorry
/-! what type and constant answer -/
/-- the exp from token i to token k -/
def lsW (i k : Int) : List ItZ → Option Nat
  | [] => none
  | .inl x :: l => if x.1.1 ≤ 10 ∧ x.1.2.2.1 = i ∧ x.1.2.2.2 = k then some (xcZ l) else lsW i k l
  | .inr _ :: l => lsW i k l
/-- one of them is the only one -/
theorem ls_un {z : ZS} (h : EaI z) {x : XrZ} {l : List ItZ} (hx : (.inl x :: l) <:+ z.2.1) (k : x.1.1 ≤ 10) : lsW x.1.2.2.1 x.1.2.2.2 z.2.1 = some (xcZ l) := by sorry
theorem ls_no {i k : Int} : ∀ {L : List ItZ}, lsW i k L = none → ∀ x, .inl x ∈ L → x.1.1 ≤ 10 → ¬ (x.1.2.2.1 = i ∧ x.1.2.2.2 = k) := by sorry
/-- the reference's list of exps, searched from its beginning to its end -/
theorem xa_ls {Y : RS} {T : TbT} {i k r : Int32} : ∀ {l : List ItZ}, JtR Y T l → ((r = -2 ∧ ∀ x : Nat, x < ycZ l → ¬ (aI Y 75 x = i ∧ aI Y 76 x = k)) ∨ (0 ≤ r.toInt ∧ r.toInt < (ycZ l : Int) ∧ (aI Y 75 r.toNatClampNeg = i ∧ aI Y 76 r.toNatClampNeg = k) ∧ ∀ x : Nat, r.toInt < (x : Int) → x < ycZ l → ¬ (aI Y 75 x = i ∧ aI Y 76 x = k))) → (r = -2 ∧ lsW i.toInt k.toInt l = none) ∨ (0 ≤ r.toInt ∧ ∃ e, lsW i.toInt k.toInt l = some e ∧ ShT (aI Y 77 r.toNatClampNeg) (aI Y 78 r.toNatClampNeg) (aL Y 79 r.toNatClampNeg) (T.1 e)) := by sorry
/-! where variables of methods begin -/
def K4 (c Y : RS) : Prop := aI Y 40 = aI c 40 ∧ gI Y 36 = gI c 36
section
variable {c Y Z : RS} {k : Nat} {v : Int32} {f : Nat → Int32}
theorem K4.rf : K4 Y Y := ⟨rfl, rfl⟩
theorem K4.i (h : K4 c Y) (hk : k ≠ 36) : K4 c (sI Y k v) := ⟨h.1, (gI_p hk).trans h.2⟩
theorem K4.a (h : K4 c Y) (hk : k ≠ 40) : K4 c (sA Y k f) := ⟨(aI_ne hk.symm).trans h.1, h.2⟩
/-- behind the head of a method; behind its params -/
def KM (s Y : RS) : Prop := aI Y 40 = upd (aI s 40) (gI s 36).toNatClampNeg (gI s 42) ∧ gI Y 36 = gI s 36
def KN (s Y : RS) : Prop := aI Y 40 = upd (aI s 40) (gI s 36).toNatClampNeg (gI s 42) ∧ gI Y 36 = gI s 36 + 1
theorem KM.ks (h : KM c Y) (g : K4 Y Z) : KM c Z := ⟨g.1.trans h.1, g.2.trans h.2⟩
theorem KN.ks (h : KN c Y) (g : K4 Y Z) : KN c Z := ⟨g.1.trans h.1, g.2.trans h.2⟩
theorem K6.ks (h : K6 c Y) (g : K6 Y Z) : K6 c Z := by sorry
theorem KM.new {f1 f2 f3 : Nat → Int32} (h : K6 c Y) : KM c (sI (sA (sA (sA (sA Y 37 f1) 38 f2) 39 f3) 40 (upd (aI Y 40) (gI Y 36).toNatClampNeg (gI Y 42))) 62 0) := by sorry
theorem KM.me (h : KM c Y) : KN c (sI (sA Y 41 f) 36 (gI Y 36 + 1)) := by sorry
end
theorem jf_go {N : Int → Int} {f : Nat} {t : ZS} {q : (Nat → Nat) × (Nat → Nat)} (h0 : zFt t.1 = 0) (h : ¬ codY t.1 = 84) : jfM N (f + 1) t q = jfM N f (meM N t) (upA q.1 (zMs t.1).length (snM t), upA q.2 (zMs t.1).length (zVs t.1).length) := by sorry
theorem jf_no {N : Int → Int} {f : Nat} {t : ZS} {q : (Nat → Nat) × (Nat → Nat)} (h0 : zFt t.1 = 0) (h : codY t.1 = 84) : jfM N (f + 1) t q = q := by sorry
theorem jq_new {Y Z : RS} {s t : SpC} {u : Nat → Nat} (hM : MhR Y s) (hN : MhR Z t) (hl : (zMs t).length = (zMs s).length + 1) (hJ : KN Y Z) (hq : ∀ m : Nat, m < nT (gI Y 36) → (aI Y 40 m).toInt = (u m : Int)) : ∀ m : Nat, m < nT (gI Z 36) → (aI Z 40 m).toInt = ((upA u (zMs s).length (zVs s).length) m : Int) := by sorry
def Pv_wrongK4 (c : RS) : UP1 := fun A1 σ => match A1 with
  | [.int a1, .int a2] => K4 c σ
  | _ => False
def Qv_wrongK4 (c : RS) : UQ1 := fun A1 σ w τ => match A1 with
  | [.int a1, .int a2] => (w = some (.int 0)) ∧ K4 c τ
  | _ => False
def Qw_wrongK4 : UQ1 := fun A1 σ w τ => ∀ (c : RS), Pv_wrongK4 c A1 σ → Qv_wrongK4 c A1 σ w τ
set_option maxRecDepth 100000 in
set_option maxHeartbeats 4000000 in
theorem v_wrongK4 (c : RS) : UMet 12 (Pv_wrongK4 c) (Qv_wrongK4 c) := by sorry
theorem w_wrongK4 : UMet 12 (fun _ _ => True) Qw_wrongK4 := fun A1 σ _ w τ h c hP => v_wrongK4 c A1 σ hP w τ h
def Pv_cantK4 (c : RS) : UP1 := fun A1 σ => match A1 with
  | [] => K4 c σ
  | _ => False
def Qv_cantK4 (c : RS) : UQ1 := fun A1 σ w τ => match A1 with
  | [] => (w = some (.int 0)) ∧ K4 c τ
  | _ => False
def Qw_cantK4 : UQ1 := fun A1 σ w τ => ∀ (c : RS), Pv_cantK4 c A1 σ → Qv_cantK4 c A1 σ w τ
set_option maxRecDepth 100000 in
set_option maxHeartbeats 4000000 in
theorem v_cantK4 (c : RS) : UMet 13 (Pv_cantK4 c) (Qv_cantK4 c) := by sorry
theorem w_cantK4 : UMet 13 (fun _ _ => True) Qw_cantK4 := fun A1 σ _ w τ h c hP => v_cantK4 c A1 σ hP w τ h
def Pv_emitK4 (c : RS) : UP1 := fun A1 σ => match A1 with
  | [.int a1, .int a2, .int a3] => K4 c σ
  | _ => False
def Qv_emitK4 (c : RS) : UQ1 := fun A1 σ w τ => match A1 with
  | [.int a1, .int a2, .int a3] => (∃ r : Int32, w = some (.int r)) ∧ K4 c τ
  | _ => False
def Qw_emitK4 : UQ1 := fun A1 σ w τ => ∀ (c : RS), Pv_emitK4 c A1 σ → Qv_emitK4 c A1 σ w τ
set_option maxRecDepth 100000 in
set_option maxHeartbeats 4000000 in
theorem v_emitK4 (c : RS) : UMet 20 (Pv_emitK4 c) (Qv_emitK4 c) := by sorry
theorem w_emitK4 : UMet 20 (fun _ _ => True) Qw_emitK4 := fun A1 σ _ w τ h c hP => v_emitK4 c A1 σ hP w τ h
def Pv_emitExpK4 (c : RS) : UP1 := fun A1 σ => match A1 with
  | [.int a1, .int a2, .int a3, .int a4, .int a5] => K4 c σ
  | _ => False
def Qv_emitExpK4 (c : RS) : UQ1 := fun A1 σ w τ => match A1 with
  | [.int a1, .int a2, .int a3, .int a4, .int a5] => (∃ r : Int32, w = some (.int r)) ∧ K4 c τ
  | _ => False
def Qw_emitExpK4 : UQ1 := fun A1 σ w τ => ∀ (c : RS), Pv_emitExpK4 c A1 σ → Qv_emitExpK4 c A1 σ w τ
set_option maxRecDepth 100000 in
set_option maxHeartbeats 4000000 in
theorem v_emitExpK4 (c : RS) : UMet 21 (Pv_emitExpK4 c) (Qv_emitExpK4 c) := by sorry
theorem w_emitExpK4 : UMet 21 (fun _ _ => True) Qw_emitExpK4 := fun A1 σ _ w τ h c hP => v_emitExpK4 c A1 σ hP w τ h
def Pv_takeK4 (c : RS) : UP1 := fun A1 σ => match A1 with
  | [] => K4 c σ
  | _ => False
def Qv_takeK4 (c : RS) : UQ1 := fun A1 σ w τ => match A1 with
  | [] => (∃ r : Int32, w = some (.int r)) ∧ K4 c τ
  | _ => False
def Qw_takeK4 : UQ1 := fun A1 σ w τ => ∀ (c : RS), Pv_takeK4 c A1 σ → Qv_takeK4 c A1 σ w τ
set_option maxRecDepth 100000 in
set_option maxHeartbeats 4000000 in
theorem v_takeK4 (c : RS) : UMet 17 (Pv_takeK4 c) (Qv_takeK4 c) := by sorry
theorem w_takeK4 : UMet 17 (fun _ _ => True) Qw_takeK4 := fun A1 σ _ w τ h c hP => v_takeK4 c A1 σ hP w τ h
def Pv_wholeK4 (c : RS) : UP1 := fun A1 σ => match A1 with
  | [.int a1] => K4 c σ
  | _ => False
def Qv_wholeK4 (c : RS) : UQ1 := fun A1 σ w τ => match A1 with
  | [.int a1] => (w = none) ∧ K4 c τ
  | _ => False
def Qw_wholeK4 : UQ1 := fun A1 σ w τ => ∀ (c : RS), Pv_wholeK4 c A1 σ → Qv_wholeK4 c A1 σ w τ
set_option maxRecDepth 100000 in
set_option maxHeartbeats 4000000 in
theorem v_wholeK4 (c : RS) : UMet 26 (Pv_wholeK4 c) (Qv_wholeK4 c) := by sorry
theorem w_wholeK4 : UMet 26 (fun _ _ => True) Qw_wholeK4 := fun A1 σ _ w τ h c hP => v_wholeK4 c A1 σ hP w τ h
def Pv_closeCallK4 (c : RS) : UP1 := fun A1 σ => match A1 with
  | [] => K4 c σ
  | _ => False
def Qv_closeCallK4 (c : RS) : UQ1 := fun A1 σ w τ => match A1 with
  | [] => (∃ r : Int32, w = some (.int r)) ∧ K4 c τ
  | _ => False
def Qw_closeCallK4 : UQ1 := fun A1 σ w τ => ∀ (c : RS), Pv_closeCallK4 c A1 σ → Qv_closeCallK4 c A1 σ w τ
set_option maxRecDepth 100000 in
set_option maxHeartbeats 4000000 in
theorem v_closeCallK4 (c : RS) : UMet 31 (Pv_closeCallK4 c) (Qv_closeCallK4 c) := by sorry
theorem w_closeCallK4 : UMet 31 (fun _ _ => True) Qw_closeCallK4 := fun A1 σ _ w τ h c hP => v_closeCallK4 c A1 σ hP w τ h
def Pv_strengthK4 (c : RS) : UP1 := fun A1 σ => match A1 with
  | [.int a1] => K4 c σ
  | _ => False
def Qv_strengthK4 (c : RS) : UQ1 := fun A1 σ w τ => match A1 with
  | [.int a1] => (∃ r : Int32, w = some (.int r)) ∧ K4 c τ
  | _ => False
def Qw_strengthK4 : UQ1 := fun A1 σ w τ => ∀ (c : RS), Pv_strengthK4 c A1 σ → Qv_strengthK4 c A1 σ w τ
set_option maxRecDepth 100000 in
set_option maxHeartbeats 4000000 in
theorem v_strengthK4 (c : RS) : UMet 22 (Pv_strengthK4 c) (Qv_strengthK4 c) := by sorry
theorem w_strengthK4 : UMet 22 (fun _ _ => True) Qw_strengthK4 := fun A1 σ _ w τ h c hP => v_strengthK4 c A1 σ hP w τ h
def Pv_reduceK4 (c : RS) : UP1 := fun A1 σ => match A1 with
  | [.int a1] => K4 c σ
  | _ => False
def Qv_reduceK4 (c : RS) : UQ1 := fun A1 σ w τ => match A1 with
  | [.int a1] => (w = none) ∧ K4 c τ
  | _ => False
def Qw_reduceK4 : UQ1 := fun A1 σ w τ => ∀ (c : RS), Pv_reduceK4 c A1 σ → Qv_reduceK4 c A1 σ w τ
set_option maxRecDepth 100000 in
set_option maxHeartbeats 4000000 in
theorem v_reduceK4 (c : RS) : UMet 32 (Pv_reduceK4 c) (Qv_reduceK4 c) := by sorry
theorem w_reduceK4 : UMet 32 (fun _ _ => True) Qw_reduceK4 := fun A1 σ _ w τ h c hP => v_reduceK4 c A1 σ hP w τ h
def Pv_completeK4 (c : RS) : UP1 := fun A1 σ => match A1 with
  | [] => K4 c σ
  | _ => False
def Qv_completeK4 (c : RS) : UQ1 := fun A1 σ w τ => match A1 with
  | [] => (w = none) ∧ K4 c τ
  | _ => False
def Qw_completeK4 : UQ1 := fun A1 σ w τ => ∀ (c : RS), Pv_completeK4 c A1 σ → Qv_completeK4 c A1 σ w τ
set_option maxRecDepth 100000 in
set_option maxHeartbeats 4000000 in
theorem v_completeK4 (c : RS) : UMet 33 (Pv_completeK4 c) (Qv_completeK4 c) := by sorry
theorem w_completeK4 : UMet 33 (fun _ _ => True) Qw_completeK4 := fun A1 σ _ w τ h c hP => v_completeK4 c A1 σ hP w τ h
def Pv_enterK4 (c : RS) : UP1 := fun A1 σ => match A1 with
  | [] => K4 c σ
  | _ => False
def Qv_enterK4 (c : RS) : UQ1 := fun A1 σ w τ => match A1 with
  | [] => (∃ r : Int32, w = some (.int r)) ∧ K4 c τ
  | _ => False
def Qw_enterK4 : UQ1 := fun A1 σ w τ => ∀ (c : RS), Pv_enterK4 c A1 σ → Qv_enterK4 c A1 σ w τ
set_option maxRecDepth 100000 in
set_option maxHeartbeats 4000000 in
theorem v_enterK4 (c : RS) : UMet 19 (Pv_enterK4 c) (Qv_enterK4 c) := by sorry
theorem w_enterK4 : UMet 19 (fun _ _ => True) Qw_enterK4 := fun A1 σ _ w τ h c hP => v_enterK4 c A1 σ hP w τ h
def Pv_isSignK4 (c : RS) : UP1 := fun A1 σ => match A1 with
  | [.int a1] => K4 c σ
  | _ => False
def Qv_isSignK4 (c : RS) : UQ1 := fun A1 σ w τ => match A1 with
  | [.int a1] => (∃ r : Int32, w = some (.int r)) ∧ K4 c τ
  | _ => False
def Qw_isSignK4 : UQ1 := fun A1 σ w τ => ∀ (c : RS), Pv_isSignK4 c A1 σ → Qv_isSignK4 c A1 σ w τ
set_option maxRecDepth 100000 in
set_option maxHeartbeats 4000000 in
theorem v_isSignK4 (c : RS) : UMet 14 (Pv_isSignK4 c) (Qv_isSignK4 c) := by sorry
theorem w_isSignK4 : UMet 14 (fun _ _ => True) Qw_isSignK4 := fun A1 σ _ w τ h c hP => v_isSignK4 c A1 σ hP w τ h
def Pv_pushK4 (c : RS) : UP1 := fun A1 σ => match A1 with
  | [.int a1, .int a2, .int a3] => K4 c σ
  | _ => False
def Qv_pushK4 (c : RS) : UQ1 := fun A1 σ w τ => match A1 with
  | [.int a1, .int a2, .int a3] => (∃ r : Int32, w = some (.int r)) ∧ K4 c τ
  | _ => False
def Qw_pushK4 : UQ1 := fun A1 σ w τ => ∀ (c : RS), Pv_pushK4 c A1 σ → Qv_pushK4 c A1 σ w τ
set_option maxRecDepth 100000 in
set_option maxHeartbeats 4000000 in
theorem v_pushK4 (c : RS) : UMet 25 (Pv_pushK4 c) (Qv_pushK4 c) := by sorry
theorem w_pushK4 : UMet 25 (fun _ _ => True) Qw_pushK4 := fun A1 σ _ w τ h c hP => v_pushK4 c A1 σ hP w τ h
def Pv_waitK4 (c : RS) : UP1 := fun A1 σ => match A1 with
  | [.int a1] => K4 c σ
  | _ => False
def Qv_waitK4 (c : RS) : UQ1 := fun A1 σ w τ => match A1 with
  | [.int a1] => (∃ r : Int32, w = some (.int r)) ∧ K4 c τ
  | _ => False
def Qw_waitK4 : UQ1 := fun A1 σ w τ => ∀ (c : RS), Pv_waitK4 c A1 σ → Qv_waitK4 c A1 σ w τ
set_option maxRecDepth 100000 in
set_option maxHeartbeats 4000000 in
theorem v_waitK4 (c : RS) : UMet 28 (Pv_waitK4 c) (Qv_waitK4 c) := by sorry
theorem w_waitK4 : UMet 28 (fun _ _ => True) Qw_waitK4 := fun A1 σ _ w τ h c hP => v_waitK4 c A1 σ hP w τ h
def Pv_behindK4 (c : RS) : UP1 := fun A1 σ => match A1 with
  | [] => K4 c σ
  | _ => False
def Qv_behindK4 (c : RS) : UQ1 := fun A1 σ w τ => match A1 with
  | [] => (∃ r : Int32, w = some (.int r)) ∧ K4 c τ
  | _ => False
def Qw_behindK4 : UQ1 := fun A1 σ w τ => ∀ (c : RS), Pv_behindK4 c A1 σ → Qv_behindK4 c A1 σ w τ
set_option maxRecDepth 100000 in
set_option maxHeartbeats 4000000 in
theorem v_behindK4 (c : RS) : UMet 34 (Pv_behindK4 c) (Qv_behindK4 c) := by sorry
theorem w_behindK4 : UMet 34 (fun _ _ => True) Qw_behindK4 := fun A1 σ _ w τ h c hP => v_behindK4 c A1 σ hP w τ h
def Pv_isTypeK4 (c : RS) : UP1 := fun A1 σ => match A1 with
  | [.int a1] => K4 c σ
  | _ => False
def Qv_isTypeK4 (c : RS) : UQ1 := fun A1 σ w τ => match A1 with
  | [.int a1] => (∃ r : Int32, w = some (.int r)) ∧ K4 c τ
  | _ => False
def Qw_isTypeK4 : UQ1 := fun A1 σ w τ => ∀ (c : RS), Pv_isTypeK4 c A1 σ → Qv_isTypeK4 c A1 σ w τ
set_option maxRecDepth 100000 in
set_option maxHeartbeats 4000000 in
theorem v_isTypeK4 (c : RS) : UMet 23 (Pv_isTypeK4 c) (Qv_isTypeK4 c) := by sorry
theorem w_isTypeK4 : UMet 23 (fun _ _ => True) Qw_isTypeK4 := fun A1 σ _ w τ h c hP => v_isTypeK4 c A1 σ hP w τ h
def Pv_isWordK4 (c : RS) : UP1 := fun A1 σ => match A1 with
  | [.int a1] => K4 c σ
  | _ => False
def Qv_isWordK4 (c : RS) : UQ1 := fun A1 σ w τ => match A1 with
  | [.int a1] => (∃ r : Int32, w = some (.int r)) ∧ K4 c τ
  | _ => False
def Qw_isWordK4 : UQ1 := fun A1 σ w τ => ∀ (c : RS), Pv_isWordK4 c A1 σ → Qv_isWordK4 c A1 σ w τ
set_option maxRecDepth 100000 in
set_option maxHeartbeats 4000000 in
theorem v_isWordK4 (c : RS) : UMet 15 (Pv_isWordK4 c) (Qv_isWordK4 c) := by sorry
theorem w_isWordK4 : UMet 15 (fun _ _ => True) Qw_isWordK4 := fun A1 σ _ w τ h c hP => v_isWordK4 c A1 σ hP w τ h
def Pv_isSetAtK4 (c : RS) : UP1 := fun A1 σ => match A1 with
  | [.int a1] => K4 c σ
  | _ => False
def Qv_isSetAtK4 (c : RS) : UQ1 := fun A1 σ w τ => match A1 with
  | [.int a1] => (∃ r : Int32, w = some (.int r)) ∧ K4 c τ
  | _ => False
def Qw_isSetAtK4 : UQ1 := fun A1 σ w τ => ∀ (c : RS), Pv_isSetAtK4 c A1 σ → Qv_isSetAtK4 c A1 σ w τ
set_option maxRecDepth 100000 in
set_option maxHeartbeats 4000000 in
theorem v_isSetAtK4 (c : RS) : UMet 24 (Pv_isSetAtK4 c) (Qv_isSetAtK4 c) := by sorry
theorem w_isSetAtK4 : UMet 24 (fun _ _ => True) Qw_isSetAtK4 := fun A1 σ _ w τ h c hP => v_isSetAtK4 c A1 σ hP w τ h
def Pv_namedK4 (c : RS) : UP1 := fun A1 σ => match A1 with
  | [.int a1] => K4 c σ
  | _ => False
def Qv_namedK4 (c : RS) : UQ1 := fun A1 σ w τ => match A1 with
  | [.int a1] => (∃ r : Int32, w = some (.int r)) ∧ K4 c τ
  | _ => False
def Qw_namedK4 : UQ1 := fun A1 σ w τ => ∀ (c : RS), Pv_namedK4 c A1 σ → Qv_namedK4 c A1 σ w τ
set_option maxRecDepth 100000 in
set_option maxHeartbeats 4000000 in
theorem v_namedK4 (c : RS) : UMet 30 (Pv_namedK4 c) (Qv_namedK4 c) := by sorry
theorem w_namedK4 : UMet 30 (fun _ _ => True) Qw_namedK4 := fun A1 σ _ w τ h c hP => v_namedK4 c A1 σ hP w τ h
def Pv_wantK4 (c : RS) : UP1 := fun A1 σ => match A1 with
  | [.int a1] => K4 c σ
  | _ => False
def Qv_wantK4 (c : RS) : UQ1 := fun A1 σ w τ => match A1 with
  | [.int a1] => (∃ r : Int32, w = some (.int r)) ∧ K4 c τ
  | _ => False
def Qw_wantK4 : UQ1 := fun A1 σ w τ => ∀ (c : RS), Pv_wantK4 c A1 σ → Qv_wantK4 c A1 σ w τ
set_option maxRecDepth 100000 in
set_option maxHeartbeats 4000000 in
theorem v_wantK4 (c : RS) : UMet 18 (Pv_wantK4 c) (Qv_wantK4 c) := by sorry
theorem w_wantK4 : UMet 18 (fun _ _ => True) Qw_wantK4 := fun A1 σ _ w τ h c hP => v_wantK4 c A1 σ hP w τ h
def Pv_operandK4 (c : RS) : UP1 := fun A1 σ => match A1 with
  | [.int a1] => K4 c σ
  | _ => False
def Qv_operandK4 (c : RS) : UQ1 := fun A1 σ w τ => match A1 with
  | [.int a1] => (∃ r : Int32, w = some (.int r)) ∧ K4 c τ
  | _ => False
def Qw_operandK4 : UQ1 := fun A1 σ w τ => ∀ (c : RS), Pv_operandK4 c A1 σ → Qv_operandK4 c A1 σ w τ
set_option maxRecDepth 100000 in
set_option maxHeartbeats 4000000 in
theorem v_operandK4 (c : RS) : UMet 29 (Pv_operandK4 c) (Qv_operandK4 c) := by sorry
theorem w_operandK4 : UMet 29 (fun _ _ => True) Qw_operandK4 := fun A1 σ _ w τ h c hP => v_operandK4 c A1 σ hP w τ h
def Pv_expressionK4 (c : RS) : UP1 := fun A1 σ => match A1 with
  | [] => K4 c σ
  | _ => False
def Qv_expressionK4 (c : RS) : UQ1 := fun A1 σ w τ => match A1 with
  | [] => (∃ r : Int32, w = some (.int r)) ∧ K4 c τ
  | _ => False
def Qw_expressionK4 : UQ1 := fun A1 σ w τ => ∀ (c : RS), Pv_expressionK4 c A1 σ → Qv_expressionK4 c A1 σ w τ
set_option maxRecDepth 100000 in
set_option maxHeartbeats 4000000 in
theorem v_expressionK4 (c : RS) : UMet 27 (Pv_expressionK4 c) (Qv_expressionK4 c) := by sorry
theorem w_expressionK4 : UMet 27 (fun _ _ => True) Qw_expressionK4 := fun A1 σ _ w τ h c hP => v_expressionK4 c A1 σ hP w τ h
def Pv_conditionK4 (c : RS) : UP1 := fun A1 σ => match A1 with
  | [] => K4 c σ
  | _ => False
def Qv_conditionK4 (c : RS) : UQ1 := fun A1 σ w τ => match A1 with
  | [] => (∃ r : Int32, w = some (.int r)) ∧ K4 c τ
  | _ => False
def Qw_conditionK4 : UQ1 := fun A1 σ w τ => ∀ (c : RS), Pv_conditionK4 c A1 σ → Qv_conditionK4 c A1 σ w τ
set_option maxRecDepth 100000 in
set_option maxHeartbeats 4000000 in
theorem v_conditionK4 (c : RS) : UMet 52 (Pv_conditionK4 c) (Qv_conditionK4 c) := by sorry
theorem w_conditionK4 : UMet 52 (fun _ _ => True) Qw_conditionK4 := fun A1 σ _ w τ h c hP => v_conditionK4 c A1 σ hP w τ h
def Pv_isRowK4 (c : RS) : UP1 := fun A1 σ => match A1 with
  | [.int a1] => K4 c σ
  | _ => False
def Qv_isRowK4 (c : RS) : UQ1 := fun A1 σ w τ => match A1 with
  | [.int a1] => (∃ r : Int32, w = some (.int r)) ∧ K4 c τ
  | _ => False
def Qw_isRowK4 : UQ1 := fun A1 σ w τ => ∀ (c : RS), Pv_isRowK4 c A1 σ → Qv_isRowK4 c A1 σ w τ
set_option maxRecDepth 100000 in
set_option maxHeartbeats 4000000 in
theorem v_isRowK4 (c : RS) : UMet 43 (Pv_isRowK4 c) (Qv_isRowK4 c) := by sorry
theorem w_isRowK4 : UMet 43 (fun _ _ => True) Qw_isRowK4 := fun A1 σ _ w τ h c hP => v_isRowK4 c A1 σ hP w τ h
def Pv_leaveK4 (c : RS) : UP1 := fun A1 σ => match A1 with
  | [.int a1, .int a2] => K4 c σ
  | _ => False
def Qv_leaveK4 (c : RS) : UQ1 := fun A1 σ w τ => match A1 with
  | [.int a1, .int a2] => (w = none) ∧ K4 c τ
  | _ => False
def Qw_leaveK4 : UQ1 := fun A1 σ w τ => ∀ (c : RS), Pv_leaveK4 c A1 σ → Qv_leaveK4 c A1 σ w τ
set_option maxRecDepth 100000 in
set_option maxHeartbeats 4000000 in
theorem v_leaveK4 (c : RS) : UMet 42 (Pv_leaveK4 c) (Qv_leaveK4 c) := by sorry
theorem w_leaveK4 : UMet 42 (fun _ _ => True) Qw_leaveK4 := fun A1 σ _ w τ h c hP => v_leaveK4 c A1 σ hP w τ h
def Pv_finishedK4 (c : RS) : UP1 := fun A1 σ => match A1 with
  | [] => K4 c σ
  | _ => False
def Qv_finishedK4 (c : RS) : UQ1 := fun A1 σ w τ => match A1 with
  | [] => (∃ r : Int32, w = some (.int r)) ∧ K4 c τ
  | _ => False
def Qw_finishedK4 : UQ1 := fun A1 σ w τ => ∀ (c : RS), Pv_finishedK4 c A1 σ → Qv_finishedK4 c A1 σ w τ
set_option maxRecDepth 100000 in
set_option maxHeartbeats 4000000 in
theorem v_finishedK4 (c : RS) : UMet 69 (Pv_finishedK4 c) (Qv_finishedK4 c) := by sorry
theorem w_finishedK4 : UMet 69 (fun _ _ => True) Qw_finishedK4 := fun A1 σ _ w τ h c hP => v_finishedK4 c A1 σ hP w τ h
def Pv_openK4 (c : RS) : UP1 := fun A1 σ => match A1 with
  | [.int a1, .int a2, .int a3] => K4 c σ
  | _ => False
def Qv_openK4 (c : RS) : UQ1 := fun A1 σ w τ => match A1 with
  | [.int a1, .int a2, .int a3] => (∃ r : Int32, w = some (.int r)) ∧ K4 c τ
  | _ => False
def Qw_openK4 : UQ1 := fun A1 σ w τ => ∀ (c : RS), Pv_openK4 c A1 σ → Qv_openK4 c A1 σ w τ
set_option maxRecDepth 100000 in
set_option maxHeartbeats 4000000 in
theorem v_openK4 (c : RS) : UMet 36 (Pv_openK4 c) (Qv_openK4 c) := by sorry
theorem w_openK4 : UMet 36 (fun _ _ => True) Qw_openK4 := fun A1 σ _ w τ h c hP => v_openK4 c A1 σ hP w τ h
def Pv_variableK4 (c : RS) : UP1 := fun A1 σ => match A1 with
  | [.int a1, .int a2, .int a3] => K4 c σ
  | _ => False
def Qv_variableK4 (c : RS) : UQ1 := fun A1 σ w τ => match A1 with
  | [.int a1, .int a2, .int a3] => (∃ r : Int32, w = some (.int r)) ∧ K4 c τ
  | _ => False
def Qw_variableK4 : UQ1 := fun A1 σ w τ => ∀ (c : RS), Pv_variableK4 c A1 σ → Qv_variableK4 c A1 σ w τ
set_option maxRecDepth 100000 in
set_option maxHeartbeats 4000000 in
theorem v_variableK4 (c : RS) : UMet 40 (Pv_variableK4 c) (Qv_variableK4 c) := by sorry
theorem w_variableK4 : UMet 40 (fun _ _ => True) Qw_variableK4 := fun A1 σ _ w τ h c hP => v_variableK4 c A1 σ hP w τ h
def Pv_closeTryK4 (c : RS) : UP1 := fun A1 σ => match A1 with
  | [.int a1, .int a2, .int a3] => K4 c σ
  | _ => False
def Qv_closeTryK4 (c : RS) : UQ1 := fun A1 σ w τ => match A1 with
  | [.int a1, .int a2, .int a3] => (∃ r : Int32, w = some (.int r)) ∧ K4 c τ
  | _ => False
def Qw_closeTryK4 : UQ1 := fun A1 σ w τ => ∀ (c : RS), Pv_closeTryK4 c A1 σ → Qv_closeTryK4 c A1 σ w τ
set_option maxRecDepth 100000 in
set_option maxHeartbeats 4000000 in
theorem v_closeTryK4 (c : RS) : UMet 68 (Pv_closeTryK4 c) (Qv_closeTryK4 c) := by sorry
theorem w_closeTryK4 : UMet 68 (fun _ _ => True) Qw_closeTryK4 := fun A1 σ _ w τ h c hP => v_closeTryK4 c A1 σ hP w τ h
def Pv_closedK4 (c : RS) : UP1 := fun A1 σ => match A1 with
  | [.int a1] => K4 c σ
  | _ => False
def Qv_closedK4 (c : RS) : UQ1 := fun A1 σ w τ => match A1 with
  | [.int a1] => (∃ r : Int32, w = some (.int r)) ∧ K4 c τ
  | _ => False
def Qw_closedK4 : UQ1 := fun A1 σ w τ => ∀ (c : RS), Pv_closedK4 c A1 σ → Qv_closedK4 c A1 σ w τ
set_option maxRecDepth 100000 in
set_option maxHeartbeats 4000000 in
theorem v_closedK4 (c : RS) : UMet 61 (Pv_closedK4 c) (Qv_closedK4 c) := by sorry
theorem w_closedK4 : UMet 61 (fun _ _ => True) Qw_closedK4 := fun A1 σ _ w τ h c hP => v_closedK4 c A1 σ hP w τ h
def Pv_closeRowK4 (c : RS) : UP1 := fun A1 σ => match A1 with
  | [.int a1] => K4 c σ
  | _ => False
def Qv_closeRowK4 (c : RS) : UQ1 := fun A1 σ w τ => match A1 with
  | [.int a1] => (∃ r : Int32, w = some (.int r)) ∧ K4 c τ
  | _ => False
def Qw_closeRowK4 : UQ1 := fun A1 σ w τ => ∀ (c : RS), Pv_closeRowK4 c A1 σ → Qv_closeRowK4 c A1 σ w τ
set_option maxRecDepth 100000 in
set_option maxHeartbeats 4000000 in
theorem v_closeRowK4 (c : RS) : UMet 67 (Pv_closeRowK4 c) (Qv_closeRowK4 c) := by sorry
theorem w_closeRowK4 : UMet 67 (fun _ _ => True) Qw_closeRowK4 := fun A1 σ _ w τ h c hP => v_closeRowK4 c A1 σ hP w τ h
def Pv_closeSwitchK4 (c : RS) : UP1 := fun A1 σ => match A1 with
  | [] => K4 c σ
  | _ => False
def Qv_closeSwitchK4 (c : RS) : UQ1 := fun A1 σ w τ => match A1 with
  | [] => (∃ r : Int32, w = some (.int r)) ∧ K4 c τ
  | _ => False
def Qw_closeSwitchK4 : UQ1 := fun A1 σ w τ => ∀ (c : RS), Pv_closeSwitchK4 c A1 σ → Qv_closeSwitchK4 c A1 σ w τ
set_option maxRecDepth 100000 in
set_option maxHeartbeats 4000000 in
theorem v_closeSwitchK4 (c : RS) : UMet 60 (Pv_closeSwitchK4 c) (Qv_closeSwitchK4 c) := by sorry
theorem w_closeSwitchK4 : UMet 60 (fun _ _ => True) Qw_closeSwitchK4 := fun A1 σ _ w τ h c hP => v_closeSwitchK4 c A1 σ hP w τ h
def Pv_groupedK4 (c : RS) : UP1 := fun A1 σ => match A1 with
  | [] => K4 c σ
  | _ => False
def Qv_groupedK4 (c : RS) : UQ1 := fun A1 σ w τ => match A1 with
  | [] => (∃ r : Int32, w = some (.int r)) ∧ K4 c τ
  | _ => False
def Qw_groupedK4 : UQ1 := fun A1 σ w τ => ∀ (c : RS), Pv_groupedK4 c A1 σ → Qv_groupedK4 c A1 σ w τ
set_option maxRecDepth 100000 in
set_option maxHeartbeats 4000000 in
theorem v_groupedK4 (c : RS) : UMet 45 (Pv_groupedK4 c) (Qv_groupedK4 c) := by sorry
theorem w_groupedK4 : UMet 45 (fun _ _ => True) Qw_groupedK4 := fun A1 σ _ w τ h c hP => v_groupedK4 c A1 σ hP w τ h
def Pv_isToldK4 (c : RS) : UP1 := fun A1 σ => match A1 with
  | [] => K4 c σ
  | _ => False
def Qv_isToldK4 (c : RS) : UQ1 := fun A1 σ w τ => match A1 with
  | [] => (∃ r : Int32, w = some (.int r)) ∧ K4 c τ
  | _ => False
def Qw_isToldK4 : UQ1 := fun A1 σ w τ => ∀ (c : RS), Pv_isToldK4 c A1 σ → Qv_isToldK4 c A1 σ w τ
set_option maxRecDepth 100000 in
set_option maxHeartbeats 4000000 in
theorem v_isToldK4 (c : RS) : UMet 46 (Pv_isToldK4 c) (Qv_isToldK4 c) := by sorry
theorem w_isToldK4 : UMet 46 (fun _ _ => True) Qw_isToldK4 := fun A1 σ _ w τ h c hP => v_isToldK4 c A1 σ hP w τ h
/-! where variables of methods begin, further -/
def Pv_labelK4 (c : RS) : UP1 := fun A1 σ => match A1 with
  | [] => K4 c σ
  | _ => False
def Qv_labelK4 (c : RS) : UQ1 := fun A1 σ w τ => match A1 with
  | [] => (∃ r : Int32, w = some (.int r)) ∧ K4 c τ
  | _ => False
def Qw_labelK4 : UQ1 := fun A1 σ w τ => ∀ (c : RS), Pv_labelK4 c A1 σ → Qv_labelK4 c A1 σ w τ
set_option maxRecDepth 100000 in
set_option maxHeartbeats 4000000 in
theorem v_labelK4 (c : RS) : UMet 59 (Pv_labelK4 c) (Qv_labelK4 c) := by sorry
theorem w_labelK4 : UMet 59 (fun _ _ => True) Qw_labelK4 := fun A1 σ _ w τ h c hP => v_labelK4 c A1 σ hP w τ h
def Pv_thingK4 (c : RS) : UP1 := fun A1 σ => match A1 with
  | [.int a1, .int a2] => K4 c σ
  | _ => False
def Qv_thingK4 (c : RS) : UQ1 := fun A1 σ w τ => match A1 with
  | [.int a1, .int a2] => (∃ r : Int32, w = some (.int r)) ∧ K4 c τ
  | _ => False
def Qw_thingK4 : UQ1 := fun A1 σ w τ => ∀ (c : RS), Pv_thingK4 c A1 σ → Qv_thingK4 c A1 σ w τ
set_option maxRecDepth 100000 in
set_option maxHeartbeats 4000000 in
theorem v_thingK4 (c : RS) : UMet 35 (Pv_thingK4 c) (Qv_thingK4 c) := by sorry
theorem w_thingK4 : UMet 35 (fun _ _ => True) Qw_thingK4 := fun A1 σ _ w τ h c hP => v_thingK4 c A1 σ hP w τ h
def Pv_doOfK4 (c : RS) : UP1 := fun A1 σ => match A1 with
  | [] => K4 c σ
  | _ => False
def Qv_doOfK4 (c : RS) : UQ1 := fun A1 σ w τ => match A1 with
  | [] => (∃ r : Int32, w = some (.int r)) ∧ K4 c τ
  | _ => False
def Qw_doOfK4 : UQ1 := fun A1 σ w τ => ∀ (c : RS), Pv_doOfK4 c A1 σ → Qv_doOfK4 c A1 σ w τ
set_option maxRecDepth 100000 in
set_option maxHeartbeats 4000000 in
theorem v_doOfK4 (c : RS) : UMet 55 (Pv_doOfK4 c) (Qv_doOfK4 c) := by sorry
theorem w_doOfK4 : UMet 55 (fun _ _ => True) Qw_doOfK4 := fun A1 σ _ w τ h c hP => v_doOfK4 c A1 σ hP w τ h
def Pv_declarationK4 (c : RS) : UP1 := fun A1 σ => match A1 with
  | [.int a1] => K4 c σ
  | _ => False
def Qv_declarationK4 (c : RS) : UQ1 := fun A1 σ w τ => match A1 with
  | [.int a1] => (∃ r : Int32, w = some (.int r)) ∧ K4 c τ
  | _ => False
def Qw_declarationK4 : UQ1 := fun A1 σ w τ => ∀ (c : RS), Pv_declarationK4 c A1 σ → Qv_declarationK4 c A1 σ w τ
set_option maxRecDepth 100000 in
set_option maxHeartbeats 4000000 in
theorem v_declarationK4 (c : RS) : UMet 48 (Pv_declarationK4 c) (Qv_declarationK4 c) := by sorry
theorem w_declarationK4 : UMet 48 (fun _ _ => True) Qw_declarationK4 := fun A1 σ _ w τ h c hP => v_declarationK4 c A1 σ hP w τ h
def Pv_popK4 (c : RS) : UP1 := fun A1 σ => match A1 with
  | [] => K4 c σ
  | _ => False
def Qv_popK4 (c : RS) : UQ1 := fun A1 σ w τ => match A1 with
  | [] => (w = none) ∧ K4 c τ
  | _ => False
def Qw_popK4 : UQ1 := fun A1 σ w τ => ∀ (c : RS), Pv_popK4 c A1 σ → Qv_popK4 c A1 σ w τ
set_option maxRecDepth 100000 in
set_option maxHeartbeats 4000000 in
theorem v_popK4 (c : RS) : UMet 51 (Pv_popK4 c) (Qv_popK4 c) := by sorry
theorem w_popK4 : UMet 51 (fun _ _ => True) Qw_popK4 := fun A1 σ _ w τ h c hP => v_popK4 c A1 σ hP w τ h
def Pv_expsK4 (c : RS) : UP1 := fun A1 σ => match A1 with
  | [] => K4 c σ
  | _ => False
def Qv_expsK4 (c : RS) : UQ1 := fun A1 σ w τ => match A1 with
  | [] => (∃ r : Int32, w = some (.int r)) ∧ K4 c τ
  | _ => False
def Qw_expsK4 : UQ1 := fun A1 σ w τ => ∀ (c : RS), Pv_expsK4 c A1 σ → Qv_expsK4 c A1 σ w τ
set_option maxRecDepth 100000 in
set_option maxHeartbeats 4000000 in
theorem v_expsK4 (c : RS) : UMet 56 (Pv_expsK4 c) (Qv_expsK4 c) := by sorry
theorem w_expsK4 : UMet 56 (fun _ _ => True) Qw_expsK4 := fun A1 σ _ w τ h c hP => v_expsK4 c A1 σ hP w τ h
def Pv_forOfK4 (c : RS) : UP1 := fun A1 σ => match A1 with
  | [] => K4 c σ
  | _ => False
def Qv_forOfK4 (c : RS) : UQ1 := fun A1 σ w τ => match A1 with
  | [] => (∃ r : Int32, w = some (.int r)) ∧ K4 c τ
  | _ => False
def Qw_forOfK4 : UQ1 := fun A1 σ w τ => ∀ (c : RS), Pv_forOfK4 c A1 σ → Qv_forOfK4 c A1 σ w τ
set_option maxRecDepth 100000 in
set_option maxHeartbeats 4000000 in
theorem v_forOfK4 (c : RS) : UMet 57 (Pv_forOfK4 c) (Qv_forOfK4 c) := by sorry
theorem w_forOfK4 : UMet 57 (fun _ _ => True) Qw_forOfK4 := fun A1 σ _ w τ h c hP => v_forOfK4 c A1 σ hP w τ h
def Pv_givesK4 (c : RS) : UP1 := fun A1 σ => match A1 with
  | [] => K4 c σ
  | _ => False
def Qv_givesK4 (c : RS) : UQ1 := fun A1 σ w τ => match A1 with
  | [] => (∃ r : Int32, w = some (.int r)) ∧ K4 c τ
  | _ => False
def Qw_givesK4 : UQ1 := fun A1 σ w τ => ∀ (c : RS), Pv_givesK4 c A1 σ → Qv_givesK4 c A1 σ w τ
set_option maxRecDepth 100000 in
set_option maxHeartbeats 4000000 in
theorem v_givesK4 (c : RS) : UMet 65 (Pv_givesK4 c) (Qv_givesK4 c) := by sorry
theorem w_givesK4 : UMet 65 (fun _ _ => True) Qw_givesK4 := fun A1 σ _ w τ h c hP => v_givesK4 c A1 σ hP w τ h
def Pv_ifOfK4 (c : RS) : UP1 := fun A1 σ => match A1 with
  | [] => K4 c σ
  | _ => False
def Qv_ifOfK4 (c : RS) : UQ1 := fun A1 σ w τ => match A1 with
  | [] => (∃ r : Int32, w = some (.int r)) ∧ K4 c τ
  | _ => False
def Qw_ifOfK4 : UQ1 := fun A1 σ w τ => ∀ (c : RS), Pv_ifOfK4 c A1 σ → Qv_ifOfK4 c A1 σ w τ
set_option maxRecDepth 100000 in
set_option maxHeartbeats 4000000 in
theorem v_ifOfK4 (c : RS) : UMet 53 (Pv_ifOfK4 c) (Qv_ifOfK4 c) := by sorry
theorem w_ifOfK4 : UMet 53 (fun _ _ => True) Qw_ifOfK4 := fun A1 σ _ w τ h c hP => v_ifOfK4 c A1 σ hP w τ h
def Pv_isSignAtK4 (c : RS) : UP1 := fun A1 σ => match A1 with
  | [.int a1, .int a2] => K4 c σ
  | _ => False
def Qv_isSignAtK4 (c : RS) : UQ1 := fun A1 σ w τ => match A1 with
  | [.int a1, .int a2] => (∃ r : Int32, w = some (.int r)) ∧ K4 c τ
  | _ => False
def Qw_isSignAtK4 : UQ1 := fun A1 σ w τ => ∀ (c : RS), Pv_isSignAtK4 c A1 σ → Qv_isSignAtK4 c A1 σ w τ
set_option maxRecDepth 100000 in
set_option maxHeartbeats 4000000 in
theorem v_isSignAtK4 (c : RS) : UMet 16 (Pv_isSignAtK4 c) (Qv_isSignAtK4 c) := by sorry
theorem w_isSignAtK4 : UMet 16 (fun _ _ => True) Qw_isSignAtK4 := fun A1 σ _ w τ h c hP => v_isSignAtK4 c A1 σ hP w τ h
def Pv_sameNameK4 (c : RS) : UP1 := fun A1 σ => match A1 with
  | [.int a1, .int a2] => K4 c σ
  | _ => False
def Qv_sameNameK4 (c : RS) : UQ1 := fun A1 σ w τ => match A1 with
  | [.int a1, .int a2] => (∃ r : Int32, w = some (.int r)) ∧ K4 c τ
  | _ => False
def Qw_sameNameK4 : UQ1 := fun A1 σ w τ => ∀ (c : RS), Pv_sameNameK4 c A1 σ → Qv_sameNameK4 c A1 σ w τ
set_option maxRecDepth 100000 in
set_option maxHeartbeats 4000000 in
theorem v_sameNameK4 (c : RS) : UMet 63 (Pv_sameNameK4 c) (Qv_sameNameK4 c) := by sorry
theorem w_sameNameK4 : UMet 63 (fun _ _ => True) Qw_sameNameK4 := fun A1 σ _ w τ h c hP => v_sameNameK4 c A1 σ hP w τ h
def Pv_named_K4 (c : RS) : UP1 := fun A1 σ => match A1 with
  | [.int a1, .int a2] => K4 c σ
  | _ => False
def Qv_named_K4 (c : RS) : UQ1 := fun A1 σ w τ => match A1 with
  | [.int a1, .int a2] => (∃ r : Int32, w = some (.int r)) ∧ K4 c τ
  | _ => False
def Qw_named_K4 : UQ1 := fun A1 σ w τ => ∀ (c : RS), Pv_named_K4 c A1 σ → Qv_named_K4 c A1 σ w τ
set_option maxRecDepth 100000 in
set_option maxHeartbeats 4000000 in
theorem v_named_K4 (c : RS) : UMet 64 (Pv_named_K4 c) (Qv_named_K4 c) := by sorry
theorem w_named_K4 : UMet 64 (fun _ _ => True) Qw_named_K4 := fun A1 σ _ w τ h c hP => v_named_K4 c A1 σ hP w τ h
def Pv_jumpK4 (c : RS) : UP1 := fun A1 σ => match A1 with
  | [] => K4 c σ
  | _ => False
def Qv_jumpK4 (c : RS) : UQ1 := fun A1 σ w τ => match A1 with
  | [] => (∃ r : Int32, w = some (.int r)) ∧ K4 c τ
  | _ => False
def Qw_jumpK4 : UQ1 := fun A1 σ w τ => ∀ (c : RS), Pv_jumpK4 c A1 σ → Qv_jumpK4 c A1 σ w τ
set_option maxRecDepth 100000 in
set_option maxHeartbeats 4000000 in
theorem v_jumpK4 (c : RS) : UMet 62 (Pv_jumpK4 c) (Qv_jumpK4 c) := by sorry
theorem w_jumpK4 : UMet 62 (fun _ _ => True) Qw_jumpK4 := fun A1 σ _ w τ h c hP => v_jumpK4 c A1 σ hP w τ h
def Pv_plainK4 (c : RS) : UP1 := fun A1 σ => match A1 with
  | [] => K4 c σ
  | _ => False
def Qv_plainK4 (c : RS) : UQ1 := fun A1 σ w τ => match A1 with
  | [] => (∃ r : Int32, w = some (.int r)) ∧ K4 c τ
  | _ => False
def Qw_plainK4 : UQ1 := fun A1 σ w τ => ∀ (c : RS), Pv_plainK4 c A1 σ → Qv_plainK4 c A1 σ w τ
set_option maxRecDepth 100000 in
set_option maxHeartbeats 4000000 in
theorem v_plainK4 (c : RS) : UMet 50 (Pv_plainK4 c) (Qv_plainK4 c) := by sorry
theorem w_plainK4 : UMet 50 (fun _ _ => True) Qw_plainK4 := fun A1 σ _ w τ h c hP => v_plainK4 c A1 σ hP w τ h
def Pv_switchOfK4 (c : RS) : UP1 := fun A1 σ => match A1 with
  | [] => K4 c σ
  | _ => False
def Qv_switchOfK4 (c : RS) : UQ1 := fun A1 σ w τ => match A1 with
  | [] => (∃ r : Int32, w = some (.int r)) ∧ K4 c τ
  | _ => False
def Qw_switchOfK4 : UQ1 := fun A1 σ w τ => ∀ (c : RS), Pv_switchOfK4 c A1 σ → Qv_switchOfK4 c A1 σ w τ
set_option maxRecDepth 100000 in
set_option maxHeartbeats 4000000 in
theorem v_switchOfK4 (c : RS) : UMet 58 (Pv_switchOfK4 c) (Qv_switchOfK4 c) := by sorry
theorem w_switchOfK4 : UMet 58 (fun _ _ => True) Qw_switchOfK4 := fun A1 σ _ w τ h c hP => v_switchOfK4 c A1 σ hP w τ h
def Pv_tryOfK4 (c : RS) : UP1 := fun A1 σ => match A1 with
  | [] => K4 c σ
  | _ => False
def Qv_tryOfK4 (c : RS) : UQ1 := fun A1 σ w τ => match A1 with
  | [] => (∃ r : Int32, w = some (.int r)) ∧ K4 c τ
  | _ => False
def Qw_tryOfK4 : UQ1 := fun A1 σ w τ => ∀ (c : RS), Pv_tryOfK4 c A1 σ → Qv_tryOfK4 c A1 σ w τ
set_option maxRecDepth 100000 in
set_option maxHeartbeats 4000000 in
theorem v_tryOfK4 (c : RS) : UMet 66 (Pv_tryOfK4 c) (Qv_tryOfK4 c) := by sorry
theorem w_tryOfK4 : UMet 66 (fun _ _ => True) Qw_tryOfK4 := fun A1 σ _ w τ h c hP => v_tryOfK4 c A1 σ hP w τ h
def Pv_whileOfK4 (c : RS) : UP1 := fun A1 σ => match A1 with
  | [] => K4 c σ
  | _ => False
def Qv_whileOfK4 (c : RS) : UQ1 := fun A1 σ w τ => match A1 with
  | [] => (∃ r : Int32, w = some (.int r)) ∧ K4 c τ
  | _ => False
def Qw_whileOfK4 : UQ1 := fun A1 σ w τ => ∀ (c : RS), Pv_whileOfK4 c A1 σ → Qv_whileOfK4 c A1 σ w τ
set_option maxRecDepth 100000 in
set_option maxHeartbeats 4000000 in
theorem v_whileOfK4 (c : RS) : UMet 54 (Pv_whileOfK4 c) (Qv_whileOfK4 c) := by sorry
theorem w_whileOfK4 : UMet 54 (fun _ _ => True) Qw_whileOfK4 := fun A1 σ _ w τ h c hP => v_whileOfK4 c A1 σ hP w τ h
def Pv_statementK4 (c : RS) : UP1 := fun A1 σ => match A1 with
  | [] => K4 c σ
  | _ => False
def Qv_statementK4 (c : RS) : UQ1 := fun A1 σ w τ => match A1 with
  | [] => (∃ r : Int32, w = some (.int r)) ∧ K4 c τ
  | _ => False
def Qw_statementK4 : UQ1 := fun A1 σ w τ => ∀ (c : RS), Pv_statementK4 c A1 σ → Qv_statementK4 c A1 σ w τ
set_option maxRecDepth 100000 in
set_option maxHeartbeats 4000000 in
theorem v_statementK4 (c : RS) : UMet 49 (Pv_statementK4 c) (Qv_statementK4 c) := by sorry
theorem w_statementK4 : UMet 49 (fun _ _ => True) Qw_statementK4 := fun A1 σ _ w τ h c hP => v_statementK4 c A1 σ hP w τ h
def Pv_scopeK4 (c : RS) : UP1 := fun A1 σ => match A1 with
  | [] => K4 c σ
  | _ => False
def Qv_scopeK4 (c : RS) : UQ1 := fun A1 σ w τ => match A1 with
  | [] => (∃ r : Int32, w = some (.int r)) ∧ K4 c τ
  | _ => False
def Qw_scopeK4 : UQ1 := fun A1 σ w τ => ∀ (c : RS), Pv_scopeK4 c A1 σ → Qv_scopeK4 c A1 σ w τ
set_option maxRecDepth 100000 in
set_option maxHeartbeats 4000000 in
theorem v_scopeK4 (c : RS) : UMet 41 (Pv_scopeK4 c) (Qv_scopeK4 c) := by sorry
theorem w_scopeK4 : UMet 41 (fun _ _ => True) Qw_scopeK4 := fun A1 σ _ w τ h c hP => v_scopeK4 c A1 σ hP w τ h
def Pv_toldK4 (c : RS) : UP1 := fun A1 σ => match A1 with
  | [] => K4 c σ
  | _ => False
def Qv_toldK4 (c : RS) : UQ1 := fun A1 σ w τ => match A1 with
  | [] => (∃ r : Int32, w = some (.int r)) ∧ K4 c τ
  | _ => False
def Qw_toldK4 : UQ1 := fun A1 σ w τ => ∀ (c : RS), Pv_toldK4 c A1 σ → Qv_toldK4 c A1 σ w τ
set_option maxRecDepth 100000 in
set_option maxHeartbeats 4000000 in
theorem v_toldK4 (c : RS) : UMet 47 (Pv_toldK4 c) (Qv_toldK4 c) := by sorry
theorem w_toldK4 : UMet 47 (fun _ _ => True) Qw_toldK4 := fun A1 σ _ w τ h c hP => v_toldK4 c A1 σ hP w τ h
def Pv_pieceK4 (c : RS) : UP1 := fun A1 σ => match A1 with
  | [] => K4 c σ
  | _ => False
def Qv_pieceK4 (c : RS) : UQ1 := fun A1 σ w τ => match A1 with
  | [] => (∃ r : Int32, w = some (.int r)) ∧ K4 c τ
  | _ => False
def Qw_pieceK4 : UQ1 := fun A1 σ w τ => ∀ (c : RS), Pv_pieceK4 c A1 σ → Qv_pieceK4 c A1 σ w τ
set_option maxRecDepth 100000 in
set_option maxHeartbeats 4000000 in
theorem v_pieceK4 (c : RS) : UMet 44 (Pv_pieceK4 c) (Qv_pieceK4 c) := by sorry
theorem w_pieceK4 : UMet 44 (fun _ _ => True) Qw_pieceK4 := fun A1 σ _ w τ h c hP => v_pieceK4 c A1 σ hP w τ h
def Pv_paramK4 (c : RS) : UP1 := fun A1 σ => match A1 with
  | [.int a1, .int a2] => K4 c σ
  | _ => False
def Qv_paramK4 (c : RS) : UQ1 := fun A1 σ w τ => match A1 with
  | [.int a1, .int a2] => (∃ r : Int32, w = some (.int r)) ∧ K4 c τ
  | _ => False
def Qw_paramK4 : UQ1 := fun A1 σ w τ => ∀ (c : RS), Pv_paramK4 c A1 σ → Qv_paramK4 c A1 σ w τ
set_option maxRecDepth 100000 in
set_option maxHeartbeats 4000000 in
theorem v_paramK4 (c : RS) : UMet 39 (Pv_paramK4 c) (Qv_paramK4 c) := by sorry
theorem w_paramK4 : UMet 39 (fun _ _ => True) Qw_paramK4 := fun A1 σ _ w τ h c hP => v_paramK4 c A1 σ hP w τ h
def Qw_isWordKB : UQ1 := fun A1 σ w τ => Qw_isWordK6 A1 σ w τ ∧ Qw_isWordK4 A1 σ w τ
theorem w_isWordKB : UMet 15 (fun _ _ => True) Qw_isWordKB := by sorry
def Qw_isTypeKB : UQ1 := fun A1 σ w τ => Qw_isTypeK6 A1 σ w τ ∧ Qw_isTypeK4 A1 σ w τ
theorem w_isTypeKB : UMet 23 (fun _ _ => True) Qw_isTypeKB := by sorry
def Qw_cantKB : UQ1 := fun A1 σ w τ => Qw_cantK6 A1 σ w τ ∧ Qw_cantK4 A1 σ w τ
theorem w_cantKB : UMet 13 (fun _ _ => True) Qw_cantKB := by sorry
def Qw_takeKB : UQ1 := fun A1 σ w τ => Qw_takeK6 A1 σ w τ ∧ Qw_takeK4 A1 σ w τ
theorem w_takeKB : UMet 17 (fun _ _ => True) Qw_takeKB := by sorry
def Qw_wrongKB : UQ1 := fun A1 σ w τ => Qw_wrongK6 A1 σ w τ ∧ Qw_wrongK4 A1 σ w τ
theorem w_wrongKB : UMet 12 (fun _ _ => True) Qw_wrongKB := by sorry
def Qw_thingKB : UQ1 := fun A1 σ w τ => Qw_thingK6 A1 σ w τ ∧ Qw_thingK4 A1 σ w τ
theorem w_thingKB : UMet 35 (fun _ _ => True) Qw_thingKB := by sorry
def Qw_wantKB : UQ1 := fun A1 σ w τ => Qw_wantK6 A1 σ w τ ∧ Qw_wantK4 A1 σ w τ
theorem w_wantKB : UMet 18 (fun _ _ => True) Qw_wantKB := by sorry
def Qw_isSignKB : UQ1 := fun A1 σ w τ => Qw_isSignK6 A1 σ w τ ∧ Qw_isSignK4 A1 σ w τ
theorem w_isSignKB : UMet 14 (fun _ _ => True) Qw_isSignKB := by sorry
def Pv_methodK4 : UP1 := fun A1 σ => match A1 with
  | [] => True
  | _ => False
def Qv_methodK4 : UQ1 := fun A1 σ w τ => match A1 with
  | [] => ∃ r : Int32, w = some (.int r) ∧ (¬ r = 0 → KN σ τ)
  | _ => False
def Qw_methodK4 : UQ1 := fun A1 σ w τ => Pv_methodK4 A1 σ → Qv_methodK4 A1 σ w τ
set_option maxRecDepth 100000 in
set_option maxHeartbeats 4000000 in
theorem v_methodK4 : UMet 38 (Pv_methodK4) (Qv_methodK4) := by sorry
theorem w_methodK4 : UMet 38 (fun _ _ => True) Qw_methodK4 := fun A1 σ _ w τ h hP => v_methodK4 A1 σ hP w τ h
def Qw_methodC4 : UQ1 := fun A1 σ w τ => Qw_methodZ A1 σ w τ ∧ Qw_methodK4 A1 σ w τ
theorem w_methodC4 : UMet 38 (fun _ _ => True) Qw_methodC4 := by sorry
def Pv_parseK4 (N : Int → Int) (z : ZS) (q0 : (Nat → Nat) × (Nat → Nat)) : UP1 := fun A1 σ => match A1 with
  | [] => ShR (sI (sI σ 14 0) 15 0) z.1 ∧ Z0Y z.1 ∧ z.2.1 = [] ∧ tnM z = 0 ∧ TlZ σ z.1 ∧ NmZ N σ
  | _ => False
def Qv_parseK4 (N : Int → Int) (z : ZS) (q0 : (Nat → Nat) × (Nat → Nat)) : UQ1 := fun A1 σ w τ => match A1 with
  | [] => ∃ r : Int32, w = some (.int r) ∧ (¬ r = 0 → ∀ m : Nat, m < nT (gI τ 36) → (aI τ 40 m).toInt = ((jfM N 11 z q0).2 m : Int))
  | _ => False
def Qw_parseK4 : UQ1 := fun A1 σ w τ => ∀ (N : Int → Int) (z : ZS) (q0 : (Nat → Nat) × (Nat → Nat)), Pv_parseK4 N z q0 A1 σ → Qv_parseK4 N z q0 A1 σ w τ
set_option maxRecDepth 100000 in
set_option maxHeartbeats 4000000 in
theorem v_parseK4 (N : Int → Int) (z : ZS) (q0 : (Nat → Nat) × (Nat → Nat)) : UMet 37 (Pv_parseK4 N z q0) (Qv_parseK4 N z q0) := by sorry
theorem w_parseK4 : UMet 37 (fun _ _ => True) Qw_parseK4 := by sorry
/-! the reference between two calls: read; read and judged -/
def V1W (N : Int → Int) (s : SpC) : Nat → Int := fun M => ((jfM N 11 (z0S s) (fun _ => 0, fun _ => 0)).2 M : Int)
def RdB (N : Int → Int) (σ : RS) (s : SpC) (z : ZS) : Prop := RdA N σ s z ∧ ∀ m : Nat, m < nT (gI σ 36) → (aI σ 40 m).toInt = V1W N s m
theorem rdb_of {N : Int → Int} {ρ T U : RS} {x : TxY} {s : SpC} {n : Nat} {b : Int32} (hok : okY x) (hx : (gI ρ 1).toInt = x.2 ∧ ∀ j, (aI ρ 0 j).toInt = x.1 j) (hZ : Z0Y s) (hT : TkS x s n) (hN : NwN N x n) (e1 : EvM 6 [] ρ none T) (hS : ShR (sI (sI T 14 0) 15 0) s) (e2 : EvM 37 [] T (some (.int b)) U) : (b = 0 ∧ FlR U (prlY 11 s)) ∨ (b = 1 ∧ RdB N U s (prM N 11 (z0S s)) ∧ FrP T U) := by sorry
theorem RdB.f9 {N : Int → Int} {σ τ : RS} {s : SpC} {z : ZS} (h : RdB N σ s z) (f : F9 σ τ) : RdB N τ s z := by sorry
section
variable {N : Int → Int} {z : ZS} {T : TbT} {ms : MfT} {V1 V2 : Nat → Int} {f : Nat}
theorem flo_cg : ∀ {L : List Nat} {k : Nat}, (∀ M, k ≤ M → M < k + L.length → V1 M = V2 M) → (FlO N z T ms V1 f L k ↔ FlO N z T ms V2 f L k) ∧ FlG N z T ms V1 f L k = FlG N z T ms V2 f L k := by sorry
end
/-- nothing is told of the program -/
def OkP (N : Int → Int) (s : SpC) (z : ZS) (L : List Nat) (T : TbT) : Prop := OkW N z (V1W N s) L T
def GlW (N : Int → Int) (s : SpC) (z : ZS) (L : List Nat) (T : TbT) : List (Nat × Int64 × Bool) := FlG N z T (msM N koY kiY z.1) (V1W N s) (2 * snM z) L 0
/-- all the fields of a program -/
def F8 (σ τ : RS) : Prop := F9 σ τ ∧ gI τ 68 = gI σ 68
theorem F8.rf {σ : RS} : F8 σ σ := ⟨F9.rf, rfl⟩
theorem F8.tr {σ τ υ : RS} (h : F8 σ τ) (g : F8 τ υ) : F8 σ υ := ⟨h.1.tr g.1, g.2.trans h.2⟩
/-- tables of a program that was judged, without an ERROR -/
def JgQ (N : Int → Int) (ρ : RS) (s : SpC) (z : ZS) (L : List Nat) (T : TbT) : Prop := ((gI ρ 74).toInt = (ycZ z.2.1 : Int) ∧ JtR ρ T z.2.1) ∧ (∃ σ0, RdB N σ0 s z ∧ (∀ q : Nat, (aI ρ 80 q).toInt = meZ (bmR σ0 z) (kdR σ0) T z.2.1 q) ∧ (gI ρ 2 = gI σ0 2 ∧ gI ρ 42 = gI σ0 42) ∧ ∀ k, k < 59 → ¬ k = 0 → aI ρ k = aI σ0 k) ∧ (∀ u : Nat, u < nT (gI ρ 2) → (∀ i, i < snM z → SkD z i → ¬ (fiS z i).toNat = u) → aI ρ 109 u = 0) ∧ ∀ x ∈ GlW N s z L T, (x.1 < snM z ∧ SkD z x.1) ∧ ¬ aI ρ 109 (fiS z x.1).toNat = 0 ∧ aL ρ 110 (fiS z x.1).toNat = x.2.1 ∧ (¬ aI ρ 111 (fiS z x.1).toNat = 0 ↔ x.2.2 = true)
theorem JtR.f8 {Y Z : RS} {T : TbT} {l : List ItZ} (h : JtR Y T l) (e : ∀ k, 75 ≤ k → k ≤ 85 → aI Z k = aI Y k) (e2 : ∀ k, 75 ≤ k → k ≤ 85 → aL Z k = aL Y k) : JtR Z T l := by sorry
theorem fla_0 {k : Nat} (h : k < 95) : flA k = false := by sorry
theorem flm_0 {k : Nat} (h : k < 96) : flM k = false := by sorry
/-- judged -/
theorem ju_of {N : Int → Int} {σ τ ρ : RS} {s : SpC} {z : ZS} {L : List Nat} (h : RdB N σ s z) (h91 : gI σ 91 = 0) (ev : EvM 82 [] σ none τ) (hF : F8 τ ρ) (hL : L.length = (zMs z.1).length) (P : PrD N z L 0 (0, 0, []) (psM z)) : (¬ gI ρ 66 = 0 ∧ ∀ T, ¬ OkP N s z L T) ∨ (gI ρ 66 = 0 ∧ ∃ T, OkP N s z L T ∧ JgQ N ρ s z L T) := by sorry
/-! what the reference answers of a program that was judged -/
def JuR (N : Int → Int) (ρ : RS) (s : SpC) (z : ZS) : Prop := ∃ σ0 τ0, RdB N σ0 s z ∧ gI σ0 91 = 0 ∧ EvM 82 [] σ0 none τ0 ∧ F8 τ0 ρ
def NTW : Int64 := Int64.ofInt (-1234567890123)
def tyW (T : TbT) (L : List ItZ) (i k : Int) : Int := match lsW i k L with
  | none => -1
  | some e => (T.1 e).1
def coA (T : TbT) (L : List ItZ) (i k : Int) : Int64 := match lsW i k L with
  | none => NTW
  | some e => if (T.1 e).2.1 = 0 then NTW else (T.1 e).2.2.1
theorem pos_2 {v : Int32} (h : 0 < v.toInt) : 0 < v := Int32.lt_iff_toInt_lt.mpr h
section
variable {N : Int → Int} {ρ : RS} {s : SpC} {z : ZS} {L : List Nat} {T : TbT}
theorem JuR.of (h : JuR N ρ s z) (hL : L.length = (zMs z.1).length) (P : PrD N z L 0 (0, 0, []) (psM z)) : (¬ gI ρ 66 = 0 ∧ ∀ T, ¬ OkP N s z L T) ∨ (gI ρ 66 = 0 ∧ ∃ T, OkP N s z L T ∧ JgQ N ρ s z L T) := by sorry
theorem xa_of (h : JgQ N ρ s z L T) {i k x : Int32} (hx : XaR ρ i k x) : (x < 0 ∧ lsW i.toInt k.toInt z.2.1 = none) ∨ (¬ x < 0 ∧ ∃ e, lsW i.toInt k.toInt z.2.1 = some e ∧ ShT (aI ρ 77 x.toNatClampNeg) (aI ρ 78 x.toNatClampNeg) (aL ρ 79 x.toNatClampNeg) (T.1 e)) := by sorry
theorem ty_an (h : JgQ N ρ s z L T) {i k x r : Int32} (hx : XaR ρ i k x) (hr : (x < 0 ∧ r = -1) ∨ (¬ x < 0 ∧ r = aI ρ 77 x.toNatClampNeg)) : r.toInt = tyW T z.2.1 i.toInt k.toInt := by sorry
theorem co_an (h : JgQ N ρ s z L T) {i k x : Int32} {r : Int64} (hx : XaR ρ i k x) (hr : ((x < 0 ∨ aI ρ 78 x.toNatClampNeg = 0) ∧ r = Int64.ofInt (-1234567890123)) ∨ (¬ (x < 0 ∨ aI ρ 78 x.toNatClampNeg = 0) ∧ r = aL ρ 79 x.toNatClampNeg)) : r = coA T z.2.1 i.toInt k.toInt := by sorry
/-- S's that have a STEP, by their tokens -/
theorem st_at (h : JgQ N ρ s z L T) (hf : FlO N z T (msM N koY kiY z.1) (V1W N s) (2 * snM z) L 0) (P : PrD N z L 0 (0, 0, []) (psM z)) {i : Int32} : ((tokR ρ i ∧ ¬ aI ρ 109 i.toNatClampNeg = 0) ↔ ∃ x ∈ GlW N s z L T, fiS z x.1 = i.toInt) ∧ ∀ x ∈ GlW N s z L T, fiS z x.1 = i.toInt → aL ρ 110 i.toNatClampNeg = x.2.1 ∧ (¬ aI ρ 111 i.toNatClampNeg = 0 ↔ x.2.2 = true) := by sorry
end
/-! what the class asks of a program is what the reference asks -/
def CeQ (C D : CxT) : Prop := C.1 = D.1 ∧ C.2.2 = D.2.2 ∧ ∀ v, v < C.2.2.1 → C.2.1 v = D.2.1 v
theorem ite_iff {α : Type} {p q : Prop} [Decidable p] [Decidable q] (h : p ↔ q) {a b : α} : (if p then a else b) = if q then a else b := by sorry
section
variable {C D : CxT} {T : TbT} {i : Nat} {x : XrZ} {xs : Nat → XrZ}
theorem CeQ.kn (h : CeQ C D) {l : Int} : knT C l ↔ knT D l := by sorry
theorem CeQ.vt (h : CeQ C D) {l : Int} (q : knT C l) : vtT C l = vtT D l := h.2.2 l.toNat (by omega)
theorem ex_cg (h : CeQ C D) : exT C T i x = exT D T i x := by sorry
theorem st_cg (h : CeQ C D) : stT C T i x = stT D T i x := by sorry
theorem tb_cg (h : CeQ C D) : ∀ i, tbT C xs i = tbT D xs i := by sorry
end
theorem vth_vr {s : SpC} {v : Nat} (h : v < (zVs s).length) : vth s v = vrL (zVs s) v := by sorry
theorem ce_zx {N : Int → Int} {z : ZS} {ms : MfT} : CeQ (CzT N z ms) (CxM N z.1 ms) := by sorry
/-- variables clash or not -/
def C01 (z : ZS) : Prop := ∀ v, clW z v = 0 ∨ clW z v = 1
def C01W (z0 z : ZS) : Prop := C01 z0 → C01 z
section
variable {N : Int → Int} {z0 z z' : ZS} {a b c : ZS} {j n k : Nat}
theorem C01W.e (e : z'.2.2.2.2.2.1 = z.2.2.2.2.2.1) : C01W z z' := fun h v => by
  unfold clW
  rw [e]
  exact h v
theorem C01W.tr (h : C01W a b) (g : C01W b c) : C01W a c := fun q => g (h q)
theorem C01W.dc {ty f h : Int} : C01W z (dcM N ty f h z) := by sorry
theorem C01W.ee : C01W z (eM N n z) := C01W.e (by rw [(ks_lv (N := N) n).1 z])
theorem C01W.va1 {f ty : Int} : C01W z (va1M N j n f ty z) := by sorry
end
theorem c01_w {N : Int → Int} : WkC N C01W := by sorry
theorem c01_all {N : Int → Int} {f : Nat} {s : SpC} : C01 (prM N f (z0S s)) := by sorry
section
variable {N : Int → Int} {σ : RS} {s : SpC} {z : ZS} {L : List Nat} {T : TbT} {g0 : GzA} {J : Nat → Nat}
theorem RdA.df (h : RdA N σ s z) (hL : L.length = (zMs z.1).length) (P : PrD N z L 0 (0, 0, []) (psM z)) (hT : tbT (CxR N z) (fun i => xth z i) (xnM z) = some T) (hok : ∀ y l, (.inr y :: l) <:+ z.2.1 → okS (CxR N z) N T l y) : DfX N (CxR N z) z T (msM N koY kiY z.1) := by sorry
theorem RdA.ok (h : RdA N σ s z) (hL : L.length = (zMs z.1).length) (P : PrD N z L 0 (0, 0, []) (psM z)) : (∀ y l, (.inr y :: l) <:+ z.2.1 → okS (CxR N z) N T l y) ↔ ∀ j, j < snM z → skT N z T (msM N koY kiY z.1) j := by sorry
theorem RdA.up (h : RdA N σ s z) : UpS z ∧ ∀ j, j < snM z → paS z j < (j : Int) := by sorry
/-- the class tells no ERROR where the reference tells none; then it says the same of each S -/
theorem pok_iff (h : RdA N σ s z) (hL : L.length = (zMs z.1).length) (hJ : ∀ i j, L[i]? = some j → J i = j) (P : PrD N z L 0 (0, 0, []) (psM z)) (hg : G0T z g0) : (PokT N z (msM N koY kiY z.1) (zMs z.1).length J (V1W N s) (2 * snM z) g0 T ↔ OkP N s z L T) ∧ (OkP N s z L T → LgR z 0 (snM z) (raL (rcF N z T (2 * snM z)) z (msM N koY kiY z.1) J (zMs z.1).length 0 r00) (GlW N s z L T) ∧ LgA z 0 (snM z) (asL (asF N z T (2 * snM z)) (msM N koY kiY z.1) J (V1W N s) (zMs z.1).length 0 g0) (GlW N s z L T)) := by sorry
end
/-! what each S tells of itself; how many S's there are -/
def SjP (z : ZS) (nm j : Nat) : Prop := (0 ≤ xjS z j → xjS z j < (xnM z : Int) ∧ (xth z (xjS z j).toNat).1.1 ≤ 10) ∧ (kjS z j = 6 → bjS z j = (j : Int) + 1) ∧ (kjS z j = 61 → ∃ l, RwZ z (bjS z j) l ∧ l.Nodup) ∧ (kjS z j = 66 → 0 ≤ ljS z j ∧ ljS z j < (nm : Int))
def SjR (z : ZS) (nm : Nat) (p q : Ps) : Prop := (p.1 ≤ q.1 ∧ q.1 + p.2.2.length ≤ p.1 + q.2.2.length ∧ p.2.2 <:+ q.2.2) ∧ (q.2.2 <:+ z.2.1 → q.1 ≤ snM z → ∀ j, p.1 ≤ j → j < q.1 → SjP z nm j)
section
variable {z : ZS} {nm : Nat} {p q r : Ps} {l m : List ItZ} {n k k' j : Nat}
theorem sf_le {l m : List ItZ} (h : l <:+ m) : l.length ≤ m.length := h.length_le
theorem SjR.rf : SjR z nm p p := by sorry
theorem SjR.tr (h : SjR z nm p q) (g : SjR z nm q r) : SjR z nm p r := by sorry
/-- codes, exps that are laid between -/
theorem SjR.c (h : l <:+ m) : SjR z nm (n, k, l) (n, k', m) := by sorry
/-- an S begins: it has a code of its own -/
theorem SjR.hd (h0 : l <:+ m) (hl : l.length + 1 ≤ m.length) (g : SjR z nm (n + 1, k', m) q) (hj : q.2.2 <:+ z.2.1 → q.1 ≤ snM z → SjP z nm n) : SjR z nm (n, k, l) q := by sorry
theorem sj_no {kd t lv a b o g x lk th : Int} (R : ReD z j (kd, t, lv, a) (b, o, g, x, lk, th)) (hk : ¬ kd = 6 ∧ ¬ kd = 61 ∧ ¬ kd = 66) (hx : 0 ≤ x → x < (xnM z : Int) ∧ (xth z x.toNat).1.1 ≤ 10) : SjP z nm j := by sorry
theorem no_x : (0 : Int) ≤ -1 → (-1 : Int) < (xnM z : Int) ∧ (xth z (-1 : Int).toNat).1.1 ≤ 10 := fun q => absurd q (by decide)
theorem ex_x {lv : Int} {r : XrZ} (h : ExX lv l m r) (g : m <:+ z.2.1) : 0 ≤ (xcZ m : Int) - 1 → (xcZ m : Int) - 1 < (xnM z : Int) ∧ (xth z ((xcZ m : Int) - 1).toNat).1.1 ≤ 10 := by sorry
end
section
variable {N : Int → Int} {M : Int} {z : ZS} {nm : Nat} {St : SsT} {Rw : RsT} {lv : Int}
theorem sj_va {j k : Nat} {kd t lv' a : Int} {l m : List ItZ} (v : VaD z j (kd, t, lv', a) (k : Int) l m) (hk : ¬ kd = 6 ∧ ¬ kd = 61 ∧ ¬ kd = 66) : SjR z nm (j, k, l) (j + 1, k, m) := by sorry
theorem sj_fx {a : Int} : ∀ {L : List Nat} {p q : Ps}, FxD z lv a L p q → SjR z nm p q := by sorry
theorem sj_fi {j : Nat} {o : Int} {p q : Ps} (h : FiD z lv j o p q) : SjR z nm p q := by sorry
theorem sf_fc {k : Nat} {t x : Int} {l m : List ItZ} (h : FcD lv k t x l m) : l <:+ m ∧ (m <:+ z.2.1 → 0 ≤ x → x < (xnM z : Int) ∧ (xth z x.toNat).1.1 ≤ 10) := by sorry
/-- rows: their S's, one behind the other -/
theorem sj_row {sw : Int} {k : Nat} {a : Int} (hS : ∀ a p q, St a p q → SjR z nm p q ∧ p.1 < q.1) : ∀ {L : List Nat} {p q : Ps}, RwD St z lv sw k a L p q → SjR z nm p q ∧ (q.1 ≤ snM z → RwZ z (hdI L) L ∧ L.Nodup ∧ ∀ j ∈ L, p.1 ≤ j) := by sorry
theorem sj_bk {lv' : Int} {a : Int} (hR : ∀ k a L p q, Rw 0 k a L p q → SjR z nm p q) {n k : Nat} {l l0 : List ItZ} {q : Ps} (h0 : l0 <:+ l) (hl : l0.length + 1 ≤ l.length) (h : BkD Rw z lv' a (n, k, l) q) : SjR z nm (n, k, l0) q := by sorry
theorem sj_st (hM : 0 ≤ M ∧ M < (nm : Int)) : ∀ n a p q, StD N M z n a p q → SjR z nm p q ∧ p.1 < q.1 := by sorry
theorem sj_pr : ∀ (L : List Nat) (M : Nat) (p q : Ps), PrD N z L M p q → M + L.length ≤ nm → SjR z nm p q := by sorry
theorem sj_all {L : List Nat} (h : PrD N z L 0 (0, 0, []) (psM z)) (hL : L.length = nm) : snM z ≤ z.2.1.length ∧ ∀ j, j < snM z → SjP z nm j := by sorry
end
/-! all that the class's judge asks of what is read -/
def PuJ (N : Int → Int) (s : SpC) (z : ZS) : Prop :=
  ((∀ i T, i ≤ xnM z → tbT (CzT N z (msM N koY kiY z.1)) (fun i => xth z i) i = some T → TyP z T i) ∧ ∀ T, tbT (CzT N z (msM N koY kiY z.1)) (fun i => xth z i) (xnM z) = some T → WfS z T ∧ UpS z ∧ SxS z) ∧
  ((∀ j, j < snM z → kjS z j = 61 → ∃ l, RwZ z (bjS z j) l ∧ l.Nodup) ∧ (∀ j, j < snM z → kjS z j = 66 → 0 ≤ ljS z j ∧ ∃ m, msM N koY kiY z.1 (ljS z j).toNat = some m) ∧ ∀ j, j < snM z → tjT N z j < (snM z : Int)) ∧
  ((∀ i, i < xnM z → (xth z i).1.1 = 10 → (xth z i).2.2.1.2.1 = (xth z i).2.2.2.headD (-1)) ∧ (∀ i, i < xnM z → (xth z i).1.1 = 10 → 0 ≤ (xth z i).1.2.2.1) ∧ ∀ i, i < xnM z → (xth z i).1.1 = 10 → (xth z i).2.2.2.length ≤ 500) ∧
  ((∀ k, k < (zMs z.1).length → 0 ≤ V1W N s k ∧ V1W N s k ≤ 1000) ∧ (snM z ≤ 100000 ∧ xnM z ≤ 100000) ∧ (zMs z.1).length ≤ 10)
theorem xc_le : ∀ {l : List ItZ}, xcZ l ≤ l.length := by sorry
theorem pu_of {N : Int → Int} {σ : RS} {s : SpC} {z : ZS} (h : RdB N σ s z) : PuJ N s z := by sorry
/-! run: it judges, and leaves the program alone -/
def bnF (k : Nat) : Bool := k == 1 || k == 68
theorem F8.mk {σ τ : RS} (hi : ∀ k, k < 118 → ¬ k = 1 → gI τ k = gI σ k) (ha : ∀ k, k < 118 → ¬ k = 0 → aI τ k = aI σ k) (hl : ∀ k, k < 118 → aL τ k = aL σ k) : F8 σ τ := by sorry
theorem F8.rr {σ τ : RS} (h : Rf σ τ) : F8 σ τ := by sorry
theorem F8.fz {σ τ : RS} (h : Fz σ τ) : F8 σ τ := by sorry
theorem F8.lq {σ τ : RS} (h : LQ σ τ) : F8 σ τ := by sorry
/-- judged, if it was not; then the program stands -/
def HX (σ τ : RS) : Prop := ∃ (X : RS) (b : Int32), EvM 125 [] σ (some (.int b)) X ∧ F8 X τ
theorem HX.tr {σ τ υ : RS} (h : HX σ τ) (g : F8 τ υ) : HX σ υ := by sorry
def P_isGoodE : RP := fun As σ => P_isGood As σ
def Q_isGoodE : RQ := fun As σ w τ => Q_isGood As σ w τ ∧ EvM 125 As σ w τ
theorem m_isGoodE (l : Launch) : RMet l 7 125 P_isGoodE Q_isGoodE := e_isGood l
def P_runh : RP := fun As σ => match As with
  | [.int m, .int limit] => IG σ ∧ (0 ≤ (gI σ 123) ∧ (gI σ 123) ≤ 40) ∧ (0 ≤ (gI σ 148) ∧ (gI σ 148) ≤ 200)
  | _ => False
def Q_runh : RQ := fun As σ w τ => match As with
  | [.int m, .int limit] => ∃ r : Int32, w = some (.int r) ∧ (τ = σ ∨ (JD τ ∧ (Fo σ τ ∧ HX σ τ) ∧ 0 ≤ (gI τ 148) ∧ (gI τ 148) ≤ 200))
  | _ => False
set_option maxRecDepth 100000 in
set_option maxHeartbeats 4000000 in
theorem m_runh (l : Launch) : RMet l 8 151 P_runh Q_runh := by sorry
/-! reading -/
def iFi (k : Nat) : Bool := k == 1 || k == 68 || (119 ≤ k && k ≤ 121)
def gFi (k : Nat) : Bool := false
def aFi (k : Nat) : Bool := k == 0 || k == 118
def lFi (k : Nat) : Bool := false
def Fi (σ τ : RS) : Prop := (∀ k, iFi k = false → gI τ k = gI σ k) ∧ (∀ k, gFi k = false → gL τ k = gL σ k) ∧ (∀ k, aFi k = false → aI τ k = aI σ k) ∧ ∀ k, lFi k = false → aL τ k = aL σ k
theorem Fi.rf {σ : RS} : Fi σ σ := by sorry
theorem Fi.tr {σ τ υ : RS} (h1 : Fi σ τ) (h2 : Fi τ υ) : Fi σ υ := by sorry
theorem Fi.i {σ τ : RS} (h : Fi σ τ) {k : Nat} {v : Int32} (hk : iFi k = true) : Fi σ (sI τ k v) := by sorry
theorem Fi.g {σ τ : RS} (h : Fi σ τ) {k : Nat} {v : Int64} (hk : gFi k = true) : Fi σ (sL τ k v) := by sorry
theorem Fi.a {σ τ : RS} (h : Fi σ τ) {k : Nat} {f : Nat → Int32} (hk : aFi k = true) : Fi σ (sA τ k f) := by sorry
theorem Fi.m {σ τ : RS} (h : Fi σ τ) {k : Nat} {f : Nat → Int64} (hk : lFi k = true) : Fi σ (sM τ k f) := by sorry
theorem PD.fi {σ τ : RS} (h : PD σ) (hf : Fi σ τ) : PD τ := by sorry
/-- a text whose bytes are bytes -/
def Yb (f : Nat → Int32) : Prop := ∀ i, 0 ≤ f i ∧ f i < 256
/-- the text that is kept was read once, and well -/
def PR (n : Int32) (f : Nat → Int32) : Prop := ∃ S T U : RS, (gI S 1 = n ∧ ∀ i, i < nT n → aI S 0 i = f i) ∧ Yb (aI S 0) ∧ WZ S ∧ EvM 6 [] S none T ∧ EvM 37 [] T (some (.int 1)) U
/-- between two calls, but for the program that stands -/
def BV (σ : RS) : Prop := (gI σ 91 = 0 ∧ (0 ≤ gI σ 2 ∧ gI σ 2 ≤ 2590)) ∧ GZ σ ∧ (Yb (aI σ 0) ∧ Yb (aI σ 118)) ∧ ((0 ≤ gI σ 1 ∧ gI σ 1 ≤ 2500) ∧ (0 ≤ gI σ 119 ∧ gI σ 119 ≤ 2500)) ∧ ((0 ≤ gI σ 123 ∧ gI σ 123 ≤ 40) ∧ (0 ≤ gI σ 148 ∧ gI σ 148 ≤ 200)) ∧ PR (gI σ 119) (aI σ 118)
/-- between two calls -/
def IV (σ : RS) : Prop := BV σ ∧ ((gI σ 68 = 0 ∧ PD σ) ∨ JD σ)
theorem IV.g {σ : RS} (h : IV σ) : IG σ := ⟨h.1.1.1, h.1.1.2, h.2⟩
theorem BV.fg {σ τ : RS} (h : BV σ) (hf : Fg σ τ) (h91 : gI τ 91 = 0) : BV τ := by sorry
/-- the cutting keeps it -/
theorem GZ.lex {σ τ : RS} (h : BV σ) (hf : Fl σ τ) (he : EvM 6 [] σ none τ) : GZ τ := by sorry
/-- a reading keeps it -/
theorem BV.lp {σ τ υ : RS} (h : BV σ) (hf : Fl σ τ) (hc : 0 ≤ gI τ 2 ∧ gI τ 2 ≤ 2590) (hq : Fq (zz τ) υ) (hg : GZ τ) : BV υ := by sorry
theorem zz_same {σ τ υ : RS} (hf : Fl σ τ) (hq : Fq (zz τ) υ) : gI υ 1 = gI σ 1 ∧ gI υ 119 = gI σ 119 ∧ gI υ 68 = gI σ 68 ∧ aI υ 0 = aI σ 0 ∧ aI υ 118 = aI σ 118 := by sorry
theorem BV.fi {σ τ : RS} (h : BV σ) (hf : Fi σ τ) (b0 : Yb (aI τ 0)) (b1 : Yb (aI τ 118)) (h1 : 0 ≤ gI τ 1 ∧ gI τ 1 ≤ 2500) (h2 : 0 ≤ gI τ 119 ∧ gI τ 119 ≤ 2500) (hp : PR (gI τ 119) (aI τ 118)) : BV τ := by sorry
/-- read again, the kept text is read well again -/
theorem PR.again {X τ : RS} {r : Int32} {υ : RS} (h : BV X) (h1 : gI X 1 = gI X 119) (ht : ∀ i, i < nT (gI X 119) → aI X 0 i = aI X 118 i) (he : EvM 6 [] X none τ) (hp : EvM 37 [] τ (some (.int r)) υ) : r = 1 := by sorry
def P_lexerE : RP := fun As σ => P_lexer As σ
def Q_lexerE : RQ := fun As σ w τ => Q_lexer As σ w τ ∧ EvM 6 As σ w τ
def P_parseE : RP := fun As σ => P_parse As σ
def Q_parseE : RQ := fun As σ w τ => Q_parse As σ w τ ∧ EvM 37 As σ w τ
/-- what one run of lexer and parse over this tape gives: methods, or a fault -/
def RnG (σ : RS) (m : Int32) : Prop := ∃ T U : RS, EvM 6 [] σ none T ∧ EvM 37 [] T (some (.int 1)) U ∧ m = gI U 36
def RnB (σ : RS) (f : Int32) : Prop := ∃ T U : RS, EvM 6 [] σ none T ∧ EvM 37 [] T (some (.int 0)) U ∧ f = gI U 15
/-- tokens, methods and variables are the same -/
def KpQ (σ τ : RS) : Prop := (gI τ 2 = gI σ 2 ∧ gI τ 36 = gI σ 36 ∧ gI τ 42 = gI σ 42) ∧ ∀ k, [3, 4, 5, 6, 37, 38, 39, 40, 43, 44, 45, 46].elem k = true → aI τ k = aI σ k
theorem el_q {k : Nat} (h : [3, 4, 5, 6, 37, 38, 39, 40, 43, 44, 45, 46].elem k = true) : k = 3 ∨ k = 4 ∨ k = 5 ∨ k = 6 ∨ k = 37 ∨ k = 38 ∨ k = 39 ∨ k = 40 ∨ k = 43 ∨ k = 44 ∨ k = 45 ∨ k = 46 := by sorry
theorem KpQ.rf {σ : RS} : KpQ σ σ := ⟨⟨rfl, rfl, rfl⟩, fun _ _ => rfl⟩
theorem KpQ.tr {σ τ υ : RS} (h : KpQ σ τ) (g : KpQ τ υ) : KpQ σ υ := by sorry
theorem KpQ.a {σ τ : RS} {j : Nat} {f : Nat → Int32} (h : KpQ σ τ) (hj : [3, 4, 5, 6, 37, 38, 39, 40, 43, 44, 45, 46].elem j = false) : KpQ σ (sA τ j f) := by sorry
theorem KpQ.fg {σ τ : RS} (h : Fg σ τ) : KpQ σ τ := by sorry
theorem KpQ.fi {σ τ : RS} (h : Fi σ τ) : KpQ σ τ := by sorry
theorem F9.fi {σ τ : RS} (h : Fi σ τ) : F9 σ τ := by sorry
/-- parse leaves the tokens alone -/
def KpT (T U : RS) : Prop := gI U 2 = gI T 2 ∧ aI U 3 = aI T 3 ∧ aI U 4 = aI T 4 ∧ aI U 5 = aI T 5 ∧ aI U 6 = aI T 6
theorem KpT.q {T U : RS} (h : Fq (zz T) U) : KpT T U := by sorry
/-- the program that stands: what a run of lexer and parse over the text X gives -/
def RnG2 (σ X : RS) : Prop := ∃ T U : RS, EvM 6 [] σ none T ∧ EvM 37 [] T (some (.int 1)) U ∧ KpT T U ∧ KpQ U X ∧ F9 U X
theorem RnG2.fi {σ X Y : RS} (h : RnG2 σ X) (f : Fi X Y) : RnG2 σ Y := by sorry
def RnG3 (σ τ : RS) : Prop := gI τ 119 = gI σ 1 ∧ ∀ i, i < nT (gI σ 1) → aI τ 118 i = aI σ 0 i
def RnB2 (σ τ : RS) : Prop := (∃ X T U : RS, (gI X 1 = gI σ 119 ∧ Yb (aI X 0) ∧ ∀ i, i < nT (gI σ 119) → aI X 0 i = aI σ 118 i) ∧ EvM 6 [] X none T ∧ EvM 37 [] T (some (.int 1)) U ∧ KpT T U ∧ KpQ U τ ∧ ((gI σ 68 = 0 ∧ gI τ 68 = 0 ∧ F9 U τ) ∨ (¬ gI σ 68 = 0 ∧ ∃ V, F9 U V ∧ gI V 91 = 0 ∧ EvM 82 [] V none τ))) ∧ (gI τ 119 = gI σ 119 ∧ aI τ 118 = aI σ 118)
def RnX (σ : RS) (r : Int32) (τ : RS) : Prop := (r = gI τ 36 ∧ (RnG2 σ τ ∧ gI τ 68 = 0) ∧ RnG3 σ τ) ∨ (∃ f, RnB σ f ∧ r = -10 - f) ∧ RnB2 σ τ
theorem m_lexerE (l : Launch) : RMet l 3 6 P_lexerE Q_lexerE := e_lexer l
theorem m_parseE (l : Launch) : RMet l 13 37 P_parseE Q_parseE := e_parse l
def P_judgeAllE : RP := fun As σ => P_judgeAll As σ
def Q_judgeAllE : RQ := fun As σ w τ => Q_judgeAll As σ w τ ∧ EvM 82 As σ w τ
theorem m_judgeAllE (l : Launch) : RMet l 6 82 P_judgeAllE Q_judgeAllE := e_judgeAll l
def P_read : RP := fun As σ => match As with
  | [] => IV σ
  | _ => False
def Q_read : RQ := fun As σ w τ => match As with
  | [] => ∃ r : Int32, w = some (.int r) ∧ IV τ ∧ (gI τ 1 = 0 ∧ gI τ 123 = gI σ 123) ∧ RnX σ r τ
  | _ => False
set_option maxRecDepth 100000 in
set_option maxHeartbeats 4000000 in
theorem m_read (l : Launch) : RMet l 14 123 P_read Q_read := by sorry
/-! what each call keeps -/
def iFn (k : Nat) : Bool := k == 1 || k == 120 || k == 121 || k == 123
def gFn (k : Nat) : Bool := false
def aFn (k : Nat) : Bool := k == 0 || k == 122
def lFn (k : Nat) : Bool := k == 124
def Fn (σ τ : RS) : Prop := (∀ k, iFn k = false → gI τ k = gI σ k) ∧ (∀ k, gFn k = false → gL τ k = gL σ k) ∧ (∀ k, aFn k = false → aI τ k = aI σ k) ∧ ∀ k, lFn k = false → aL τ k = aL σ k
theorem Fn.rf {σ : RS} : Fn σ σ := by sorry
theorem Fn.tr {σ τ υ : RS} (h1 : Fn σ τ) (h2 : Fn τ υ) : Fn σ υ := by sorry
theorem Fn.i {σ τ : RS} (h : Fn σ τ) {k : Nat} {v : Int32} (hk : iFn k = true) : Fn σ (sI τ k v) := by sorry
theorem Fn.g {σ τ : RS} (h : Fn σ τ) {k : Nat} {v : Int64} (hk : gFn k = true) : Fn σ (sL τ k v) := by sorry
theorem Fn.a {σ τ : RS} (h : Fn σ τ) {k : Nat} {f : Nat → Int32} (hk : aFn k = true) : Fn σ (sA τ k f) := by sorry
theorem Fn.m {σ τ : RS} (h : Fn σ τ) {k : Nat} {f : Nat → Int64} (hk : lFn k = true) : Fn σ (sM τ k f) := by sorry
theorem PK.fn {σ τ : RS} (h : PK σ) (hf : Fn σ τ) : PK τ := by sorry
theorem JD.fn {σ τ : RS} (h : JD σ) (hf : Fn σ τ) : JD τ := by sorry
theorem PD.fn {σ τ : RS} (h : PD σ) (hf : Fn σ τ) : PD τ := by sorry
theorem IV.fn {σ τ : RS} (h : IV σ) (hf : Fn σ τ) (hb : Yb (aI τ 0)) (h1 : 0 ≤ gI τ 1 ∧ gI τ 1 ≤ 2500) (h2 : 0 ≤ gI τ 123 ∧ gI τ 123 ≤ 40) : IV τ := by sorry
theorem IV.fg {σ τ : RS} (h : IV σ) (hf : Fg σ τ) (hj : JD τ) : IV τ := ⟨h.1.fg hf hj.2.1.2.1, Or.inr hj⟩
theorem IV.fo {σ τ : RS} (h : IV σ) (hf : Fo σ τ) (hj : JD τ) (h8 : 0 ≤ gI τ 148 ∧ gI τ 148 ≤ 200) : IV τ := by sorry
def N3 (σ : RS) : Prop := (0 ≤ gI σ 42 ∧ gI σ 42 ≤ 60) ∧ (0 ≤ gI σ 36 ∧ gI σ 36 ≤ 10) ∧ ∀ m, m < nT (gI σ 36) → (0 ≤ aI σ 39 m ∧ aI σ 39 m ≤ 6) ∧ (0 ≤ aI σ 40 m ∧ aI σ 40 m + aI σ 39 m ≤ gI σ 42 ∧ aI σ 40 m ≤ gI σ 42)
theorem PK.n3 {σ : RS} (h : PK σ) : N3 σ := by sorry
theorem IV.n3 {σ : RS} (h : IV σ) : N3 σ := h.2.elim (fun q => q.2.k.n3) (fun q => q.1.n3)
theorem RMet.mono {l : Launch} {lev μ : Nat} {P P' : RP} {Q Q' : RQ} (h : RMet l lev μ P Q) (hP : ∀ As σ, P' As σ → P As σ) (hQ : ∀ As σ w τ, P' As σ → Q As σ w τ → Q' As σ w τ) : RMet l lev μ P' Q' := by sorry
theorem yb_and (x : Int32) : 0 ≤ x &&& 255 ∧ x &&& 255 < 256 := by sorry
theorem nT_ad {x : Int32} (h0 : 0 ≤ x) (h1 : x ≤ 2500) (j : Nat) (hj : j ≤ 30) : nT (x + Int32.ofNat j) = nT x + j := by sorry
/-- and the text that is kept -/
def KpA (σ τ : RS) : Prop := KpQ σ τ ∧ gI τ 119 = gI σ 119 ∧ aI τ 118 = aI σ 118
theorem KpA.rf {σ : RS} : KpA σ σ := ⟨KpQ.rf, rfl, rfl⟩
theorem KpA.tr {σ τ υ : RS} (h : KpA σ τ) (g : KpA τ υ) : KpA σ υ := ⟨h.1.tr g.1, g.2.1.trans h.2.1, g.2.2.trans h.2.2⟩
theorem KpA.fg {σ τ : RS} (h : Fg σ τ) : KpA σ τ := ⟨KpQ.fg h, h.1 119 rfl, h.2.2.1 118 rfl⟩
theorem KpA.fn {σ τ : RS} (h : Fn σ τ) : KpA σ τ := by sorry
theorem KpA.fo {σ τ : RS} (h : Fo σ τ) : KpA σ τ := by sorry
theorem F8.fn {σ τ : RS} (h : Fn σ τ) : F8 σ τ := by sorry
theorem yb_upd {f : Nat → Int32} {k : Nat} {x : Int32} (h : Yb f) : Yb (upd f k (x &&& 255)) := by sorry
theorem Int32.le_or_lt_z (x : Int32) : 0 < x ∨ ¬ 0 < x := Decidable.em _
def P_lay2 : RP := fun As σ => match As with
  | [.int v] => (0 ≤ (gI σ 1) ∧ (gI σ 1) ≤ 2496) ∧ Yb (aI σ 0)
  | _ => False
def Q_lay2 : RQ := fun As σ w τ => match As with
  | [.int v] => w = none ∧ Fy σ τ ∧ (gI τ 1) = (gI σ 1) + 4 ∧ Yb (aI τ 0) ∧ aI τ 0 = apk (aI σ 0) (nT (gI σ 1)) v 4
  | _ => False
set_option maxRecDepth 100000 in
set_option maxHeartbeats 4000000 in
theorem m_lay2 (l : Launch) : RMet l 1 1 P_lay2 Q_lay2 := by sorry
def P_feed2 : RP := fun As σ => match As with
  | [.int a, .int b, .int c, .int d, .int e] => (0 ≤ (gI σ 1) ∧ (gI σ 1) ≤ 2500) ∧ Yb (aI σ 0)
  | _ => False
def Q_feed2 : RQ := fun As σ w τ => match As with
  | [.int a, .int b, .int c, .int d, .int e] => (2500 < (gI σ 1) + 20 ∧ w = some (.int (-3)) ∧ τ = σ) ∨ ((gI σ 1) + 20 ≤ 2500 ∧ w = some (.int (gI τ 1)) ∧ gI τ 1 = gI σ 1 + 20 ∧ Fy σ τ ∧ (0 ≤ gI τ 1 ∧ gI τ 1 ≤ 2500) ∧ Yb (aI τ 0) ∧ aI τ 0 = fdk (aI σ 0) (nT (gI σ 1)) a b c d e)
  | _ => False
set_option maxRecDepth 100000 in
set_option maxHeartbeats 4000000 in
theorem m_feed2 (l : Launch) : RMet l 2 0 P_feed2 Q_feed2 := by sorry
def P_variable3 : RP := fun As σ => match As with
  | [.int k, .int what] => N3 σ
  | _ => False
def Q_variable3 : RQ := fun As σ w τ => match As with
  | [.int k, .int what] => ∃ r : Int32, w = some (.int r) ∧ τ = σ
  | _ => False
set_option maxRecDepth 100000 in
set_option maxHeartbeats 4000000 in
theorem m_variable3 (l : Launch) : RMet l 1 132 P_variable3 Q_variable3 := by sorry
def P_method3 : RP := fun As σ => match As with
  | [.int k, .int what] => N3 σ
  | _ => False
def Q_method3 : RQ := fun As σ w τ => match As with
  | [.int k, .int what] => ∃ r : Int32, w = some (.int r) ∧ τ = σ ∧ (((k < 0 ∨ gI σ 36 ≤ k) ∧ r = -1) ∨ ((0 ≤ k ∧ k < gI σ 36) ∧ (((10 ≤ what ∧ what < 10 + aI σ 39 k.toNatClampNeg) ∧ r = aI σ 44 (nT (aI σ 40 k.toNatClampNeg + what - 10))) ∨ (¬ (10 ≤ what ∧ what < 10 + aI σ 39 k.toNatClampNeg) ∧ ((what = 0 ∧ r = aI σ 37 k.toNatClampNeg) ∨ (what = 1 ∧ r = aI σ 38 k.toNatClampNeg) ∨ (what = 2 ∧ r = aI σ 39 k.toNatClampNeg) ∨ ((¬ what = 0 ∧ ¬ what = 1 ∧ ¬ what = 2) ∧ r = -1))))))
  | _ => False
set_option maxRecDepth 100000 in
set_option maxHeartbeats 4000000 in
theorem m_method3 (l : Launch) : RMet l 1 131 P_method3 Q_method3 := by sorry
def Pi_feed : RP := fun As σ => match As with
  | [.int a, .int b, .int c, .int d, .int e] => IV σ
  | _ => False
def Qi_feed : RQ := fun As σ w τ => match As with
  | [.int a, .int b, .int c, .int d, .int e] => ((2500 < gI σ 1 + 20 ∧ w = some (.int (-3)) ∧ gI τ 1 = gI σ 1) ∨ (gI σ 1 + 20 ≤ 2500 ∧ w = some (.int (gI τ 1)) ∧ gI τ 1 = gI σ 1 + 20)) ∧ IV τ ∧ gI τ 123 = gI σ 123 ∧ KpA σ τ ∧ ((2500 < gI σ 1 + 20 ∧ aI τ 0 = aI σ 0) ∨ (gI σ 1 + 20 ≤ 2500 ∧ aI τ 0 = fdk (aI σ 0) (nT (gI σ 1)) a b c d e))
  | _ => False
theorem pi_feed (As : List Value) (σ : RS) (h : Pi_feed As σ) : P_feed2 As σ := by sorry
theorem qi_feed (As : List Value) (σ : RS) (w : Option Value) (τ : RS) (h : Pi_feed As σ) (hq : Q_feed2 As σ w τ) : Qi_feed As σ w τ := by sorry
theorem i_feed (l : Launch) : RMet l 2 0 Pi_feed Qi_feed := RMet.mono (m_feed2 l) pi_feed qi_feed
theorem q8_feed (As : List Value) (σ : RS) (w : Option Value) (τ : RS) (h : Pi_feed As σ) (hq : Q_feed2 As σ w τ) : F8 σ τ := by sorry
theorem i8_feed (l : Launch) : RMet l 2 0 Pi_feed (fun As σ w τ => Qi_feed As σ w τ ∧ F8 σ τ) := by sorry
def Pi_cut : RP := fun As σ => match As with
  | [.int n] => IV σ
  | _ => False
def Qi_cut : RQ := fun As σ w τ => match As with
  | [.int n] => (((n < 0 ∨ gI σ 1 < n) ∧ w = some (.int (-1)) ∧ gI τ 1 = gI σ 1) ∨ ((0 ≤ n ∧ n ≤ gI σ 1) ∧ w = some (.int (gI τ 1)) ∧ gI τ 1 = gI σ 1 - n)) ∧ IV τ ∧ gI τ 123 = gI σ 123 ∧ aI τ 0 = aI σ 0 ∧ KpA σ τ
  | _ => False
theorem pi_cut (As : List Value) (σ : RS) (h : Pi_cut As σ) : P_cut As σ := by sorry
theorem qi_cut (As : List Value) (σ : RS) (w : Option Value) (τ : RS) (h : Pi_cut As σ) (hq : Q_cut As σ w τ) : Qi_cut As σ w τ := by sorry
theorem i_cut (l : Launch) : RMet l 1 2 Pi_cut Qi_cut := RMet.mono (m_cut l) pi_cut qi_cut
theorem q8_cut (As : List Value) (σ : RS) (w : Option Value) (τ : RS) (h : Pi_cut As σ) (hq : Q_cut As σ w τ) : F8 σ τ := by sorry
theorem i8_cut (l : Launch) : RMet l 1 2 Pi_cut (fun As σ w τ => Qi_cut As σ w τ ∧ F8 σ τ) := by sorry
def Pi_read : RP := fun As σ => match As with
  | [] => IV σ
  | _ => False
def Qi_read : RQ := fun As σ w τ => match As with
  | [] => (∃ r : Int32, w = some (.int r) ∧ RnX σ r τ) ∧ IV τ ∧ (gI τ 1 = 0 ∧ gI τ 123 = gI σ 123)
  | _ => False
theorem pi_read (As : List Value) (σ : RS) (h : Pi_read As σ) : P_read As σ := by sorry
theorem qi_read (As : List Value) (σ : RS) (w : Option Value) (τ : RS) (h : Pi_read As σ) (hq : Q_read As σ w τ) : Qi_read As σ w τ := by sorry
theorem i_read (l : Launch) : RMet l 14 123 Pi_read Qi_read := RMet.mono (m_read l) pi_read qi_read
def Pi_place : RP := fun As σ => match As with
  | [] => IV σ
  | _ => False
def Qi_place : RQ := fun As σ w τ => match As with
  | [] => (∃ r : Int32, w = some (.int r)) ∧ IV τ ∧ (gI τ 1 = gI σ 1 ∧ gI τ 123 = gI σ 123 ∧ aI τ 0 = aI σ 0 ∧ KpA σ τ)
  | _ => False
theorem pi_place (As : List Value) (σ : RS) (h : Pi_place As σ) : P_place As σ := by sorry
theorem qi_place (As : List Value) (σ : RS) (w : Option Value) (τ : RS) (h : Pi_place As σ) (hq : Q_place As σ w τ) : Qi_place As σ w τ := by sorry
theorem i_place (l : Launch) : RMet l 1 124 Pi_place Qi_place := RMet.mono (m_place l) pi_place qi_place
theorem q8_place (As : List Value) (σ : RS) (w : Option Value) (τ : RS) (h : Pi_place As σ) (hq : Q_place As σ w τ) : F8 σ τ := by sorry
theorem i8_place (l : Launch) : RMet l 1 124 Pi_place (fun As σ w τ => Qi_place As σ w τ ∧ F8 σ τ) := by sorry
def Pi_judge : RP := fun As σ => match As with
  | [] => IV σ
  | _ => False
def Qi_judge : RQ := fun As σ w τ => match As with
  | [] => (∃ r : Int32, w = some (.int r)) ∧ IV τ ∧ (gI τ 1 = gI σ 1 ∧ gI τ 123 = gI σ 123 ∧ aI τ 0 = aI σ 0 ∧ KpA σ τ)
  | _ => False
theorem pi_judge (As : List Value) (σ : RS) (h : Pi_judge As σ) : P_judge As σ := by sorry
theorem qi_judge (As : List Value) (σ : RS) (w : Option Value) (τ : RS) (h : Pi_judge As σ) (hq : Q_judge As σ w τ) : Qi_judge As σ w τ := by sorry
theorem i_judge (l : Launch) : RMet l 8 126 Pi_judge Qi_judge := RMet.mono (m_judge l) pi_judge qi_judge
theorem i8_judge (l : Launch) : RMet l 8 126 Pi_judge (fun As σ w τ => Qi_judge As σ w τ ∧ EvM 126 As σ w τ) := by sorry
def Pi_told : RP := fun As σ => match As with
  | [.int what] => IV σ
  | _ => False
def Qi_told : RQ := fun As σ w τ => match As with
  | [.int what] => (∃ r : Int32, w = some (.int r)) ∧ IV τ ∧ (gI τ 1 = gI σ 1 ∧ gI τ 123 = gI σ 123 ∧ aI τ 0 = aI σ 0 ∧ KpA σ τ)
  | _ => False
theorem pi_told (As : List Value) (σ : RS) (h : Pi_told As σ) : P_told2 As σ := by sorry
theorem qi_told (As : List Value) (σ : RS) (w : Option Value) (τ : RS) (h : Pi_told As σ) (hq : Q_told2 As σ w τ) : Qi_told As σ w τ := by sorry
theorem i_told (l : Launch) : RMet l 2 128 Pi_told Qi_told := RMet.mono (m_told2 l) pi_told qi_told
theorem q8_told (As : List Value) (σ : RS) (w : Option Value) (τ : RS) (h : Pi_told As σ) (hq : Q_told2 As σ w τ) : F8 σ τ := by sorry
theorem i8_told (l : Launch) : RMet l 2 128 Pi_told (fun As σ w τ => Qi_told As σ w τ ∧ F8 σ τ) := by sorry
def Pi_token : RP := fun As σ => match As with
  | [.int i, .int what] => IV σ
  | _ => False
def Qi_token : RQ := fun As σ w τ => match As with
  | [.int i, .int what] => (∃ r : Int32, w = some (.int r)) ∧ IV τ ∧ (gI τ 1 = gI σ 1 ∧ gI τ 123 = gI σ 123 ∧ aI τ 0 = aI σ 0 ∧ KpA σ τ)
  | _ => False
theorem pi_token (As : List Value) (σ : RS) (h : Pi_token As σ) : P_token As σ := by sorry
theorem qi_token (As : List Value) (σ : RS) (w : Option Value) (τ : RS) (h : Pi_token As σ) (hq : Q_token As σ w τ) : Qi_token As σ w τ := by sorry
theorem i_token (l : Launch) : RMet l 3 130 Pi_token Qi_token := RMet.mono (m_token l) pi_token qi_token
theorem q8_token (As : List Value) (σ : RS) (w : Option Value) (τ : RS) (h : Pi_token As σ) (hq : Q_token As σ w τ) : F8 σ τ := by sorry
theorem i8_token (l : Launch) : RMet l 3 130 Pi_token (fun As σ w τ => Qi_token As σ w τ ∧ F8 σ τ) := by sorry
def Pi_method : RP := fun As σ => match As with
  | [.int k, .int what] => IV σ
  | _ => False
def Qi_method : RQ := fun As σ w τ => match As with
  | [.int k, .int what] => (∃ r : Int32, w = some (.int r) ∧ (((k < 0 ∨ gI σ 36 ≤ k) ∧ r = -1) ∨ ((0 ≤ k ∧ k < gI σ 36) ∧ (((10 ≤ what ∧ what < 10 + aI σ 39 k.toNatClampNeg) ∧ r = aI σ 44 (nT (aI σ 40 k.toNatClampNeg + what - 10))) ∨ (¬ (10 ≤ what ∧ what < 10 + aI σ 39 k.toNatClampNeg) ∧ ((what = 0 ∧ r = aI σ 37 k.toNatClampNeg) ∨ (what = 1 ∧ r = aI σ 38 k.toNatClampNeg) ∨ (what = 2 ∧ r = aI σ 39 k.toNatClampNeg) ∨ ((¬ what = 0 ∧ ¬ what = 1 ∧ ¬ what = 2) ∧ r = -1))))))) ∧ IV τ ∧ (gI τ 1 = gI σ 1 ∧ gI τ 123 = gI σ 123 ∧ aI τ 0 = aI σ 0 ∧ KpA σ τ)
  | _ => False
theorem pi_method (As : List Value) (σ : RS) (h : Pi_method As σ) : P_method3 As σ := by sorry
theorem qi_method (As : List Value) (σ : RS) (w : Option Value) (τ : RS) (h : Pi_method As σ) (hq : Q_method3 As σ w τ) : Qi_method As σ w τ := by sorry
theorem i_method (l : Launch) : RMet l 1 131 Pi_method Qi_method := RMet.mono (m_method3 l) pi_method qi_method
theorem q8_method (As : List Value) (σ : RS) (w : Option Value) (τ : RS) (h : Pi_method As σ) (hq : Q_method3 As σ w τ) : F8 σ τ := by sorry
theorem i8_method (l : Launch) : RMet l 1 131 Pi_method (fun As σ w τ => Qi_method As σ w τ ∧ F8 σ τ) := by sorry
def Pi_variable : RP := fun As σ => match As with
  | [.int k, .int what] => IV σ
  | _ => False
def Qi_variable : RQ := fun As σ w τ => match As with
  | [.int k, .int what] => (∃ r : Int32, w = some (.int r)) ∧ IV τ ∧ (gI τ 1 = gI σ 1 ∧ gI τ 123 = gI σ 123 ∧ aI τ 0 = aI σ 0 ∧ KpA σ τ)
  | _ => False
theorem pi_variable (As : List Value) (σ : RS) (h : Pi_variable As σ) : P_variable3 As σ := by sorry
theorem qi_variable (As : List Value) (σ : RS) (w : Option Value) (τ : RS) (h : Pi_variable As σ) (hq : Q_variable3 As σ w τ) : Qi_variable As σ w τ := by sorry
theorem i_variable (l : Launch) : RMet l 1 132 Pi_variable Qi_variable := RMet.mono (m_variable3 l) pi_variable qi_variable
theorem q8_variable (As : List Value) (σ : RS) (w : Option Value) (τ : RS) (h : Pi_variable As σ) (hq : Q_variable3 As σ w τ) : F8 σ τ := by sorry
theorem i8_variable (l : Launch) : RMet l 1 132 Pi_variable (fun As σ w τ => Qi_variable As σ w τ ∧ F8 σ τ) := by sorry
def Pi_means : RP := fun As σ => match As with
  | [.int i] => IV σ
  | _ => False
def Qi_means : RQ := fun As σ w τ => match As with
  | [.int i] => (∃ r : Int32, w = some (.int r)) ∧ IV τ ∧ (gI τ 1 = gI σ 1 ∧ gI τ 123 = gI σ 123 ∧ aI τ 0 = aI σ 0 ∧ KpA σ τ)
  | _ => False
theorem pi_means (As : List Value) (σ : RS) (h : Pi_means As σ) : P_means As σ := by sorry
theorem qi_means (As : List Value) (σ : RS) (w : Option Value) (τ : RS) (h : Pi_means As σ) (hq : Q_means As σ w τ) : Qi_means As σ w τ := by sorry
theorem i_means (l : Launch) : RMet l 8 133 Pi_means Qi_means := RMet.mono (m_means l) pi_means qi_means
theorem i8_means (l : Launch) : RMet l 8 133 Pi_means (fun As σ w τ => Qi_means As σ w τ ∧ EvM 133 As σ w τ) := by sorry
def Pi_type : RP := fun As σ => match As with
  | [.int i, .int k] => IV σ
  | _ => False
def Qi_type : RQ := fun As σ w τ => match As with
  | [.int i, .int k] => (∃ r : Int32, w = some (.int r)) ∧ IV τ ∧ (gI τ 1 = gI σ 1 ∧ gI τ 123 = gI σ 123 ∧ aI τ 0 = aI σ 0 ∧ KpA σ τ)
  | _ => False
theorem pi_type (As : List Value) (σ : RS) (h : Pi_type As σ) : P_type As σ := by sorry
theorem qi_type (As : List Value) (σ : RS) (w : Option Value) (τ : RS) (h : Pi_type As σ) (hq : Q_type As σ w τ) : Qi_type As σ w τ := by sorry
theorem i_type (l : Launch) : RMet l 8 135 Pi_type Qi_type := RMet.mono (m_type l) pi_type qi_type
theorem i8_type (l : Launch) : RMet l 8 135 Pi_type (fun As σ w τ => Qi_type As σ w τ ∧ EvM 135 As σ w τ) := by sorry
def Pi_constant : RP := fun As σ => match As with
  | [.int i, .int k] => IV σ
  | _ => False
def Qi_constant : RQ := fun As σ w τ => match As with
  | [.int i, .int k] => (∃ r : Int64, w = some (.long r)) ∧ IV τ ∧ (gI τ 1 = gI σ 1 ∧ gI τ 123 = gI σ 123 ∧ aI τ 0 = aI σ 0 ∧ KpA σ τ)
  | _ => False
theorem pi_constant (As : List Value) (σ : RS) (h : Pi_constant As σ) : P_constant As σ := by sorry
theorem qi_constant (As : List Value) (σ : RS) (w : Option Value) (τ : RS) (h : Pi_constant As σ) (hq : Q_constant As σ w τ) : Qi_constant As σ w τ := by sorry
theorem i_constant (l : Launch) : RMet l 8 136 Pi_constant Qi_constant := RMet.mono (m_constant l) pi_constant qi_constant
theorem i8_constant (l : Launch) : RMet l 8 136 Pi_constant (fun As σ w τ => Qi_constant As σ w τ ∧ EvM 136 As σ w τ) := by sorry
def Pi_ends : RP := fun As σ => match As with
  | [.int i] => IV σ
  | _ => False
def Qi_ends : RQ := fun As σ w τ => match As with
  | [.int i] => (∃ r : Int32, w = some (.int r)) ∧ IV τ ∧ (gI τ 1 = gI σ 1 ∧ gI τ 123 = gI σ 123 ∧ aI τ 0 = aI σ 0 ∧ KpA σ τ)
  | _ => False
theorem pi_ends (As : List Value) (σ : RS) (h : Pi_ends As σ) : P_ends As σ := by sorry
theorem qi_ends (As : List Value) (σ : RS) (w : Option Value) (τ : RS) (h : Pi_ends As σ) (hq : Q_ends As σ w τ) : Qi_ends As σ w τ := by sorry
theorem i_ends (l : Launch) : RMet l 8 137 Pi_ends Qi_ends := RMet.mono (m_ends l) pi_ends qi_ends
theorem i8_ends (l : Launch) : RMet l 8 137 Pi_ends (fun As σ w τ => Qi_ends As σ w τ ∧ EvM 137 As σ w τ) := by sorry
def Pi_assigned : RP := fun As σ => match As with
  | [.int i, .int k] => IV σ
  | _ => False
def Qi_assigned : RQ := fun As σ w τ => match As with
  | [.int i, .int k] => (∃ r : Int32, w = some (.int r)) ∧ IV τ ∧ (gI τ 1 = gI σ 1 ∧ gI τ 123 = gI σ 123 ∧ aI τ 0 = aI σ 0 ∧ KpA σ τ)
  | _ => False
theorem pi_assigned (As : List Value) (σ : RS) (h : Pi_assigned As σ) : P_assigned As σ := by sorry
theorem qi_assigned (As : List Value) (σ : RS) (w : Option Value) (τ : RS) (h : Pi_assigned As σ) (hq : Q_assigned As σ w τ) : Qi_assigned As σ w τ := by sorry
theorem i_assigned (l : Launch) : RMet l 8 138 Pi_assigned Qi_assigned := RMet.mono (m_assigned l) pi_assigned qi_assigned
theorem i8_assigned (l : Launch) : RMet l 8 138 Pi_assigned (fun As σ w τ => Qi_assigned As σ w τ ∧ EvM 138 As σ w τ) := by sorry
def Pi_argument : RP := fun As σ => match As with
  | [.int i, .long v] => IV σ
  | _ => False
def Qi_argument : RQ := fun As σ w τ => match As with
  | [.int i, .long v] => (((i < 0 ∨ 5 < i) ∧ w = some (.int (-1))) ∨ ((0 ≤ i ∧ i ≤ 5) ∧ w = some (.int 1))) ∧ IV τ ∧ (gI τ 1 = gI σ 1 ∧ gI τ 123 = gI σ 123 ∧ aI τ 0 = aI σ 0 ∧ KpA σ τ)
  | _ => False
theorem pi_argument (As : List Value) (σ : RS) (h : Pi_argument As σ) : P_argument As σ := by sorry
theorem qi_argument (As : List Value) (σ : RS) (w : Option Value) (τ : RS) (h : Pi_argument As σ) (hq : Q_argument As σ w τ) : Qi_argument As σ w τ := by sorry
theorem i_argument (l : Launch) : RMet l 1 139 Pi_argument Qi_argument := RMet.mono (m_argument l) pi_argument qi_argument
theorem q8_argument (As : List Value) (σ : RS) (w : Option Value) (τ : RS) (h : Pi_argument As σ) (hq : Q_argument As σ w τ) : F8 σ τ := by sorry
theorem i8_argument (l : Launch) : RMet l 1 139 Pi_argument (fun As σ w τ => Qi_argument As σ w τ ∧ F8 σ τ) := by sorry
def Pi_input : RP := fun As σ => match As with
  | [.int v] => IV σ
  | _ => False
def Qi_input : RQ := fun As σ w τ => match As with
  | [.int v] => ((gI σ 123 = 40 ∧ w = some (.int (-3)) ∧ gI τ 123 = gI σ 123) ∨ (gI σ 123 < 40 ∧ w = some (.int (gI τ 123)) ∧ gI τ 123 = gI σ 123 + 1)) ∧ IV τ ∧ gI τ 1 = gI σ 1 ∧ aI τ 0 = aI σ 0 ∧ KpA σ τ
  | _ => False
theorem pi_input (As : List Value) (σ : RS) (h : Pi_input As σ) : P_input As σ := by sorry
theorem qi_input (As : List Value) (σ : RS) (w : Option Value) (τ : RS) (h : Pi_input As σ) (hq : Q_input As σ w τ) : Qi_input As σ w τ := by sorry
theorem i_input (l : Launch) : RMet l 1 140 Pi_input Qi_input := RMet.mono (m_input l) pi_input qi_input
theorem q8_input (As : List Value) (σ : RS) (w : Option Value) (τ : RS) (h : Pi_input As σ) (hq : Q_input As σ w τ) : F8 σ τ := by sorry
theorem i8_input (l : Launch) : RMet l 1 140 Pi_input (fun As σ w τ => Qi_input As σ w τ ∧ F8 σ τ) := by sorry
def Pi_drain : RP := fun As σ => match As with
  | [] => IV σ
  | _ => False
def Qi_drain : RQ := fun As σ w τ => match As with
  | [] => (w = some (.int (gI σ 123)) ∧ gI τ 123 = 0) ∧ IV τ ∧ gI τ 1 = gI σ 1 ∧ aI τ 0 = aI σ 0 ∧ KpA σ τ
  | _ => False
theorem pi_drain (As : List Value) (σ : RS) (h : Pi_drain As σ) : P_drain As σ := by sorry
theorem qi_drain (As : List Value) (σ : RS) (w : Option Value) (τ : RS) (h : Pi_drain As σ) (hq : Q_drain As σ w τ) : Qi_drain As σ w τ := by sorry
theorem i_drain (l : Launch) : RMet l 1 141 Pi_drain Qi_drain := RMet.mono (m_drain l) pi_drain qi_drain
theorem q8_drain (As : List Value) (σ : RS) (w : Option Value) (τ : RS) (h : Pi_drain As σ) (hq : Q_drain As σ w τ) : F8 σ τ := by sorry
theorem i8_drain (l : Launch) : RMet l 1 141 Pi_drain (fun As σ w τ => Qi_drain As σ w τ ∧ F8 σ τ) := by sorry
def Pi_run : RP := fun As σ => match As with
  | [.int k, .int limit] => IV σ
  | _ => False
def Qi_run : RQ := fun As σ w τ => match As with
  | [.int k, .int limit] => (∃ r : Int32, w = some (.int r)) ∧ IV τ ∧ (gI τ 1 = gI σ 1 ∧ gI τ 123 = gI σ 123 ∧ aI τ 0 = aI σ 0 ∧ KpA σ τ)
  | _ => False
theorem pi_run (As : List Value) (σ : RS) (h : Pi_run As σ) : P_runh As σ := by sorry
theorem qi_run (As : List Value) (σ : RS) (w : Option Value) (τ : RS) (h : Pi_run As σ) (hq : Q_runh As σ w τ) : Qi_run As σ w τ := by sorry
theorem i_run (l : Launch) : RMet l 8 151 Pi_run Qi_run := RMet.mono (m_runh l) pi_run qi_run
theorem q8_run (As : List Value) (σ : RS) (w : Option Value) (τ : RS) (h : Pi_run As σ) (hq : Q_runh As σ w τ) : (τ = σ ∨ HX σ τ) := by sorry
theorem i8_run (l : Launch) : RMet l 8 151 Pi_run (fun As σ w τ => Qi_run As σ w τ ∧ (τ = σ ∨ HX σ τ)) := by sorry
def Pi_ran : RP := fun As σ => match As with
  | [.int what] => IV σ
  | _ => False
def Qi_ran : RQ := fun As σ w τ => match As with
  | [.int what] => (∃ r : Int64, w = some (.long r)) ∧ IV τ ∧ (gI τ 1 = gI σ 1 ∧ gI τ 123 = gI σ 123 ∧ aI τ 0 = aI σ 0 ∧ KpA σ τ)
  | _ => False
theorem pi_ran (As : List Value) (σ : RS) (h : Pi_ran As σ) : P_ran As σ := by sorry
theorem qi_ran (As : List Value) (σ : RS) (w : Option Value) (τ : RS) (h : Pi_ran As σ) (hq : Q_ran As σ w τ) : Qi_ran As σ w τ := by sorry
theorem i_ran (l : Launch) : RMet l 1 160 Pi_ran Qi_ran := RMet.mono (m_ran l) pi_ran qi_ran
theorem q8_ran (As : List Value) (σ : RS) (w : Option Value) (τ : RS) (h : Pi_ran As σ) (hq : Q_ran As σ w τ) : F8 σ τ := by sorry
theorem i8_ran (l : Launch) : RMet l 1 160 Pi_ran (fun As σ w τ => Qi_ran As σ w τ ∧ F8 σ τ) := by sorry
/-! judging is noted -/
def K8 (c Y : RS) : Prop := gI Y 68 = gI c 68
section
variable {c Y Z : RS} {k : Nat}
theorem K8.rf : K8 Y Y := rfl
theorem K8.i {v : Int32} (h : K8 c Y) (hk : k ≠ 68) : K8 c (sI Y k v) := (gI_p hk).trans h
theorem K8.a {f : Nat → Int32} (h : K8 c Y) (_ : k ≠ 0 ∨ k = 0) : K8 c (sA Y k f) := h
theorem K8.l {v : Int64} (h : K8 c Y) (_ : k ≠ 0 ∨ k = 0) : K8 c (sL Y k v) := h
theorem K8.m {f : Nat → Int64} (h : K8 c Y) (_ : k ≠ 0 ∨ k = 0) : K8 c (sM Y k f) := h
end
def Pv_errK8 (c : RS) : UP1 := fun A1 σ => match A1 with
  | [.int a1, .int a2] => K8 c σ
  | _ => False
def Qv_errK8 (c : RS) : UQ1 := fun A1 σ w τ => match A1 with
  | [.int a1, .int a2] => (w = none) ∧ K8 c τ
  | _ => False
def Qw_errK8 : UQ1 := fun A1 σ w τ => ∀ (c : RS), Pv_errK8 c A1 σ → Qv_errK8 c A1 σ w τ
set_option maxRecDepth 100000 in
set_option maxHeartbeats 4000000 in
theorem v_errK8 (c : RS) : UMet 70 (Pv_errK8 c) (Qv_errK8 c) := by sorry
theorem w_errK8 : UMet 70 (fun _ _ => True) Qw_errK8 := fun A1 σ _ w τ h c hP => v_errK8 c A1 σ hP w τ h
def Pv_sameNameK8 (c : RS) : UP1 := fun A1 σ => match A1 with
  | [.int a1, .int a2] => K8 c σ
  | _ => False
def Qv_sameNameK8 (c : RS) : UQ1 := fun A1 σ w τ => match A1 with
  | [.int a1, .int a2] => (∃ r : Int32, w = some (.int r)) ∧ K8 c τ
  | _ => False
def Qw_sameNameK8 : UQ1 := fun A1 σ w τ => ∀ (c : RS), Pv_sameNameK8 c A1 σ → Qv_sameNameK8 c A1 σ w τ
set_option maxRecDepth 100000 in
set_option maxHeartbeats 4000000 in
theorem v_sameNameK8 (c : RS) : UMet 63 (Pv_sameNameK8 c) (Qv_sameNameK8 c) := by sorry
theorem w_sameNameK8 : UMet 63 (fun _ _ => True) Qw_sameNameK8 := fun A1 σ _ w τ h c hP => v_sameNameK8 c A1 σ hP w τ h
def Pv_findK8 (c : RS) : UP1 := fun A1 σ => match A1 with
  | [.int a1] => K8 c σ
  | _ => False
def Qv_findK8 (c : RS) : UQ1 := fun A1 σ w τ => match A1 with
  | [.int a1] => (∃ r : Int32, w = some (.int r)) ∧ K8 c τ
  | _ => False
def Qw_findK8 : UQ1 := fun A1 σ w τ => ∀ (c : RS), Pv_findK8 c A1 σ → Qv_findK8 c A1 σ w τ
set_option maxRecDepth 100000 in
set_option maxHeartbeats 4000000 in
theorem v_findK8 (c : RS) : UMet 71 (Pv_findK8 c) (Qv_findK8 c) := by sorry
theorem w_findK8 : UMet 71 (fun _ _ => True) Qw_findK8 := fun A1 σ _ w τ h c hP => v_findK8 c A1 σ hP w τ h
def Pv_beK8 (c : RS) : UP1 := fun A1 σ => match A1 with
  | [.long a1] => K8 c σ
  | _ => False
def Qv_beK8 (c : RS) : UQ1 := fun A1 σ w τ => match A1 with
  | [.long a1] => (w = none) ∧ K8 c τ
  | _ => False
def Qw_beK8 : UQ1 := fun A1 σ w τ => ∀ (c : RS), Pv_beK8 c A1 σ → Qv_beK8 c A1 σ w τ
set_option maxRecDepth 100000 in
set_option maxHeartbeats 4000000 in
theorem v_beK8 (c : RS) : UMet 112 (Pv_beK8 c) (Qv_beK8 c) := by sorry
theorem w_beK8 : UMet 112 (fun _ _ => True) Qw_beK8 := fun A1 σ _ w τ h c hP => v_beK8 c A1 σ hP w τ h
def Pv_findAtK8 (c : RS) : UP1 := fun A1 σ => match A1 with
  | [.int a1] => K8 c σ
  | _ => False
def Qv_findAtK8 (c : RS) : UQ1 := fun A1 σ w τ => match A1 with
  | [.int a1] => (∃ r : Int32, w = some (.int r)) ∧ K8 c τ
  | _ => False
def Qw_findAtK8 : UQ1 := fun A1 σ w τ => ∀ (c : RS), Pv_findAtK8 c A1 σ → Qv_findAtK8 c A1 σ w τ
set_option maxRecDepth 100000 in
set_option maxHeartbeats 4000000 in
theorem v_findAtK8 (c : RS) : UMet 118 (Pv_findAtK8 c) (Qv_findAtK8 c) := by sorry
theorem w_findAtK8 : UMet 118 (fun _ _ => True) Qw_findAtK8 := fun A1 σ _ w τ h c hP => v_findAtK8 c A1 σ hP w τ h
def Pv_nowK8 (c : RS) : UP1 := fun A1 σ => match A1 with
  | [] => K8 c σ
  | _ => False
def Qv_nowK8 (c : RS) : UQ1 := fun A1 σ w τ => match A1 with
  | [] => (∃ r : Int64, w = some (.long r)) ∧ K8 c τ
  | _ => False
def Qw_nowK8 : UQ1 := fun A1 σ w τ => ∀ (c : RS), Pv_nowK8 c A1 σ → Qv_nowK8 c A1 σ w τ
set_option maxRecDepth 100000 in
set_option maxHeartbeats 4000000 in
theorem v_nowK8 (c : RS) : UMet 111 (Pv_nowK8 c) (Qv_nowK8 c) := by sorry
theorem w_nowK8 : UMet 111 (fun _ _ => True) Qw_nowK8 := fun A1 σ _ w τ h c hP => v_nowK8 c A1 σ hP w τ h
def Pv_sidedK8 (c : RS) : UP1 := fun A1 σ => match A1 with
  | [.int a1] => K8 c σ
  | _ => False
def Qv_sidedK8 (c : RS) : UQ1 := fun A1 σ w τ => match A1 with
  | [.int a1] => (w = none) ∧ K8 c τ
  | _ => False
def Qw_sidedK8 : UQ1 := fun A1 σ w τ => ∀ (c : RS), Pv_sidedK8 c A1 σ → Qv_sidedK8 c A1 σ w τ
set_option maxRecDepth 100000 in
set_option maxHeartbeats 4000000 in
theorem v_sidedK8 (c : RS) : UMet 116 (Pv_sidedK8 c) (Qv_sidedK8 c) := by sorry
theorem w_sidedK8 : UMet 116 (fun _ _ => True) Qw_sidedK8 := fun A1 σ _ w τ h c hP => v_sidedK8 c A1 σ hP w τ h
def Pv_valueK8 (c : RS) : UP1 := fun A1 σ => match A1 with
  | [.int a1, .int a2] => K8 c σ
  | _ => False
def Qv_valueK8 (c : RS) : UQ1 := fun A1 σ w τ => match A1 with
  | [.int a1, .int a2] => (w = none) ∧ K8 c τ
  | _ => False
def Qw_valueK8 : UQ1 := fun A1 σ w τ => ∀ (c : RS), Pv_valueK8 c A1 σ → Qv_valueK8 c A1 σ w τ
set_option maxRecDepth 100000 in
set_option maxHeartbeats 4000000 in
theorem v_valueK8 (c : RS) : UMet 115 (Pv_valueK8 c) (Qv_valueK8 c) := by sorry
theorem w_valueK8 : UMet 115 (fun _ _ => True) Qw_valueK8 := fun A1 σ _ w τ h c hP => v_valueK8 c A1 σ hP w τ h
def Pv_flowExpK8 (c : RS) : UP1 := fun A1 σ => match A1 with
  | [.int a1] => K8 c σ
  | _ => False
def Qv_flowExpK8 (c : RS) : UQ1 := fun A1 σ w τ => match A1 with
  | [.int a1] => (w = none) ∧ K8 c τ
  | _ => False
def Qw_flowExpK8 : UQ1 := fun A1 σ w τ => ∀ (c : RS), Pv_flowExpK8 c A1 σ → Qv_flowExpK8 c A1 σ w τ
set_option maxRecDepth 100000 in
set_option maxHeartbeats 4000000 in
theorem v_flowExpK8 (c : RS) : UMet 117 (Pv_flowExpK8 c) (Qv_flowExpK8 c) := by sorry
theorem w_flowExpK8 : UMet 117 (fun _ _ => True) Qw_flowExpK8 := fun A1 σ _ w τ h c hP => v_flowExpK8 c A1 σ hP w τ h
def Pv_comeK8 (c : RS) : UP1 := fun A1 σ => match A1 with
  | [.int a1, .int a2] => K8 c σ
  | _ => False
def Qv_comeK8 (c : RS) : UQ1 := fun A1 σ w τ => match A1 with
  | [.int a1, .int a2] => (∃ r : Int64, w = some (.long r)) ∧ K8 c τ
  | _ => False
def Qw_comeK8 : UQ1 := fun A1 σ w τ => ∀ (c : RS), Pv_comeK8 c A1 σ → Qv_comeK8 c A1 σ w τ
set_option maxRecDepth 100000 in
set_option maxHeartbeats 4000000 in
theorem v_comeK8 (c : RS) : UMet 119 (Pv_comeK8 c) (Qv_comeK8 c) := by sorry
theorem w_comeK8 : UMet 119 (fun _ _ => True) Qw_comeK8 := fun A1 σ _ w τ h c hP => v_comeK8 c A1 σ hP w τ h
def Pv_deadK8 (c : RS) : UP1 := fun A1 σ => match A1 with
  | [] => K8 c σ
  | _ => False
def Qv_deadK8 (c : RS) : UQ1 := fun A1 σ w τ => match A1 with
  | [] => (w = none) ∧ K8 c τ
  | _ => False
def Qw_deadK8 : UQ1 := fun A1 σ w τ => ∀ (c : RS), Pv_deadK8 c A1 σ → Qv_deadK8 c A1 σ w τ
set_option maxRecDepth 100000 in
set_option maxHeartbeats 4000000 in
theorem v_deadK8 (c : RS) : UMet 120 (Pv_deadK8 c) (Qv_deadK8 c) := by sorry
theorem w_deadK8 : UMet 120 (fun _ _ => True) Qw_deadK8 := fun A1 σ _ w τ h c hP => v_deadK8 c A1 σ hP w τ h
def Pv_endedK8 (c : RS) : UP1 := fun A1 σ => match A1 with
  | [.int a1] => K8 c σ
  | _ => False
def Qv_endedK8 (c : RS) : UQ1 := fun A1 σ w τ => match A1 with
  | [.int a1] => (w = none) ∧ K8 c τ
  | _ => False
def Qw_endedK8 : UQ1 := fun A1 σ w τ => ∀ (c : RS), Pv_endedK8 c A1 σ → Qv_endedK8 c A1 σ w τ
set_option maxRecDepth 100000 in
set_option maxHeartbeats 4000000 in
theorem v_endedK8 (c : RS) : UMet 122 (Pv_endedK8 c) (Qv_endedK8 c) := by sorry
theorem w_endedK8 : UMet 122 (fun _ _ => True) Qw_endedK8 := fun A1 σ _ w τ h c hP => v_endedK8 c A1 σ hP w τ h
def Pv_lateErrK8 (c : RS) : UP1 := fun A1 σ => match A1 with
  | [.int a1, .int a2] => K8 c σ
  | _ => False
def Qv_lateErrK8 (c : RS) : UQ1 := fun A1 σ w τ => match A1 with
  | [.int a1, .int a2] => (w = none) ∧ K8 c τ
  | _ => False
def Qw_lateErrK8 : UQ1 := fun A1 σ w τ => ∀ (c : RS), Pv_lateErrK8 c A1 σ → Qv_lateErrK8 c A1 σ w τ
set_option maxRecDepth 100000 in
set_option maxHeartbeats 4000000 in
theorem v_lateErrK8 (c : RS) : UMet 110 (Pv_lateErrK8 c) (Qv_lateErrK8 c) := by sorry
theorem w_lateErrK8 : UMet 110 (fun _ _ => True) Qw_lateErrK8 := fun A1 σ _ w τ h c hP => v_lateErrK8 c A1 σ hP w τ h
def Pv_resultOfK8 (c : RS) : UP1 := fun A1 σ => match A1 with
  | [.int a1] => K8 c σ
  | _ => False
def Qv_resultOfK8 (c : RS) : UQ1 := fun A1 σ w τ => match A1 with
  | [.int a1] => (∃ r : Int32, w = some (.int r)) ∧ K8 c τ
  | _ => False
def Qw_resultOfK8 : UQ1 := fun A1 σ w τ => ∀ (c : RS), Pv_resultOfK8 c A1 σ → Qv_resultOfK8 c A1 σ w τ
set_option maxRecDepth 100000 in
set_option maxHeartbeats 4000000 in
theorem v_resultOfK8 (c : RS) : UMet 85 (Pv_resultOfK8 c) (Qv_resultOfK8 c) := by sorry
theorem w_resultOfK8 : UMet 85 (fun _ _ => True) Qw_resultOfK8 := fun A1 σ _ w τ h c hP => v_resultOfK8 c A1 σ hP w τ h
def Pv_flowStepK8 (c : RS) : UP1 := fun A1 σ => match A1 with
  | [.int a1] => K8 c σ
  | _ => False
def Qv_flowStepK8 (c : RS) : UQ1 := fun A1 σ w τ => match A1 with
  | [.int a1] => (∃ r : Int32, w = some (.int r)) ∧ K8 c τ
  | _ => False
def Qw_flowStepK8 : UQ1 := fun A1 σ w τ => ∀ (c : RS), Pv_flowStepK8 c A1 σ → Qv_flowStepK8 c A1 σ w τ
set_option maxRecDepth 100000 in
set_option maxHeartbeats 4000000 in
theorem v_flowStepK8 (c : RS) : UMet 121 (Pv_flowStepK8 c) (Qv_flowStepK8 c) := by sorry
theorem w_flowStepK8 : UMet 121 (fun _ _ => True) Qw_flowStepK8 := fun A1 σ _ w τ h c hP => v_flowStepK8 c A1 σ hP w τ h
def Pv_startK8 (c : RS) : UP1 := fun A1 σ => match A1 with
  | [.int a1] => K8 c σ
  | _ => False
def Qv_startK8 (c : RS) : UQ1 := fun A1 σ w τ => match A1 with
  | [.int a1] => (w = none) ∧ K8 c τ
  | _ => False
def Qw_startK8 : UQ1 := fun A1 σ w τ => ∀ (c : RS), Pv_startK8 c A1 σ → Qv_startK8 c A1 σ w τ
set_option maxRecDepth 100000 in
set_option maxHeartbeats 4000000 in
theorem v_startK8 (c : RS) : UMet 114 (Pv_startK8 c) (Qv_startK8 c) := by sorry
theorem w_startK8 : UMet 114 (fun _ _ => True) Qw_startK8 := fun A1 σ _ w τ h c hP => v_startK8 c A1 σ hP w τ h
def Pv_flowK8 (c : RS) : UP1 := fun A1 σ => match A1 with
  | [] => K8 c σ
  | _ => False
def Qv_flowK8 (c : RS) : UQ1 := fun A1 σ w τ => match A1 with
  | [] => (w = none) ∧ K8 c τ
  | _ => False
def Qw_flowK8 : UQ1 := fun A1 σ w τ => ∀ (c : RS), Pv_flowK8 c A1 σ → Qv_flowK8 c A1 σ w τ
set_option maxRecDepth 100000 in
set_option maxHeartbeats 4000000 in
theorem v_flowK8 (c : RS) : UMet 113 (Pv_flowK8 c) (Qv_flowK8 c) := by sorry
theorem w_flowK8 : UMet 113 (fun _ _ => True) Qw_flowK8 := fun A1 σ _ w τ h c hP => v_flowK8 c A1 σ hP w τ h
def Pv_holdsValueK8 (c : RS) : UP1 := fun A1 σ => match A1 with
  | [.int a1, .long a2] => K8 c σ
  | _ => False
def Qv_holdsValueK8 (c : RS) : UQ1 := fun A1 σ w τ => match A1 with
  | [.int a1, .long a2] => (∃ r : Int32, w = some (.int r)) ∧ K8 c τ
  | _ => False
def Qw_holdsValueK8 : UQ1 := fun A1 σ w τ => ∀ (c : RS), Pv_holdsValueK8 c A1 σ → Qv_holdsValueK8 c A1 σ w τ
set_option maxRecDepth 100000 in
set_option maxHeartbeats 4000000 in
theorem v_holdsValueK8 (c : RS) : UMet 74 (Pv_holdsValueK8 c) (Qv_holdsValueK8 c) := by sorry
theorem w_holdsValueK8 : UMet 74 (fun _ _ => True) Qw_holdsValueK8 := fun A1 σ _ w τ h c hP => v_holdsValueK8 c A1 σ hP w τ h
def Pv_widensK8 (c : RS) : UP1 := fun A1 σ => match A1 with
  | [.int a1, .int a2] => K8 c σ
  | _ => False
def Qv_widensK8 (c : RS) : UQ1 := fun A1 σ w τ => match A1 with
  | [.int a1, .int a2] => (∃ r : Int32, w = some (.int r)) ∧ K8 c τ
  | _ => False
def Qw_widensK8 : UQ1 := fun A1 σ w τ => ∀ (c : RS), Pv_widensK8 c A1 σ → Qv_widensK8 c A1 σ w τ
set_option maxRecDepth 100000 in
set_option maxHeartbeats 4000000 in
theorem v_widensK8 (c : RS) : UMet 73 (Pv_widensK8 c) (Qv_widensK8 c) := by sorry
theorem w_widensK8 : UMet 73 (fun _ _ => True) Qw_widensK8 := fun A1 σ _ w τ h c hP => v_widensK8 c A1 σ hP w τ h
def Pv_fitsK8 (c : RS) : UP1 := fun A1 σ => match A1 with
  | [.int a1, .int a2] => K8 c σ
  | _ => False
def Qv_fitsK8 (c : RS) : UQ1 := fun A1 σ w τ => match A1 with
  | [.int a1, .int a2] => (∃ r : Int32, w = some (.int r)) ∧ K8 c τ
  | _ => False
def Qw_fitsK8 : UQ1 := fun A1 σ w τ => ∀ (c : RS), Pv_fitsK8 c A1 σ → Qv_fitsK8 c A1 σ w τ
set_option maxRecDepth 100000 in
set_option maxHeartbeats 4000000 in
theorem v_fitsK8 (c : RS) : UMet 75 (Pv_fitsK8 c) (Qv_fitsK8 c) := by sorry
theorem w_fitsK8 : UMet 75 (fun _ _ => True) Qw_fitsK8 := fun A1 σ _ w τ h c hP => v_fitsK8 c A1 σ hP w τ h
def Pv_isBadK8 (c : RS) : UP1 := fun A1 σ => match A1 with
  | [.int a1] => K8 c σ
  | _ => False
def Qv_isBadK8 (c : RS) : UQ1 := fun A1 σ w τ => match A1 with
  | [.int a1] => (∃ r : Int32, w = some (.int r)) ∧ K8 c τ
  | _ => False
def Qw_isBadK8 : UQ1 := fun A1 σ w τ => ∀ (c : RS), Pv_isBadK8 c A1 σ → Qv_isBadK8 c A1 σ w τ
set_option maxRecDepth 100000 in
set_option maxHeartbeats 4000000 in
theorem v_isBadK8 (c : RS) : UMet 79 (Pv_isBadK8 c) (Qv_isBadK8 c) := by sorry
theorem w_isBadK8 : UMet 79 (fun _ _ => True) Qw_isBadK8 := fun A1 σ _ w τ h c hP => v_isBadK8 c A1 σ hP w τ h
def Pv_isBitsK8 (c : RS) : UP1 := fun A1 σ => match A1 with
  | [.int a1] => K8 c σ
  | _ => False
def Qv_isBitsK8 (c : RS) : UQ1 := fun A1 σ w τ => match A1 with
  | [.int a1] => (∃ r : Int32, w = some (.int r)) ∧ K8 c τ
  | _ => False
def Qw_isBitsK8 : UQ1 := fun A1 σ w τ => ∀ (c : RS), Pv_isBitsK8 c A1 σ → Qv_isBitsK8 c A1 σ w τ
set_option maxRecDepth 100000 in
set_option maxHeartbeats 4000000 in
theorem v_isBitsK8 (c : RS) : UMet 94 (Pv_isBitsK8 c) (Qv_isBitsK8 c) := by sorry
theorem w_isBitsK8 : UMet 94 (fun _ _ => True) Qw_isBitsK8 := fun A1 σ _ w τ h c hP => v_isBitsK8 c A1 σ hP w τ h
def Pv_isShiftK8 (c : RS) : UP1 := fun A1 σ => match A1 with
  | [.int a1] => K8 c σ
  | _ => False
def Qv_isShiftK8 (c : RS) : UQ1 := fun A1 σ w τ => match A1 with
  | [.int a1] => (∃ r : Int32, w = some (.int r)) ∧ K8 c τ
  | _ => False
def Qw_isShiftK8 : UQ1 := fun A1 σ w τ => ∀ (c : RS), Pv_isShiftK8 c A1 σ → Qv_isShiftK8 c A1 σ w τ
set_option maxRecDepth 100000 in
set_option maxHeartbeats 4000000 in
theorem v_isShiftK8 (c : RS) : UMet 93 (Pv_isShiftK8 c) (Qv_isShiftK8 c) := by sorry
theorem w_isShiftK8 : UMet 93 (fun _ _ => True) Qw_isShiftK8 := fun A1 σ _ w τ h c hP => v_isShiftK8 c A1 σ hP w τ h
def Pv_lieK8 (c : RS) : UP1 := fun A1 σ => match A1 with
  | [.int a1, .int a2, .int a3, .long a4] => K8 c σ
  | _ => False
def Qv_lieK8 (c : RS) : UQ1 := fun A1 σ w τ => match A1 with
  | [.int a1, .int a2, .int a3, .long a4] => (w = none) ∧ K8 c τ
  | _ => False
def Qw_lieK8 : UQ1 := fun A1 σ w τ => ∀ (c : RS), Pv_lieK8 c A1 σ → Qv_lieK8 c A1 σ w τ
set_option maxRecDepth 100000 in
set_option maxHeartbeats 4000000 in
theorem v_lieK8 (c : RS) : UMet 77 (Pv_lieK8 c) (Qv_lieK8 c) := by sorry
theorem w_lieK8 : UMet 77 (fun _ _ => True) Qw_lieK8 := fun A1 σ _ w τ h c hP => v_lieK8 c A1 σ hP w τ h
def Pv_isNumberK8 (c : RS) : UP1 := fun A1 σ => match A1 with
  | [.int a1] => K8 c σ
  | _ => False
def Qv_isNumberK8 (c : RS) : UQ1 := fun A1 σ w τ => match A1 with
  | [.int a1] => (∃ r : Int32, w = some (.int r)) ∧ K8 c τ
  | _ => False
def Qw_isNumberK8 : UQ1 := fun A1 σ w τ => ∀ (c : RS), Pv_isNumberK8 c A1 σ → Qv_isNumberK8 c A1 σ w τ
set_option maxRecDepth 100000 in
set_option maxHeartbeats 4000000 in
theorem v_isNumberK8 (c : RS) : UMet 72 (Pv_isNumberK8 c) (Qv_isNumberK8 c) := by sorry
theorem w_isNumberK8 : UMet 72 (fun _ _ => True) Qw_isNumberK8 := fun A1 σ _ w τ h c hP => v_isNumberK8 c A1 σ hP w τ h
def Pv_needK8 (c : RS) : UP1 := fun A1 σ => match A1 with
  | [.int a1, .int a2] => K8 c σ
  | _ => False
def Qv_needK8 (c : RS) : UQ1 := fun A1 σ w τ => match A1 with
  | [.int a1, .int a2] => (∃ r : Int32, w = some (.int r)) ∧ K8 c τ
  | _ => False
def Qw_needK8 : UQ1 := fun A1 σ w τ => ∀ (c : RS), Pv_needK8 c A1 σ → Qv_needK8 c A1 σ w τ
set_option maxRecDepth 100000 in
set_option maxHeartbeats 4000000 in
theorem v_needK8 (c : RS) : UMet 80 (Pv_needK8 c) (Qv_needK8 c) := by sorry
theorem w_needK8 : UMet 80 (fun _ _ => True) Qw_needK8 := fun A1 σ _ w τ h c hP => v_needK8 c A1 σ hP w τ h
def Pv_noneK8 (c : RS) : UP1 := fun A1 σ => match A1 with
  | [.int a1] => K8 c σ
  | _ => False
def Qv_noneK8 (c : RS) : UQ1 := fun A1 σ w τ => match A1 with
  | [.int a1] => (w = none) ∧ K8 c τ
  | _ => False
def Qw_noneK8 : UQ1 := fun A1 σ w τ => ∀ (c : RS), Pv_noneK8 c A1 σ → Qv_noneK8 c A1 σ w τ
set_option maxRecDepth 100000 in
set_option maxHeartbeats 4000000 in
theorem v_noneK8 (c : RS) : UMet 78 (Pv_noneK8 c) (Qv_noneK8 c) := by sorry
theorem w_noneK8 : UMet 78 (fun _ _ => True) Qw_noneK8 := fun A1 σ _ w τ h c hP => v_noneK8 c A1 σ hP w τ h
def Pv_pairK8 (c : RS) : UP1 := fun A1 σ => match A1 with
  | [.int a1, .int a2] => K8 c σ
  | _ => False
def Qv_pairK8 (c : RS) : UQ1 := fun A1 σ w τ => match A1 with
  | [.int a1, .int a2] => (∃ r : Int32, w = some (.int r)) ∧ K8 c τ
  | _ => False
def Qw_pairK8 : UQ1 := fun A1 σ w τ => ∀ (c : RS), Pv_pairK8 c A1 σ → Qv_pairK8 c A1 σ w τ
set_option maxRecDepth 100000 in
set_option maxHeartbeats 4000000 in
theorem v_pairK8 (c : RS) : UMet 96 (Pv_pairK8 c) (Qv_pairK8 c) := by sorry
theorem w_pairK8 : UMet 96 (fun _ _ => True) Qw_pairK8 := fun A1 σ _ w τ h c hP => v_pairK8 c A1 σ hP w τ h
def Pv_wideK8 (c : RS) : UP1 := fun A1 σ => match A1 with
  | [.int a1] => K8 c σ
  | _ => False
def Qv_wideK8 (c : RS) : UQ1 := fun A1 σ w τ => match A1 with
  | [.int a1] => (∃ r : Int32, w = some (.int r)) ∧ K8 c τ
  | _ => False
def Qw_wideK8 : UQ1 := fun A1 σ w τ => ∀ (c : RS), Pv_wideK8 c A1 σ → Qv_wideK8 c A1 σ w τ
set_option maxRecDepth 100000 in
set_option maxHeartbeats 4000000 in
theorem v_wideK8 (c : RS) : UMet 81 (Pv_wideK8 c) (Qv_wideK8 c) := by sorry
theorem w_wideK8 : UMet 81 (fun _ _ => True) Qw_wideK8 := fun A1 σ _ w τ h c hP => v_wideK8 c A1 σ hP w τ h
def Pv_assignK8 (c : RS) : UP1 := fun A1 σ => match A1 with
  | [.int a1, .int a2] => K8 c σ
  | _ => False
def Qv_assignK8 (c : RS) : UQ1 := fun A1 σ w τ => match A1 with
  | [.int a1, .int a2] => (w = none) ∧ K8 c τ
  | _ => False
def Qw_assignK8 : UQ1 := fun A1 σ w τ => ∀ (c : RS), Pv_assignK8 c A1 σ → Qv_assignK8 c A1 σ w τ
set_option maxRecDepth 100000 in
set_option maxHeartbeats 4000000 in
theorem v_assignK8 (c : RS) : UMet 100 (Pv_assignK8 c) (Qv_assignK8 c) := by sorry
theorem w_assignK8 : UMet 100 (fun _ _ => True) Qw_assignK8 := fun A1 σ _ w τ h c hP => v_assignK8 c A1 σ hP w τ h
/-! judging is noted, further -/
def Pv_castK8 (c : RS) : UP1 := fun A1 σ => match A1 with
  | [.int a1, .long a2] => K8 c σ
  | _ => False
def Qv_castK8 (c : RS) : UQ1 := fun A1 σ w τ => match A1 with
  | [.int a1, .long a2] => (∃ r : Int64, w = some (.long r)) ∧ K8 c τ
  | _ => False
def Qw_castK8 : UQ1 := fun A1 σ w τ => ∀ (c : RS), Pv_castK8 c A1 σ → Qv_castK8 c A1 σ w τ
set_option maxRecDepth 100000 in
set_option maxHeartbeats 4000000 in
theorem v_castK8 (c : RS) : UMet 76 (Pv_castK8 c) (Qv_castK8 c) := by sorry
theorem w_castK8 : UMet 76 (fun _ _ => True) Qw_castK8 := fun A1 σ _ w τ h c hP => v_castK8 c A1 σ hP w τ h
def Pv_reckonK8 (c : RS) : UP1 := fun A1 σ => match A1 with
  | [.int a1, .int a2, .long a3, .long a4] => K8 c σ
  | _ => False
def Qv_reckonK8 (c : RS) : UQ1 := fun A1 σ w τ => match A1 with
  | [.int a1, .int a2, .long a3, .long a4] => (∃ r : Int64, w = some (.long r)) ∧ K8 c τ
  | _ => False
def Qw_reckonK8 : UQ1 := fun A1 σ w τ => ∀ (c : RS), Pv_reckonK8 c A1 σ → Qv_reckonK8 c A1 σ w τ
set_option maxRecDepth 100000 in
set_option maxHeartbeats 4000000 in
theorem v_reckonK8 (c : RS) : UMet 97 (Pv_reckonK8 c) (Qv_reckonK8 c) := by sorry
theorem w_reckonK8 : UMet 97 (fun _ _ => True) Qw_reckonK8 := fun A1 σ _ w τ h c hP => v_reckonK8 c A1 σ hP w τ h
def Pv_binaryK8 (c : RS) : UP1 := fun A1 σ => match A1 with
  | [.int a1] => K8 c σ
  | _ => False
def Qv_binaryK8 (c : RS) : UQ1 := fun A1 σ w τ => match A1 with
  | [.int a1] => (w = none) ∧ K8 c τ
  | _ => False
def Qw_binaryK8 : UQ1 := fun A1 σ w τ => ∀ (c : RS), Pv_binaryK8 c A1 σ → Qv_binaryK8 c A1 σ w τ
set_option maxRecDepth 100000 in
set_option maxHeartbeats 4000000 in
theorem v_binaryK8 (c : RS) : UMet 95 (Pv_binaryK8 c) (Qv_binaryK8 c) := by sorry
theorem w_binaryK8 : UMet 95 (fun _ _ => True) Qw_binaryK8 := fun A1 σ _ w τ h c hP => v_binaryK8 c A1 σ hP w τ h
def Pv_paramsOfK8 (c : RS) : UP1 := fun A1 σ => match A1 with
  | [.int a1] => K8 c σ
  | _ => False
def Qv_paramsOfK8 (c : RS) : UQ1 := fun A1 σ w τ => match A1 with
  | [.int a1] => (∃ r : Int32, w = some (.int r)) ∧ K8 c τ
  | _ => False
def Qw_paramsOfK8 : UQ1 := fun A1 σ w τ => ∀ (c : RS), Pv_paramsOfK8 c A1 σ → Qv_paramsOfK8 c A1 σ w τ
set_option maxRecDepth 100000 in
set_option maxHeartbeats 4000000 in
theorem v_paramsOfK8 (c : RS) : UMet 84 (Pv_paramsOfK8 c) (Qv_paramsOfK8 c) := by sorry
theorem w_paramsOfK8 : UMet 84 (fun _ _ => True) Qw_paramsOfK8 := fun A1 σ _ w τ h c hP => v_paramsOfK8 c A1 σ hP w τ h
def Pv_typeOfParamK8 (c : RS) : UP1 := fun A1 σ => match A1 with
  | [.int a1, .int a2] => K8 c σ
  | _ => False
def Qv_typeOfParamK8 (c : RS) : UQ1 := fun A1 σ w τ => match A1 with
  | [.int a1, .int a2] => (∃ r : Int32, w = some (.int r)) ∧ K8 c τ
  | _ => False
def Qw_typeOfParamK8 : UQ1 := fun A1 σ w τ => ∀ (c : RS), Pv_typeOfParamK8 c A1 σ → Qv_typeOfParamK8 c A1 σ w τ
set_option maxRecDepth 100000 in
set_option maxHeartbeats 4000000 in
theorem v_typeOfParamK8 (c : RS) : UMet 83 (Pv_typeOfParamK8 c) (Qv_typeOfParamK8 c) := by sorry
theorem w_typeOfParamK8 : UMet 83 (fun _ _ => True) Qw_typeOfParamK8 := fun A1 σ _ w τ h c hP => v_typeOfParamK8 c A1 σ hP w τ h
def Pv_isCloserK8 (c : RS) : UP1 := fun A1 σ => match A1 with
  | [.int a1, .int a2] => K8 c σ
  | _ => False
def Qv_isCloserK8 (c : RS) : UQ1 := fun A1 σ w τ => match A1 with
  | [.int a1, .int a2] => (∃ r : Int32, w = some (.int r)) ∧ K8 c τ
  | _ => False
def Qw_isCloserK8 : UQ1 := fun A1 σ w τ => ∀ (c : RS), Pv_isCloserK8 c A1 σ → Qv_isCloserK8 c A1 σ w τ
set_option maxRecDepth 100000 in
set_option maxHeartbeats 4000000 in
theorem v_isCloserK8 (c : RS) : UMet 102 (Pv_isCloserK8 c) (Qv_isCloserK8 c) := by sorry
theorem w_isCloserK8 : UMet 102 (fun _ _ => True) Qw_isCloserK8 := fun A1 σ _ w τ h c hP => v_isCloserK8 c A1 σ hP w τ h
def Pv_isMethodK8 (c : RS) : UP1 := fun A1 σ => match A1 with
  | [.int a1] => K8 c σ
  | _ => False
def Qv_isMethodK8 (c : RS) : UQ1 := fun A1 σ w τ => match A1 with
  | [.int a1] => (∃ r : Int32, w = some (.int r)) ∧ K8 c τ
  | _ => False
def Qw_isMethodK8 : UQ1 := fun A1 σ w τ => ∀ (c : RS), Pv_isMethodK8 c A1 σ → Qv_isMethodK8 c A1 σ w τ
set_option maxRecDepth 100000 in
set_option maxHeartbeats 4000000 in
theorem v_isMethodK8 (c : RS) : UMet 103 (Pv_isMethodK8 c) (Qv_isMethodK8 c) := by sorry
theorem w_isMethodK8 : UMet 103 (fun _ _ => True) Qw_isMethodK8 := fun A1 σ _ w τ h c hP => v_isMethodK8 c A1 σ hP w τ h
def Pv_isNamedK8 (c : RS) : UP1 := fun A1 σ => match A1 with
  | [.int a1, .int a2] => K8 c σ
  | _ => False
def Qv_isNamedK8 (c : RS) : UQ1 := fun A1 σ w τ => match A1 with
  | [.int a1, .int a2] => (∃ r : Int32, w = some (.int r)) ∧ K8 c τ
  | _ => False
def Qw_isNamedK8 : UQ1 := fun A1 σ w τ => ∀ (c : RS), Pv_isNamedK8 c A1 σ → Qv_isNamedK8 c A1 σ w τ
set_option maxRecDepth 100000 in
set_option maxHeartbeats 4000000 in
theorem v_isNamedK8 (c : RS) : UMet 86 (Pv_isNamedK8 c) (Qv_isNamedK8 c) := by sorry
theorem w_isNamedK8 : UMet 86 (fun _ _ => True) Qw_isNamedK8 := fun A1 σ _ w τ h c hP => v_isNamedK8 c A1 σ hP w τ h
def Pv_takesK8 (c : RS) : UP1 := fun A1 σ => match A1 with
  | [.int a1, .int a2, .int a3] => K8 c σ
  | _ => False
def Qv_takesK8 (c : RS) : UQ1 := fun A1 σ w τ => match A1 with
  | [.int a1, .int a2, .int a3] => (∃ r : Int32, w = some (.int r)) ∧ K8 c τ
  | _ => False
def Qw_takesK8 : UQ1 := fun A1 σ w τ => ∀ (c : RS), Pv_takesK8 c A1 σ → Qv_takesK8 c A1 σ w τ
set_option maxRecDepth 100000 in
set_option maxHeartbeats 4000000 in
theorem v_takesK8 (c : RS) : UMet 101 (Pv_takesK8 c) (Qv_takesK8 c) := by sorry
theorem w_takesK8 : UMet 101 (fun _ _ => True) Qw_takesK8 := fun A1 σ _ w τ h c hP => v_takesK8 c A1 σ hP w τ h
def Pv_callK8 (c : RS) : UP1 := fun A1 σ => match A1 with
  | [.int a1, .int a2] => K8 c σ
  | _ => False
def Qv_callK8 (c : RS) : UQ1 := fun A1 σ w τ => match A1 with
  | [.int a1, .int a2] => (w = none) ∧ K8 c τ
  | _ => False
def Qw_callK8 : UQ1 := fun A1 σ w τ => ∀ (c : RS), Pv_callK8 c A1 σ → Qv_callK8 c A1 σ w τ
set_option maxRecDepth 100000 in
set_option maxHeartbeats 4000000 in
theorem v_callK8 (c : RS) : UMet 104 (Pv_callK8 c) (Qv_callK8 c) := by sorry
theorem w_callK8 : UMet 104 (fun _ _ => True) Qw_callK8 := fun A1 σ _ w τ h c hP => v_callK8 c A1 σ hP w τ h
def Pv_castsK8 (c : RS) : UP1 := fun A1 σ => match A1 with
  | [.int a1] => K8 c σ
  | _ => False
def Qv_castsK8 (c : RS) : UQ1 := fun A1 σ w τ => match A1 with
  | [.int a1] => (w = none) ∧ K8 c τ
  | _ => False
def Qw_castsK8 : UQ1 := fun A1 σ w τ => ∀ (c : RS), Pv_castsK8 c A1 σ → Qv_castsK8 c A1 σ w τ
set_option maxRecDepth 100000 in
set_option maxHeartbeats 4000000 in
theorem v_castsK8 (c : RS) : UMet 92 (Pv_castsK8 c) (Qv_castsK8 c) := by sorry
theorem w_castsK8 : UMet 92 (fun _ _ => True) Qw_castsK8 := fun A1 σ _ w τ h c hP => v_castsK8 c A1 σ hP w τ h
def Pv_isHeldK8 (c : RS) : UP1 := fun A1 σ => match A1 with
  | [.int a1, .int a2] => K8 c σ
  | _ => False
def Qv_isHeldK8 (c : RS) : UQ1 := fun A1 σ w τ => match A1 with
  | [.int a1, .int a2] => (∃ r : Int32, w = some (.int r)) ∧ K8 c τ
  | _ => False
def Qw_isHeldK8 : UQ1 := fun A1 σ w τ => ∀ (c : RS), Pv_isHeldK8 c A1 σ → Qv_isHeldK8 c A1 σ w τ
set_option maxRecDepth 100000 in
set_option maxHeartbeats 4000000 in
theorem v_isHeldK8 (c : RS) : UMet 99 (Pv_isHeldK8 c) (Qv_isHeldK8 c) := by sorry
theorem w_isHeldK8 : UMet 99 (fun _ _ => True) Qw_isHeldK8 := fun A1 σ _ w τ h c hP => v_isHeldK8 c A1 σ hP w τ h
def Pv_choiceK8 (c : RS) : UP1 := fun A1 σ => match A1 with
  | [.int a1] => K8 c σ
  | _ => False
def Qv_choiceK8 (c : RS) : UQ1 := fun A1 σ w τ => match A1 with
  | [.int a1] => (w = none) ∧ K8 c τ
  | _ => False
def Qw_choiceK8 : UQ1 := fun A1 σ w τ => ∀ (c : RS), Pv_choiceK8 c A1 σ → Qv_choiceK8 c A1 σ w τ
set_option maxRecDepth 100000 in
set_option maxHeartbeats 4000000 in
theorem v_choiceK8 (c : RS) : UMet 98 (Pv_choiceK8 c) (Qv_choiceK8 c) := by sorry
theorem w_choiceK8 : UMet 98 (fun _ _ => True) Qw_choiceK8 := fun A1 σ _ w τ h c hP => v_choiceK8 c A1 σ hP w τ h
def Pv_literalK8 (c : RS) : UP1 := fun A1 σ => match A1 with
  | [.int a1, .int a2] => K8 c σ
  | _ => False
def Qv_literalK8 (c : RS) : UQ1 := fun A1 σ w τ => match A1 with
  | [.int a1, .int a2] => (w = none) ∧ K8 c τ
  | _ => False
def Qw_literalK8 : UQ1 := fun A1 σ w τ => ∀ (c : RS), Pv_literalK8 c A1 σ → Qv_literalK8 c A1 σ w τ
set_option maxRecDepth 100000 in
set_option maxHeartbeats 4000000 in
theorem v_literalK8 (c : RS) : UMet 89 (Pv_literalK8 c) (Qv_literalK8 c) := by sorry
theorem w_literalK8 : UMet 89 (fun _ _ => True) Qw_literalK8 := fun A1 σ _ w τ h c hP => v_literalK8 c A1 σ hP w τ h
def Pv_stepK8 (c : RS) : UP1 := fun A1 σ => match A1 with
  | [.int a1, .int a2] => K8 c σ
  | _ => False
def Qv_stepK8 (c : RS) : UQ1 := fun A1 σ w τ => match A1 with
  | [.int a1, .int a2] => (w = none) ∧ K8 c τ
  | _ => False
def Qw_stepK8 : UQ1 := fun A1 σ w τ => ∀ (c : RS), Pv_stepK8 c A1 σ → Qv_stepK8 c A1 σ w τ
set_option maxRecDepth 100000 in
set_option maxHeartbeats 4000000 in
theorem v_stepK8 (c : RS) : UMet 90 (Pv_stepK8 c) (Qv_stepK8 c) := by sorry
theorem w_stepK8 : UMet 90 (fun _ _ => True) Qw_stepK8 := fun A1 σ _ w τ h c hP => v_stepK8 c A1 σ hP w τ h
def Pv_unaryK8 (c : RS) : UP1 := fun A1 σ => match A1 with
  | [.int a1] => K8 c σ
  | _ => False
def Qv_unaryK8 (c : RS) : UQ1 := fun A1 σ w τ => match A1 with
  | [.int a1] => (w = none) ∧ K8 c τ
  | _ => False
def Qw_unaryK8 : UQ1 := fun A1 σ w τ => ∀ (c : RS), Pv_unaryK8 c A1 σ → Qv_unaryK8 c A1 σ w τ
set_option maxRecDepth 100000 in
set_option maxHeartbeats 4000000 in
theorem v_unaryK8 (c : RS) : UMet 91 (Pv_unaryK8 c) (Qv_unaryK8 c) := by sorry
theorem w_unaryK8 : UMet 91 (fun _ _ => True) Qw_unaryK8 := fun A1 σ _ w τ h c hP => v_unaryK8 c A1 σ hP w τ h
def Pv_judgeExpK8 (c : RS) : UP1 := fun A1 σ => match A1 with
  | [.int a1] => K8 c σ
  | _ => False
def Qv_judgeExpK8 (c : RS) : UQ1 := fun A1 σ w τ => match A1 with
  | [.int a1] => (w = none) ∧ K8 c τ
  | _ => False
def Qw_judgeExpK8 : UQ1 := fun A1 σ w τ => ∀ (c : RS), Pv_judgeExpK8 c A1 σ → Qv_judgeExpK8 c A1 σ w τ
set_option maxRecDepth 100000 in
set_option maxHeartbeats 4000000 in
theorem v_judgeExpK8 (c : RS) : UMet 88 (Pv_judgeExpK8 c) (Qv_judgeExpK8 c) := by sorry
theorem w_judgeExpK8 : UMet 88 (fun _ _ => True) Qw_judgeExpK8 := fun A1 σ _ w τ h c hP => v_judgeExpK8 c A1 σ hP w τ h
def Pv_casedK8 (c : RS) : UP1 := fun A1 σ => match A1 with
  | [.int a1, .int a2] => K8 c σ
  | _ => False
def Qv_casedK8 (c : RS) : UQ1 := fun A1 σ w τ => match A1 with
  | [.int a1, .int a2] => (w = none) ∧ K8 c τ
  | _ => False
def Qw_casedK8 : UQ1 := fun A1 σ w τ => ∀ (c : RS), Pv_casedK8 c A1 σ → Qv_casedK8 c A1 σ w τ
set_option maxRecDepth 100000 in
set_option maxHeartbeats 4000000 in
theorem v_casedK8 (c : RS) : UMet 108 (Pv_casedK8 c) (Qv_casedK8 c) := by sorry
theorem w_casedK8 : UMet 108 (fun _ _ => True) Qw_casedK8 := fun A1 σ _ w τ h c hP => v_casedK8 c A1 σ hP w τ h
def Pv_declaredK8 (c : RS) : UP1 := fun A1 σ => match A1 with
  | [.int a1, .int a2] => K8 c σ
  | _ => False
def Qv_declaredK8 (c : RS) : UQ1 := fun A1 σ w τ => match A1 with
  | [.int a1, .int a2] => (w = none) ∧ K8 c τ
  | _ => False
def Qw_declaredK8 : UQ1 := fun A1 σ w τ => ∀ (c : RS), Pv_declaredK8 c A1 σ → Qv_declaredK8 c A1 σ w τ
set_option maxRecDepth 100000 in
set_option maxHeartbeats 4000000 in
theorem v_declaredK8 (c : RS) : UMet 107 (Pv_declaredK8 c) (Qv_declaredK8 c) := by sorry
theorem w_declaredK8 : UMet 107 (fun _ _ => True) Qw_declaredK8 := fun A1 σ _ w τ h c hP => v_declaredK8 c A1 σ hP w τ h
def Pv_keepK8 (c : RS) : UP1 := fun A1 σ => match A1 with
  | [.int a1] => K8 c σ
  | _ => False
def Qv_keepK8 (c : RS) : UQ1 := fun A1 σ w τ => match A1 with
  | [.int a1] => (w = none) ∧ K8 c τ
  | _ => False
def Qw_keepK8 : UQ1 := fun A1 σ w τ => ∀ (c : RS), Pv_keepK8 c A1 σ → Qv_keepK8 c A1 σ w τ
set_option maxRecDepth 100000 in
set_option maxHeartbeats 4000000 in
theorem v_keepK8 (c : RS) : UMet 106 (Pv_keepK8 c) (Qv_keepK8 c) := by sorry
theorem w_keepK8 : UMet 106 (fun _ _ => True) Qw_keepK8 := fun A1 σ _ w τ h c hP => v_keepK8 c A1 σ hP w τ h
def Pv_returnsK8 (c : RS) : UP1 := fun A1 σ => match A1 with
  | [.int a1, .int a2] => K8 c σ
  | _ => False
def Qv_returnsK8 (c : RS) : UQ1 := fun A1 σ w τ => match A1 with
  | [.int a1, .int a2] => (w = none) ∧ K8 c τ
  | _ => False
def Qw_returnsK8 : UQ1 := fun A1 σ w τ => ∀ (c : RS), Pv_returnsK8 c A1 σ → Qv_returnsK8 c A1 σ w τ
set_option maxRecDepth 100000 in
set_option maxHeartbeats 4000000 in
theorem v_returnsK8 (c : RS) : UMet 109 (Pv_returnsK8 c) (Qv_returnsK8 c) := by sorry
theorem w_returnsK8 : UMet 109 (fun _ _ => True) Qw_returnsK8 := fun A1 σ _ w τ h c hP => v_returnsK8 c A1 σ hP w τ h
def Pv_judgeStepK8 (c : RS) : UP1 := fun A1 σ => match A1 with
  | [.int a1] => K8 c σ
  | _ => False
def Qv_judgeStepK8 (c : RS) : UQ1 := fun A1 σ w τ => match A1 with
  | [.int a1] => (w = none) ∧ K8 c τ
  | _ => False
def Qw_judgeStepK8 : UQ1 := fun A1 σ w τ => ∀ (c : RS), Pv_judgeStepK8 c A1 σ → Qv_judgeStepK8 c A1 σ w τ
set_option maxRecDepth 100000 in
set_option maxHeartbeats 4000000 in
theorem v_judgeStepK8 (c : RS) : UMet 105 (Pv_judgeStepK8 c) (Qv_judgeStepK8 c) := by sorry
theorem w_judgeStepK8 : UMet 105 (fun _ _ => True) Qw_judgeStepK8 := fun A1 σ _ w τ h c hP => v_judgeStepK8 c A1 σ hP w τ h
def Pv_methodsToldK8 (c : RS) : UP1 := fun A1 σ => match A1 with
  | [] => K8 c σ
  | _ => False
def Qv_methodsToldK8 (c : RS) : UQ1 := fun A1 σ w τ => match A1 with
  | [] => (w = none) ∧ K8 c τ
  | _ => False
def Qw_methodsToldK8 : UQ1 := fun A1 σ w τ => ∀ (c : RS), Pv_methodsToldK8 c A1 σ → Qv_methodsToldK8 c A1 σ w τ
set_option maxRecDepth 100000 in
set_option maxHeartbeats 4000000 in
theorem v_methodsToldK8 (c : RS) : UMet 87 (Pv_methodsToldK8 c) (Qv_methodsToldK8 c) := by sorry
theorem w_methodsToldK8 : UMet 87 (fun _ _ => True) Qw_methodsToldK8 := fun A1 σ _ w τ h c hP => v_methodsToldK8 c A1 σ hP w τ h
def Pv_judgeAllK8 (c : RS) : UP1 := fun A1 σ => match A1 with
  | [] => K8 c (sI σ 68 1)
  | _ => False
def Qv_judgeAllK8 (c : RS) : UQ1 := fun A1 σ w τ => match A1 with
  | [] => w = none ∧ K8 c τ
  | _ => False
def Qw_judgeAllK8 : UQ1 := fun A1 σ w τ => ∀ (c : RS), Pv_judgeAllK8 c A1 σ → Qv_judgeAllK8 c A1 σ w τ
set_option maxRecDepth 100000 in
set_option maxHeartbeats 4000000 in
theorem v_judgeAllK8 (c : RS) : UMet 82 (Pv_judgeAllK8 c) (Qv_judgeAllK8 c) := by sorry
theorem w_judgeAllK8 : UMet 82 (fun _ _ => True) Qw_judgeAllK8 := fun A1 σ _ w τ h c hP => v_judgeAllK8 c A1 σ hP w τ h
theorem w_68 {σ τ : RS} (h : EvM 82 [] σ none τ) : gI τ 68 = 1 := (w_judgeAllK8 [] σ trivial none τ h (sI σ 68 1) K8.rf).2
/-! both halves read a text alike -/
theorem at_le {x : TxY} (hx : 0 ≤ x.2) {n : Nat} (h : ∀ j, j < n → 0 < (oneY x (atY x j)).1 ∧ atY x j < x.2) : ∀ j, j ≤ n → 0 ≤ atY x j ∧ atY x j ≤ x.2 := by sorry
theorem sh_of {σ τ : RS} {x : TxY} {s : SpC} {n : Nat} (hx : okY x) (hL : LxQ σ τ x) (hT : TkS x s n) (hZ : Z0Y s) : ShR (sI (sI τ 14 0) 15 0) s := by sorry
theorem mlR_len {σ : RS} : ∀ n, (mlR σ n).length = n := by sorry
/-- the text on the reference's tape -/
def txR (ρ : RS) : TxY := (fun j => (aI ρ 0 j).toInt, (gI ρ 1).toInt)
theorem tx_ok {ρ : RS} (h : IV ρ) : okY (txR ρ) := by sorry
/-! texts that agree up to their length -/
def EqT (x y : TxY) : Prop := x.2 = y.2 ∧ ∀ j : Nat, (j : Int) < x.2 → x.1 j = y.1 j
theorem bt_q {x y : TxY} (h : EqT x y) : btY x = btY y := by sorry
theorem bb_c {x y : TxY} (hb : btY x = btY y) (h2 : x.2 = y.2) : ∀ (f : Nat) (i r : Int), bbY x f i r = bbY y f i r := by sorry
theorem sk_c {x y : TxY} (hb : btY x = btY y) (h2 : x.2 = y.2) (i : Int) : skY x i = skY y i := by sorry
theorem nm_c {x y : TxY} (hb : btY x = btY y) : ∀ (f : Nat) (e : Int) (l : List Int), nmY x f e l = nmY y f e l := by sorry
theorem nd_c {x y : TxY} (hb : btY x = btY y) : ∀ (f : Nat) (e : Int), ndY x f e = ndY y f e := by sorry
theorem one_c {x y : TxY} (hb : btY x = btY y) (h2 : x.2 = y.2) (i : Int) : oneY x i = oneY y i := by sorry
theorem at_c {x y : TxY} (h : EqT x y) : ∀ k, atY x k = atY y k := by sorry
/-- codes of tokens -/
theorem wc_ok {l : List Int} : ¬ wcY l = 84 ∧ ¬ wcY l = 85 := by sorry
theorem sg1_ok {b : Int} : ¬ (sg1Y b).2 = 84 ∧ ((sg1Y b).1 = 0 ∨ ¬ (sg1Y b).2 = 85) := by sorry
theorem one_ok {x : TxY} {i : Int} : ¬ (oneY x i).2 = 84 ∧ ((oneY x i).1 = 0 ∨ ¬ (oneY x i).2 = 85) := by sorry
/-- n tokens, then the end -/
def EndY (x : TxY) (n : Nat) : Prop := (∀ j, j < n → ¬ (oneY x (atY x j)).1 = 0 ∧ atY x j < x.2) ∧ atY x n = x.2
theorem EndY.c {x y : TxY} {n : Nat} (h : EndY x n) (e : EqT x y) : EndY y n := by sorry
/-! the reference between two calls: the program that stands, judged or not -/
def RfU (N : Int → Int) (σ : RS) (s : SpC) (z : ZS) : Prop := (gI σ 68 = 0 ∧ RdB N σ s z) ∨ (gI σ 68 = 1 ∧ JuR N σ s z)
section
variable {N : Int → Int} {σ τ : RS} {s : SpC} {z : ZS}
theorem RfU.f8 (h : RfU N σ s z) (f : F8 σ τ) : RfU N τ s z := by sorry
theorem RfU.jd (h : RfU N σ s z) (h91 : gI σ 91 = 0) (j : JdR σ τ) : gI τ 68 = 1 ∧ JuR N τ s z := by sorry
theorem JuR.f8 (h : JuR N σ s z) (f : F8 σ τ) : JuR N τ s z := by sorry
theorem hx_jd (h : HX σ τ) : ∃ X, JdR σ X ∧ F8 X τ := by sorry
theorem RfU.hx (h : RfU N σ s z) (h91 : gI σ 91 = 0) (j : HX σ τ) : gI τ 68 = 1 ∧ JuR N τ s z := by sorry
theorem RfU.ju (h : gI τ 68 = 1 ∧ JuR N τ s z) : RfU N τ s z := Or.inr h
theorem nv_c {x y : TxY} (hb : btY x = btY y) : ∀ (f : Nat) (e v : Int), nvY x f e v = nvY y f e v := by sorry
theorem nwo_c {x y : TxY} {i : Int} {v : Int64} (e : EqT x y) (h : WoC x i v) : WoC y i v := by sorry
theorem TkS.c8 {x y : TxY} {s : SpC} {n : Nat} (h : TkS x s n) (e : EqT x y) : TkS y s n := by sorry
theorem NwN.c {x y : TxY} {n : Nat} (h : NwN N x n) (e : EqT x y) : NwN N y n := by sorry
/-- a text is read well -/
theorem rfu_of {ρ T U : RS} {x : TxY} {n : Nat} (hok : okY x) (hx : (gI ρ 1).toInt = x.2 ∧ ∀ j, (aI ρ 0 j).toInt = x.1 j) (hZ : Z0Y s) (hT : TkS x s n) (hN : NwN N x n) (e1 : EvM 6 [] ρ none T) (e2 : EvM 37 [] T (some (.int 1)) U) : RdB N U s (prM N 11 (z0S s)) := by sorry
theorem RnG2.rb {ρ : RS} {n : Nat} (hI : IV ρ) (hZ : Z0Y s) (hT : TkS (txR ρ) s n) (hN : NwN N (txR ρ) n) (h : RnG2 ρ τ) (h68 : gI τ 68 = 0) : RfU N τ s (prM N 11 (z0S s)) := by sorry
/-- a text is read badly: what is kept is read again -/
theorem RnB2.rb {ρ : RS} {y : TxY} {n : Nat} (h : RnB2 ρ τ) (hy : okY y) (h2 : y.2 = (gI ρ 119).toInt) (h1 : ∀ j : Nat, (j : Int) < y.2 → y.1 j = (aI ρ 118 j).toInt) (hZ : Z0Y s) (hT : TkS y s n) (hN : NwN N y n) : RfU N τ s (prM N 11 (z0S s)) := by sorry
end
/-! judge's own run -/
theorem F8.i120 {σ : RS} {v : Int32} : F8 σ (sI σ 120 v) := F8.fn (Fn.rf.i rfl)
def Pv_judge : UP1 := fun A1 σ => match A1 with
  | [] => True
  | _ => False
def Qv_judge : UQ1 := fun A1 σ w τ => match A1 with
  | [] => ∃ X, JdR σ X ∧ F8 X τ ∧ w = some (.int (gI X 66))
  | _ => False
def Qw_judge : UQ1 := fun A1 σ w τ => Pv_judge A1 σ → Qv_judge A1 σ w τ
set_option maxRecDepth 100000 in
set_option maxHeartbeats 4000000 in
theorem v_judge : UMet 126 (Pv_judge) (Qv_judge) := by sorry
theorem w_judge : UMet 126 (fun _ _ => True) Qw_judge := fun A1 σ _ w τ h hP => v_judge A1 σ hP w τ h
theorem RfU.judge {N : Int → Int} {σ τ : RS} {s : SpC} {z : ZS} {w : Option Value} (h : RfU N σ s z) (h91 : gI σ 91 = 0) (e : EvM 126 [] σ w τ) : gI τ 68 = 1 ∧ JuR N τ s z := by sorry
theorem RfU.type {N : Int → Int} {σ τ : RS} {s : SpC} {z : ZS} {w : Option Value} {i k : Int32} {L : List Nat} (h : RfU N σ s z) (h91 : gI σ 91 = 0) (hL : L.length = (zMs z.1).length) (P : PrD N z L 0 (0, 0, []) (psM z)) (e : EvM 135 [.int i, .int k] σ w τ) : (gI τ 68 = 1 ∧ JuR N τ s z) ∧ ∃ r : Int32, w = some (.int r) ∧ ((r = -2 ∧ ∀ T, ¬ OkP N s z L T) ∨ ∃ T, OkP N s z L T ∧ r.toInt = tyW T z.2.1 i.toInt k.toInt) := by sorry
theorem RfU.constant {N : Int → Int} {σ τ : RS} {s : SpC} {z : ZS} {w : Option Value} {i k : Int32} {L : List Nat} (h : RfU N σ s z) (h91 : gI σ 91 = 0) (hL : L.length = (zMs z.1).length) (P : PrD N z L 0 (0, 0, []) (psM z)) (e : EvM 136 [.int i, .int k] σ w τ) : (gI τ 68 = 1 ∧ JuR N τ s z) ∧ ∃ r : Int64, w = some (.long r) ∧ ((r = NTW ∧ ∀ T, ¬ OkP N s z L T) ∨ ∃ T, OkP N s z L T ∧ r = coA T z.2.1 i.toInt k.toInt) := by sorry
/-! which variables are known at an S: by where they are told and where their scopes end -/
def A8 (z : ZS) : Prop := (∀ u : Nat, u < vnW z → ¬ (∃ p ∈ knW z, p.1 = (u : Int)) → enW z u < zAt z.1) ∧ ∀ j, j < snM z → SkD z j → fiS z j ≤ zAt z.1 ∧ (∀ p ∈ knS z j, 0 ≤ p.1 ∧ p.1 < (vnW z : Int)) ∧ ∀ v : Nat, v < vnW z → ((∃ p ∈ knS z j, p.1 = (v : Int)) ↔ (vrL (zVs z.1) v).1 < fiS z j ∧ ((∃ p ∈ knW z, p.1 = (v : Int)) ∨ fiS z j ≤ enW z v))
def Rk8 (N : Int → Int) (z0 z : ZS) : Prop := RkW N z0 z ∧ (zFt z.1 = 0 → KvI N z0 → A8 z0 → A8 z)
section
variable {N : Int → Int} {z0 z z' z1 : ZS} {j n k : Nat}
theorem A8.mv (h : A8 z) (ev : zVs z'.1 = zVs z.1) (ha : zAt z.1 ≤ zAt z'.1) (ek : knW z' = knW z) (ee : enW z' = enW z) (hs : snM z' = snM z ∧ ∀ i, i < snM z → (reS z' i).1 = (reS z i).1 ∧ knS z' i = knS z i) : A8 z' := by sorry
theorem Rk8.rf : Rk8 N z z := ⟨RkW.rf, fun _ _ h => h⟩
theorem Rk8.tr (h : Rk8 N z0 z) (g : Rk8 N z z1) : Rk8 N z0 z1 := by sorry
theorem Rk8.mv (r : RkW N z z') (e2 : z'.1.2 = z.1.2) (ek : knW z' = knW z) (ee : enW z' = enW z) (hs : snM z' = snM z ∧ ∀ i, i < snM z → (reS z' i).1 = (reS z i).1 ∧ knS z' i = knS z i) : Rk8 N z z' := by sorry
theorem Rk8.s {s' : SpC} (g : GpY z.1 s') (e2 : s'.2 = z.1.2) : Rk8 N z (s', z.2) := Rk8.mv (RkW.s g e2) e2 rfl rfl ⟨rfl, fun _ _ => ⟨rfl, rfl⟩⟩
theorem Rk8.ac : Rk8 N z (accM z) := Rk8.s (gd_acc _) mv_acc.1
theorem Rk8.ra {c : Int} : Rk8 N z (raiM c z) := Rk8.s (gd_rai _) mv_rai.1
theorem Rk8.xp {c : Int} : Rk8 N z (xpM c z) := Rk8.s (gd_xp _) mv_xp.1
theorem Rk8.ty : Rk8 N z (typM z) := Rk8.s (gd_typ _) mv_typ.1
theorem Rk8.it {y : Int × Int × Int × Int × Int} (hy : ¬ y.1 = 54) : Rk8 N z (z.1, .inr y :: z.2.1, z.2.2) := Rk8.mv (RkW.it hy) rfl rfl rfl ⟨rfl, fun _ _ => ⟨rfl, rfl⟩⟩
theorem Rk8.co {o a b t : Int} (h : ¬ o = 54) : Rk8 N z (coM o a b t z) := Rk8.it h
theorem Rk8.cx {o a b t : Int} (h : ¬ o = 54) : Rk8 N z (cxM o a b t z) := Rk8.it h
theorem Rk8.pu {x : XrZ} (h : x.1.1 = 15) : Rk8 N z (puM x z) := Rk8.mv (RkW.pu h) rfl rfl rfl ⟨rfl, fun _ _ => ⟨rfl, rfl⟩⟩
theorem Rk8.ar {i : Int} : Rk8 N z (arM i z) := Rk8.mv RkW.ar rfl rfl rfl ⟨rfl, fun _ _ => ⟨rfl, rfl⟩⟩
theorem Rk8.un : Rk8 N z (unM j z) := Rk8.ar
theorem Rk8.th : Rk8 N z (thM z) := Rk8.mv RkW.th rfl rfl rfl ⟨rfl, fun _ _ => ⟨rfl, rfl⟩⟩
theorem Rk8.se {f : SrZ → SrZ} (q : ∀ x : SrZ, (f x).2.1 = x.2.1 ∧ (f x).1 = x.1) : Rk8 N z (seM j f z) := by sorry
theorem Rk8.be {c l : Int} : Rk8 N z (beM c l z) := by sorry
theorem Rk8.bg {c : Int} : Rk8 N z (bgM c n z) := Rk8.be.tr (Rk8.co (by decide))
theorem Rk8.bh {c : Int} : Rk8 N z (bgH c n z) := Rk8.bg.tr Rk8.th
theorem Rk8.en {c : Nat} : Rk8 N z (enM j c z) := Rk8.co (by decide)
theorem Rk8.po : Rk8 N z (poM z) := Rk8.cx (by decide)
theorem Rk8.ee : Rk8 N z (eM N n z) := by sorry
theorem Rk8.dc {ty f h : Int} (ht : 0 ≤ ty ∧ ty ≤ 4) : Rk8 N z (dcM N ty f h z) := by sorry
/-- variables are left -/
theorem Rk8.vv {s' : SpC} {t : Int} {out : List (Int × Int)} (h : Rk8 N z0 z) (ho : out = knW z0) (g : GpY z.1 s') (e2 : s'.2 = z.1.2) (h1 : zAt z.1 - 1 ≤ t) (h2 : zFt s' = 0 → zAt z.1 ≤ 500 → t < zAt s') (h3 : zFt z.1 = 0 → KvI N z0 → A8 z0 → ∀ j, j < snM z → SkD z j → fiS z j ≤ zAt z.1 → fiS z j ≤ t) : Rk8 N z0 (s', (veM t out z).2) := by sorry
theorem Rk8.vx {c : Int} {out : List (Int × Int)} (h : Rk8 N z0 z) (ho : out = knW z0) : Rk8 N z0 (xpM c (veM (zAt z.1) out z)) := by sorry
theorem Rk8.vf {out : List (Int × Int)} (h : Rk8 N z0 z) (ho : out = knW z0) (h3 : zFt z.1 = 0 → KvI N z0 → A8 z0 → ∀ j, j < snM z → SkD z j → fiS z j < zAt z.1) : Rk8 N z0 (veM (zAt z.1 - 1) out z) := by sorry
end
section
variable {N : Int → Int} {z0 z : ZS} {j n k : Nat}
theorem Rk8.ex : Rk8 N z (exS N j n z) := Rk8.ee.tr (Rk8.se (by intro _; exact ⟨rfl, rfl⟩))
theorem Rk8.cd : Rk8 N z (cdM N j n z) := (Rk8.xp.tr Rk8.ex).tr Rk8.xp
theorem Rk8.bd : Rk8 N z (bdM j k z) := by sorry
theorem Rk8.xs : Rk8 N z (xsM N n z) := (((Rk8.bg.tr Rk8.ex).tr Rk8.po).tr Rk8.xp).tr Rk8.en
theorem Rk8.va2 {f v t : Int} : Rk8 N z (va2M N j n f v t z) := by sorry
theorem Rk8.va1 {f ty : Int} (ht : 0 ≤ ty ∧ ty ≤ 4) : Rk8 N z (va1M N j n f ty z) := by sorry
theorem Rk8.va : Rk8 N z (vaM N j n z) := by sorry
theorem Rk8.to : Rk8 N z (toM N n z) := ((Rk8.bg.tr Rk8.va).tr Rk8.xp).tr Rk8.en
theorem Rk8.fx1 : Rk8 N z (fx1M N n z) := (Rk8.be.tr Rk8.ex).tr Rk8.po
end
theorem Rk8.fxl {N : Int → Int} {n : Nat} : ∀ (f j : Nat) (z : ZS), Rk8 N z (fxlM N n f j z) := by sorry
section
variable {N : Int → Int} {z0 z : ZS} {j n k : Nat}
theorem Rk8.fx : Rk8 N z (fxM N n z) := Rk8.fx1.tr (Rk8.fxl 501 _ _)
theorem Rk8.cs {jn : Int} : Rk8 N z (csM N jn n z) := by sorry
theorem Rk8.ju {c : Int} (hc : c = 64 ∨ c = 65) : Rk8 N z (juM N c n z) := by sorry
theorem Rk8.gi {c : Int} (hc : c = 66 ∨ c = 67) : Rk8 N z (giM N c n z) := by sorry
abbrev RkS8 (N : Int → Int) (St : ZS → ZS) : Prop := ∀ z, Rk8 N z (St z)
abbrev RkR8 (N : Int → Int) (Rw : Int → Nat → ZS → ZS × Int) : Prop := ∀ (sw : Int) (jn : Nat) (z : ZS), Rk8 N z (Rw sw jn z).1
variable {St : ZS → ZS} {Rw : Int → Nat → ZS → ZS × Int}
theorem Rk8.blk (h : Rk8 N z0 z) (r : RkR8 N Rw) {o : List (Int × Int)} (ho : o = knW z0) : Rk8 N z0 (blkM Rw j o z) := by sorry
theorem Rk8.bo (h : Rk8 N z0 z) (r : RkR8 N Rw) {o : List (Int × Int)} (ho : o = knW z0) : Rk8 N z0 (boM Rw n o z) := (h.tr Rk8.be).blk r ho
theorem Rk8.bl (r : RkR8 N Rw) : Rk8 N z (blM Rw n z) := (Rk8.blk (Rk8.bh) r rfl).tr Rk8.en
theorem Rk8.em : Rk8 N z (emM n z) := (Rk8.bg.tr Rk8.ac).tr Rk8.en
theorem Rk8.la (s : RkS8 N St) : Rk8 N z (laM n St z) := by sorry
theorem Rk8.if2 (s : RkS8 N St) {c : Nat} : Rk8 N z (if2M St j k c z) := by sorry
theorem Rk8.if (s : RkS8 N St) : Rk8 N z (ifM N n St z) := by sorry
theorem Rk8.wh (s : RkS8 N St) : Rk8 N z (whM N n St z) := by sorry
theorem Rk8.do (s : RkS8 N St) : Rk8 N z (doM N n St z) := by sorry
theorem Rk8.fo1 : Rk8 N z (fo1M N j n z) := by sorry
theorem Rk8.fo2 : Rk8 N z (fo2M N j k n z) := by sorry
theorem Rk8.fo3 : Rk8 N z (fo3M N j n z) := by sorry
theorem Rk8.fob : Rk8 N z (foB N j k n z) := by sorry
theorem Rk8.fo (s : RkS8 N St) (tw : TwS St) : Rk8 N z (foM2 N n St z) := by sorry
theorem Rk8.sw (r : RkR8 N Rw) : Rk8 N z (swM N n Rw z) := by sorry
theorem Rk8.tr1 : Rk8 N z (tr1M z) := by sorry
theorem Rk8.tr2 (h : Rk8 N z0 z) (r : RkR8 N Rw) (hk : knS z j = knW z0) : Rk8 N z0 (tr2M N Rw j k n z) := by sorry
theorem Rk8.tr3 (h : Rk8 N z0 z) (r : RkR8 N Rw) (hk : knS z j = knW z0) : Rk8 N z0 (tr3M Rw j k n z) := by sorry
theorem Rk8.trr (r : RkR8 N Rw) : Rk8 N z (trM N n Rw z) := by sorry
theorem Rk8.sm (s : RkS8 N St) (tw : TwS St) (r : RkR8 N Rw) : Rk8 N z (smM N n St Rw z) := by sorry
theorem Rk8.rp2 (s : RkS8 N St) : Rk8 N z (rp2M N n St z) := by sorry
theorem Rk8.rp (s : RkS8 N St) {jn : Nat} {sw c : Int} : Rk8 N z (rpM N n St sw jn c z) := by sorry
theorem Rk8.nx {l : Int} {i : Nat} : Rk8 N z (nxM l i z) := by sorry
end
theorem Rk8.rwl {N : Int → Int} {St : ZS → ZS} (s : RkS8 N St) {n jn : Nat} {sw : Int} : ∀ (k : Nat) (f l : Int) (z : ZS), Rk8 N z (rwlM N n St sw jn k f l z).1 := by sorry
theorem Rk8.ls {N : Int → Int} : ∀ n, RkS8 N (lsM N n).1 ∧ RkR8 N (lsM N n).2 := by sorry
section
variable {N : Int → Int} {z : ZS}
theorem Rk8.pa2 {i : Nat} {ty f : Int} (ht : 0 ≤ ty ∧ ty ≤ 4) : Rk8 N z (pa2M N i ty f z) := by sorry
theorem Rk8.pa1 {i : Nat} : Rk8 N z (pa1M N i z) := by sorry
theorem Rk8.pal : ∀ (f i : Nat) (z : ZS), Rk8 N z (palM N f i z) := by sorry
theorem Rk8.pa : Rk8 N z (paM N z) := by sorry
/-- a method -/
theorem a8_me (h : zFt z.1 = 0 → KvP N z ∧ A8 z) : zFt (meM N z).1 = 0 → A8 (meM N z) := by sorry
end
theorem a8_pr {N : Int → Int} : ∀ (f : Nat) (z : ZS), (zFt z.1 = 0 → KvP N z ∧ A8 z) → zFt (prM N f z).1 = 0 → A8 (prM N f z) := by sorry
/-- in a program: the variables that are known at an S -/
theorem a8_all {N : Int → Int} {f : Nat} {s : SpC} (h : zFt (prM N f (z0S s)).1 = 0) (hs : Z0Y s) : ∀ j, j < snM (prM N f (z0S s)) → SkD (prM N f (z0S s)) j → (∀ p ∈ knS (prM N f (z0S s)) j, 0 ≤ p.1 ∧ p.1 < (vnW (prM N f (z0S s)) : Int)) ∧ ∀ v : Nat, v < vnW (prM N f (z0S s)) → ((∃ p ∈ knS (prM N f (z0S s)) j, p.1 = (v : Int)) ↔ (vrL (zVs (prM N f (z0S s)).1) v).1 < fiS (prM N f (z0S s)) j ∧ fiS (prM N f (z0S s)) j ≤ enW (prM N f (z0S s)) v) := by sorry
/-! what the reference answers: ends, assigned, means -/
def EnW (z : ZS) (G : List (Nat × Int64 × Bool)) (i : Int) (r : Int32) : Prop := (∃ x ∈ G, (fiS z x.1 = i ∧ SkD z x.1) ∧ r = if x.2.2 = true then 1 else 0) ∨ ((∀ x ∈ G, ¬ fiS z x.1 = i) ∧ r = -1)
def AsW (z : ZS) (G : List (Nat × Int64 × Bool)) (i : Int) (k r : Int32) : Prop := (∃ x ∈ G, (fiS z x.1 = i ∧ SkD z x.1) ∧ (∃ p ∈ knS z x.1, p.1 = k.toInt) ∧ ((bitR x.2.1 k ∧ r = 1) ∨ (¬ bitR x.2.1 k ∧ r = 0))) ∨ ((∀ x ∈ G, fiS z x.1 = i → ¬ ∃ p ∈ knS z x.1, p.1 = k.toInt) ∧ r = -1)
section
variable {N : Int → Int} {ρ σ τ : RS} {s : SpC} {z : ZS} {L : List Nat} {T : TbT}
theorem en_an (h : JgQ N ρ s z L T) (hf : FlO N z T (msM N koY kiY z.1) (V1W N s) (2 * snM z) L 0) (P : PrD N z L 0 (0, 0, []) (psM z)) {i r : Int32} (hr : (¬ (tokR ρ i ∧ ¬ aI ρ 109 i.toNatClampNeg = 0) ∧ r = -1) ∨ ((tokR ρ i ∧ ¬ aI ρ 109 i.toNatClampNeg = 0) ∧ r = if aI ρ 111 i.toNatClampNeg = 0 then 0 else 1)) : EnW z (GlW N s z L T) i.toInt r := by sorry
theorem RdA.en (h : RdA N σ s z) {k : Nat} (hk : k < vnW z) : (aI σ 48 k).toInt = enW z k := by sorry
theorem as_an (h : JgQ N ρ s z L T) (hf : FlO N z T (msM N koY kiY z.1) (V1W N s) (2 * snM z) L 0) (P : PrD N z L 0 (0, 0, []) (psM z)) {i k r : Int32} (hr : (¬ (tokR ρ i ∧ ¬ aI ρ 109 i.toNatClampNeg = 0 ∧ 0 ≤ k ∧ k < gI ρ 42 ∧ aI ρ 43 k.toNatClampNeg < i ∧ i ≤ aI ρ 48 k.toNatClampNeg) ∧ r = -1) ∨ ((tokR ρ i ∧ ¬ aI ρ 109 i.toNatClampNeg = 0 ∧ 0 ≤ k ∧ k < gI ρ 42 ∧ aI ρ 43 k.toNatClampNeg < i ∧ i ≤ aI ρ 48 k.toNatClampNeg) ∧ ((bitR (aL ρ 110 i.toNatClampNeg) k ∧ r = 1) ∨ (¬ bitR (aL ρ 110 i.toNatClampNeg) k ∧ r = 0)))) : AsW z (GlW N s z L T) i.toInt k r := by sorry
theorem RfU.ends {w : Option Value} {i : Int32} (h : RfU N σ s z) (h91 : gI σ 91 = 0) (hL : L.length = (zMs z.1).length) (P : PrD N z L 0 (0, 0, []) (psM z)) (e : EvM 137 [.int i] σ w τ) : (gI τ 68 = 1 ∧ JuR N τ s z) ∧ ∃ r : Int32, w = some (.int r) ∧ ((r = -2 ∧ ∀ T, ¬ OkP N s z L T) ∨ ∃ T, OkP N s z L T ∧ EnW z (GlW N s z L T) i.toInt r) := by sorry
theorem RfU.assigned {w : Option Value} {i k : Int32} (h : RfU N σ s z) (h91 : gI σ 91 = 0) (hL : L.length = (zMs z.1).length) (P : PrD N z L 0 (0, 0, []) (psM z)) (e : EvM 138 [.int i, .int k] σ w τ) : (gI τ 68 = 1 ∧ JuR N τ s z) ∧ ∃ r : Int32, w = some (.int r) ∧ ((r = -2 ∧ ∀ T, ¬ OkP N s z L T) ∨ ∃ T, OkP N s z L T ∧ AsW z (GlW N s z L T) i.toInt k r) := by sorry
theorem RfU.means {w : Option Value} {i : Int32} (h : RfU N σ s z) (h91 : gI σ 91 = 0) (hL : L.length = (zMs z.1).length) (P : PrD N z L 0 (0, 0, []) (psM z)) (e : EvM 133 [.int i] σ w τ) : ∃ r : Int32, w = some (.int r) ∧ ((¬ (tokR σ i ∧ aI σ 3 i.toNatClampNeg = 1) ∧ r = -1 ∧ τ = σ) ∨ ((tokR σ i ∧ aI σ 3 i.toNatClampNeg = 1) ∧ (gI τ 68 = 1 ∧ JuR N τ s z) ∧ ((r = -2 ∧ ∀ T, ¬ OkP N s z L T) ∨ ∃ T σ0, OkP N s z L T ∧ RdB N σ0 s z ∧ r.toInt = meZ (bmR σ0 z) (kdR σ0) T z.2.1 i.toNatClampNeg))) := by sorry
end
/-! the reference when nothing was read yet -/
def NoR (σ : RS) : Prop := ((gI σ 2).toInt = 0 ∧ (gI σ 18).toInt = 0) ∧ (gI σ 36).toInt = 0 ∧ (gI σ 42).toInt = 0
def NoJ (σ : RS) : Prop := gI σ 66 = 0 ∧ (gI σ 74).toInt = 0 ∧ (gI σ 2).toInt = 0
def NoU (σ : RS) : Prop := (gI σ 68 = 0 ∧ NoR σ) ∨ (gI σ 68 = 1 ∧ NoJ σ)
def NoC : CxT := (fun _ => 0, fun _ => (0, 0), 0, fun i => if i = 10 then some (0, 5, [4]) else if i = 11 then some (0, 3, []) else none)
def NoT : TbT := (fun _ => (0, 0, 0, 0), fun _ => (0, 0))
theorem no_mt {Y : RS} (h : (gI Y 36).toInt = 0) : MtR Y NoC.2.2.2 0 := by sorry
theorem fl0_n {σ : RS} : gI (fl0 σ) 112 = 0 ∧ gI (fl0 σ) 114 = 0 := ⟨rfl, rfl⟩
theorem flt_0 {σ : RS} (h : ¬ 0 < gI σ 18) : ∀ (n : Nat) (Y : RS) (c m : Int32), FlT (fl0 σ) n Y c m → Y = fl0 σ ∧ c = 0 := by sorry
theorem no_j {σ τ : RS} (h : NoR σ) (h91 : gI σ 91 = 0) (ev : EvM 82 [] σ none τ) : NoJ τ := by sorry
/-- what stands where nothing was read: the program of an empty text -/
def EmW (z : ZS) : Prop := z.2.1 = [] ∧ zMs z.1 = [] ∧ zVs z.1 = []
def RfS (N : Int → Int) (σ : RS) (s : SpC) (z : ZS) : Prop := RfU N σ s z ∨ (NoU σ ∧ EmW z)
theorem em_ok {N : Int → Int} {s : SpC} {z : ZS} (h : EmW z) : OkP N s z [] (t0T (CxR N z).1 (fun i => xth z i)) := by sorry
section
variable {N : Int → Int} {σ τ : RS} {s : SpC} {z : ZS} {L : List Nat}
theorem F8.no (f : F8 σ τ) (h : NoU σ) : NoU τ := by sorry
theorem NoU.jd (h : NoU σ) (h91 : gI σ 91 = 0) (j : JdR σ τ) : gI τ 68 = 1 ∧ NoJ τ := by sorry
theorem RfS.f8 (h : RfS N σ s z) (f : F8 σ τ) : RfS N τ s z := h.imp (fun q => q.f8 f) (fun q => ⟨f.no q.1, q.2⟩)
theorem RfS.jd (h : RfS N σ s z) (h91 : gI σ 91 = 0) (j : JdR σ τ) : RfS N τ s z := by sorry
theorem RfS.hx (h : RfS N σ s z) (h91 : gI σ 91 = 0) (j : HX σ τ) : RfS N τ s z := by sorry
theorem RfS.judge {w : Option Value} (h : RfS N σ s z) (h91 : gI σ 91 = 0) (e : EvM 126 [] σ w τ) : RfS N τ s z := by sorry
theorem xa_no {i k x : Int32} (h : (gI τ 74).toInt = 0) (hx : XaR τ i k x) : x < 0 := by sorry
theorem tkn_no {i : Int32} (h : (gI τ 2).toInt = 0) : ¬ tokR τ i := by sorry
theorem em_L (h : EmW z) (hL : L.length = (zMs z.1).length) : L = [] := by sorry
theorem RfS.type {w : Option Value} {i k : Int32} (h : RfS N σ s z) (h91 : gI σ 91 = 0) (hL : L.length = (zMs z.1).length) (P : PrD N z L 0 (0, 0, []) (psM z)) (e : EvM 135 [.int i, .int k] σ w τ) : RfS N τ s z ∧ ∃ r : Int32, w = some (.int r) ∧ ((r = -2 ∧ ∀ T, ¬ OkP N s z L T) ∨ ∃ T, OkP N s z L T ∧ r.toInt = tyW T z.2.1 i.toInt k.toInt) := by sorry
theorem RfS.constant {w : Option Value} {i k : Int32} (h : RfS N σ s z) (h91 : gI σ 91 = 0) (hL : L.length = (zMs z.1).length) (P : PrD N z L 0 (0, 0, []) (psM z)) (e : EvM 136 [.int i, .int k] σ w τ) : RfS N τ s z ∧ ∃ r : Int64, w = some (.long r) ∧ ((r = NTW ∧ ∀ T, ¬ OkP N s z L T) ∨ ∃ T, OkP N s z L T ∧ r = coA T z.2.1 i.toInt k.toInt) := by sorry
theorem RfS.ends {w : Option Value} {i : Int32} (h : RfS N σ s z) (h91 : gI σ 91 = 0) (hL : L.length = (zMs z.1).length) (P : PrD N z L 0 (0, 0, []) (psM z)) (e : EvM 137 [.int i] σ w τ) : RfS N τ s z ∧ ∃ r : Int32, w = some (.int r) ∧ ((r = -2 ∧ ∀ T, ¬ OkP N s z L T) ∨ ∃ T, OkP N s z L T ∧ EnW z (GlW N s z L T) i.toInt r) := by sorry
theorem RfS.assigned {w : Option Value} {i k : Int32} (h : RfS N σ s z) (h91 : gI σ 91 = 0) (hL : L.length = (zMs z.1).length) (P : PrD N z L 0 (0, 0, []) (psM z)) (e : EvM 138 [.int i, .int k] σ w τ) : RfS N τ s z ∧ ∃ r : Int32, w = some (.int r) ∧ ((r = -2 ∧ ∀ T, ¬ OkP N s z L T) ∨ ∃ T, OkP N s z L T ∧ AsW z (GlW N s z L T) i.toInt k r) := by sorry
theorem RfS.means {w : Option Value} {i : Int32} (h : RfS N σ s z) (h91 : gI σ 91 = 0) (hL : L.length = (zMs z.1).length) (P : PrD N z L 0 (0, 0, []) (psM z)) (e : EvM 133 [.int i] σ w τ) : RfS N τ s z ∧ ∃ r : Int32, w = some (.int r) ∧ ((¬ (tokR σ i ∧ aI σ 3 i.toNatClampNeg = 1) ∧ r = -1) ∨ ((tokR σ i ∧ aI σ 3 i.toNatClampNeg = 1) ∧ ((r = -2 ∧ ∀ T, ¬ OkP N s z L T) ∨ ∃ T σ0, OkP N s z L T ∧ RdB N σ0 s z ∧ r.toInt = meZ (bmR σ0 z) (kdR σ0) T z.2.1 i.toNatClampNeg))) := by sorry
/-- an empty text's program -/
theorem em_of {y : TxY} (hZ : Z0Y s) (hT : TkS y s 0) (h2 : y.2 = 0) : EmW (prM N 11 (z0S s)) := by sorry
end
/-! what the class answers: exps, S's by their tokens -/
def EqX (z : ZS) (q : Nat) (i k : Int) : Prop := (xth z q).1.1 ≤ 10 ∧ (xth z q).1.2.2.1 = i ∧ (xth z q).1.2.2.2 = k
def EqS (z : ZS) (j : Nat) (i : Int) : Prop := fiS z j = i ∧ SkD z j
/-- a program's exps -/
def ExL (E A : Nat → Nat) (σ : CsC) (z : ZS) : Prop := fRC σ (E 1) 213 = some (E 213) ∧ LiC σ (E 213) (xnM z) A ∧ (∀ q, q < xnM z → (fIC σ (A q) 60).toInt = (xth z q).1.1 ∧ (fIC σ (A q) 62).toInt = (xth z q).1.2.2.1 ∧ (fIC σ (A q) 64).toInt = (xth z q).1.2.2.2) ∧ xnM z ≤ 100000
def StL (E B : Nat → Nat) (σ : CsC) (z : ZS) : Prop := fRC σ (E 1) 214 = some (E 214) ∧ LiC σ (E 214) (snM z) B ∧ (∀ j, j < snM z → (fIC σ (B j) 270).toInt = kjS z j ∧ (fIC σ (B j) 271).toInt = fiS z j) ∧ snM z ≤ 100000
abbrev Pz_expAt : ((Int → Int) × (Nat → Nat) × (Nat → Nat) × (Nat → Nat) × (Nat → Nat) × ZS) → CpC := fun y As σ => match y with
  | (N, E, A, B, V, z) => ∃ (p1 : Int32) (p2 : Int32), As = [.inr (.inr (some (E 1))), .inl p1, .inl p2] ∧ (ExL E A σ z)
abbrev Qz_expAt : ((Int → Int) × (Nat → Nat) × (Nat → Nat) × (Nat → Nat) × (Nat → Nat) × ZS) → CqC := fun y As σ w τ => match y, As with
  | (N, E, A, B, V, z), [_, .inl p1, .inl p2] => σ = τ ∧ ((w = some (.inr (.inr none)) ∧ ∀ q, q < xnM z → ¬ EqX z q p1.toInt p2.toInt) ∨ ∃ q, q < xnM z ∧ w = some (.inr (.inr (some (A q)))) ∧ EqX z q p1.toInt p2.toInt)
  | _, _ => True
abbrev Uz_expAt : CqC := fun As σ w τ => ∀ y, Pz_expAt y As σ → Qz_expAt y As σ w τ
set_option maxHeartbeats 4000000 in
theorem pz_expAt (y : (Int → Int) × (Nat → Nat) × (Nat → Nat) × (Nat → Nat) × (Nat → Nat) × ZS) : PbC KX6_expAt [(234, TrP, EqC 234), (235, TrP, EqC 235)] [] (fun As σ => Pz_expAt y As σ ∧ cnC σ ≤ 1000000 ∧ ∃ w τ, uqC quL 120 As σ w τ) (Qz_expAt y) := by sorry
theorem wz_expAt : ∀ (L : Nat) (As : List AvC) (σ : CsC) (w : Option AvC) (τ : CsC), EvF L 120 As σ w τ → Uz_expAt As σ w τ := by sorry
abbrev Pz_isPart : ((Int → Int) × (Nat → Nat) × (Nat → Nat) × (Nat → Nat) × (Nat → Nat) × ZS × Nat) → CpC := fun y As σ => match y with
  | (N, E, A, B, V, z, j) => ∃ (p0 : Nat), As = [.inr (.inr (some p0))] ∧ ((fIC σ p0 270).toInt = kjS z j)
abbrev Qz_isPart : ((Int → Int) × (Nat → Nat) × (Nat → Nat) × (Nat → Nat) × (Nat → Nat) × ZS × Nat) → CqC := fun y As σ w τ => match y, As with
  | (N, E, A, B, V, z, j), [.inr (.inr (some p0))] => ∃ r, w = some (.inl r) ∧ ((r.toInt = 1 ∧ ¬ SkD z j) ∨ (r.toInt = 0 ∧ SkD z j)) ∧ σ = τ
  | _, _ => True
abbrev Uz_isPart : CqC := fun As σ w τ => ∀ y, Pz_isPart y As σ → Qz_isPart y As σ w τ
set_option maxHeartbeats 4000000 in
theorem pz_isPart (y : (Int → Int) × (Nat → Nat) × (Nat → Nat) × (Nat → Nat) × (Nat → Nat) × ZS × Nat) : PbC KX8_isPart [] [] (fun As σ => Pz_isPart y As σ ∧ cnC σ ≤ 1000000 ∧ ∃ w τ, uqC quL 180 As σ w τ) (Qz_isPart y) := by sorry
theorem wz_isPart : ∀ (L : Nat) (As : List AvC) (σ : CsC) (w : Option AvC) (τ : CsC), EvF L 180 As σ w τ → Uz_isPart As σ w τ := by sorry
abbrev Pz_statementAt : ((Int → Int) × (Nat → Nat) × (Nat → Nat) × (Nat → Nat) × (Nat → Nat) × ZS) → CpC := fun y As σ => match y with
  | (N, E, A, B, V, z) => ∃ (p1 : Int32), As = [.inr (.inr (some (E 1))), .inl p1] ∧ (StL E B σ z)
abbrev Qz_statementAt : ((Int → Int) × (Nat → Nat) × (Nat → Nat) × (Nat → Nat) × (Nat → Nat) × ZS) → CqC := fun y As σ w τ => match y, As with
  | (N, E, A, B, V, z), [_, .inl p1] => σ = τ ∧ ((w = some (.inr (.inr none)) ∧ ∀ q, q < snM z → ¬ EqS z q p1.toInt) ∨ ∃ q, q < snM z ∧ w = some (.inr (.inr (some (B q)))) ∧ EqS z q p1.toInt)
  | _, _ => True
abbrev Uz_statementAt : CqC := fun As σ w τ => ∀ y, Pz_statementAt y As σ → Qz_statementAt y As σ w τ
set_option maxHeartbeats 4000000 in
theorem pz_statementAt (y : (Int → Int) × (Nat → Nat) × (Nat → Nat) × (Nat → Nat) × (Nat → Nat) × ZS) : PbC KX6_statementAt [(234, TrP, EqC 234), (235, TrP, EqC 235), (180, TrP, EqC 180)] [(180, Uz_isPart)] (fun As σ => Pz_statementAt y As σ ∧ cnC σ ≤ 1000000 ∧ ∃ w τ, uqC quL 121 As σ w τ) (Qz_statementAt y) := by sorry
theorem wz_statementAt : ∀ (L : Nat) (As : List AvC) (σ : CsC) (w : Option AvC) (τ : CsC), EvF L 121 As σ w τ → Uz_statementAt As σ w τ := by sorry
/-! what the class answers: type, constant, ends, assigned -/
/-- a program that stands without ERRORS: its exps, its S's -/
def AxL (E A : Nat → Nat) (σ : CsC) (z : ZS) (T : TbT) : Prop := ExL E A σ z ∧ ∀ q, q < xnM z → TwC σ (A q) (T.1 q)
def KnL (E B V : Nat → Nat) (σ : CsC) (z : ZS) : Prop := StL E B σ z ∧ (fRC σ (E 1) 212 = some (E 212) ∧ LiC σ (E 212) (vnW z) V ∧ vnW z ≤ 60) ∧ ∀ j, j < snM z → KbC (fLC σ (B j) 274) (knS z j) ∧ (SkD z j → ∀ p ∈ knS z j, 0 ≤ p.1 ∧ p.1 < (vnW z : Int))
theorem kb_n {x : Int64} {l : List (Int × Int)} (h : KbC x l) {v : Int} (h0 : 0 ≤ v) (h1 : v < 64) : x.toBitVec.getLsbD v.toNat = true ↔ ∃ p ∈ l, p.1 = v := by sorry
abbrev Pz_type : ((Int → Int) × (Nat → Nat) × (Nat → Nat) × (Nat → Nat) × (Nat → Nat) × ZS × TbT) → CpC := fun y As σ => match y with
  | (N, E, A, B, V, z, T) => ∃ (p1 : Int32) (p2 : Int32), As = [.inr (.inr (some (E 11))), .inl p1, .inl p2] ∧ (fRC σ (E 11) 363 = some (E 1)) ∧ (fIC σ (E 1) 217 = 0 → AxL E A σ z T)
abbrev Qz_type : ((Int → Int) × (Nat → Nat) × (Nat → Nat) × (Nat → Nat) × (Nat → Nat) × ZS × TbT) → CqC := fun y As σ w τ => match y, As with
  | (N, E, A, B, V, z, T), [_, .inl p1, .inl p2] => σ = τ ∧ ∃ r, w = some (.inl r) ∧ ((erC E σ ∧ r.toInt = -2) ∨ (¬ erC E σ ∧ ((r.toInt = -1 ∧ ∀ q, q < xnM z → ¬ EqX z q p1.toInt p2.toInt) ∨ ∃ q, q < xnM z ∧ EqX z q p1.toInt p2.toInt ∧ r.toInt = (T.1 q).1)))
  | _, _ => True
abbrev Uz_type : CqC := fun As σ w τ => ∀ y, Pz_type y As σ → Qz_type y As σ w τ
set_option maxHeartbeats 4000000 in
theorem pz_type (y : (Int → Int) × (Nat → Nat) × (Nat → Nat) × (Nat → Nat) × (Nat → Nat) × ZS × TbT) : PbC KX11_type [(120, TrP, EqC 120)] [(120, Uz_expAt)] (fun As σ => Pz_type y As σ ∧ cnC σ ≤ 1000000 ∧ ∃ w τ, uqC quL 212 As σ w τ) (Qz_type y) := by sorry
theorem wz_type : ∀ (L : Nat) (As : List AvC) (σ : CsC) (w : Option AvC) (τ : CsC), EvF L 212 As σ w τ → Uz_type As σ w τ := by sorry
abbrev Pz_constant : ((Int → Int) × (Nat → Nat) × (Nat → Nat) × (Nat → Nat) × (Nat → Nat) × ZS × TbT) → CpC := fun y As σ => match y with
  | (N, E, A, B, V, z, T) => ∃ (p1 : Int32) (p2 : Int32), As = [.inr (.inr (some (E 11))), .inl p1, .inl p2] ∧ (fRC σ (E 11) 363 = some (E 1)) ∧ (fIC σ (E 1) 217 = 0 → AxL E A σ z T)
abbrev Qz_constant : ((Int → Int) × (Nat → Nat) × (Nat → Nat) × (Nat → Nat) × (Nat → Nat) × ZS × TbT) → CqC := fun y As σ w τ => match y, As with
  | (N, E, A, B, V, z, T), [_, .inl p1, .inl p2] => σ = τ ∧ ∃ r, w = some (.inr (.inl r)) ∧ ((erC E σ ∧ r = Int64.ofInt (-1234567890123)) ∨ (¬ erC E σ ∧ ((r = Int64.ofInt (-1234567890123) ∧ ∀ q, q < xnM z → ¬ EqX z q p1.toInt p2.toInt) ∨ ∃ q, q < xnM z ∧ EqX z q p1.toInt p2.toInt ∧ r = if (T.1 q).2.1 = 0 then Int64.ofInt (-1234567890123) else (T.1 q).2.2.1)))
  | _, _ => True
abbrev Uz_constant : CqC := fun As σ w τ => ∀ y, Pz_constant y As σ → Qz_constant y As σ w τ
set_option maxHeartbeats 4000000 in
theorem pz_constant (y : (Int → Int) × (Nat → Nat) × (Nat → Nat) × (Nat → Nat) × (Nat → Nat) × ZS × TbT) : PbC KX11_constant [(120, TrP, EqC 120)] [(120, Uz_expAt)] (fun As σ => Pz_constant y As σ ∧ cnC σ ≤ 1000000 ∧ ∃ w τ, uqC quL 213 As σ w τ) (Qz_constant y) := by sorry
theorem wz_constant : ∀ (L : Nat) (As : List AvC) (σ : CsC) (w : Option AvC) (τ : CsC), EvF L 213 As σ w τ → Uz_constant As σ w τ := by sorry
abbrev Pz_ends : ((Int → Int) × (Nat → Nat) × (Nat → Nat) × (Nat → Nat) × (Nat → Nat) × ZS) → CpC := fun y As σ => match y with
  | (N, E, A, B, V, z) => ∃ (p1 : Int32), As = [.inr (.inr (some (E 11))), .inl p1] ∧ (fRC σ (E 11) 363 = some (E 1)) ∧ (fIC σ (E 1) 217 = 0 → StL E B σ z)
abbrev Qz_ends : ((Int → Int) × (Nat → Nat) × (Nat → Nat) × (Nat → Nat) × (Nat → Nat) × ZS) → CqC := fun y As σ w τ => match y, As with
  | (N, E, A, B, V, z), [_, .inl p1] => σ = τ ∧ ∃ r, w = some (.inl r) ∧ ((erC E σ ∧ r.toInt = -2) ∨ (¬ erC E σ ∧ ((r.toInt = -1 ∧ ∀ q, q < snM z → ¬ EqS z q p1.toInt) ∨ ∃ q, q < snM z ∧ EqS z q p1.toInt ∧ ((¬ (fIC σ (B q) 282).toInt = 0 ∧ r.toInt = 1) ∨ ((fIC σ (B q) 282).toInt = 0 ∧ r.toInt = 0)))))
  | _, _ => True
abbrev Uz_ends : CqC := fun As σ w τ => ∀ y, Pz_ends y As σ → Qz_ends y As σ w τ
set_option maxHeartbeats 4000000 in
theorem pz_ends (y : (Int → Int) × (Nat → Nat) × (Nat → Nat) × (Nat → Nat) × (Nat → Nat) × ZS) : PbC KX11_ends [(121, TrP, EqC 121)] [(121, Uz_statementAt)] (fun As σ => Pz_ends y As σ ∧ cnC σ ≤ 1000000 ∧ ∃ w τ, uqC quL 214 As σ w τ) (Qz_ends y) := by sorry
theorem wz_ends : ∀ (L : Nat) (As : List AvC) (σ : CsC) (w : Option AvC) (τ : CsC), EvF L 214 As σ w τ → Uz_ends As σ w τ := by sorry
abbrev Pz_assigned : ((Int → Int) × (Nat → Nat) × (Nat → Nat) × (Nat → Nat) × (Nat → Nat) × ZS) → CpC := fun y As σ => match y with
  | (N, E, A, B, V, z) => ∃ (p1 : Int32) (p2 : Int32), As = [.inr (.inr (some (E 11))), .inl p1, .inl p2] ∧ (fRC σ (E 11) 363 = some (E 1)) ∧ (fIC σ (E 1) 217 = 0 → KnL E B V σ z)
abbrev Qz_assigned : ((Int → Int) × (Nat → Nat) × (Nat → Nat) × (Nat → Nat) × (Nat → Nat) × ZS) → CqC := fun y As σ w τ => match y, As with
  | (N, E, A, B, V, z), [_, .inl p1, .inl p2] => σ = τ ∧ ∃ r, w = some (.inl r) ∧ ((erC E σ ∧ r.toInt = -2) ∨ (¬ erC E σ ∧ ((r.toInt = -1 ∧ ((∀ q, q < snM z → ¬ EqS z q p1.toInt) ∨ ∃ q, q < snM z ∧ EqS z q p1.toInt ∧ ¬ ∃ p ∈ knS z q, p.1 = p2.toInt)) ∨ ∃ q, q < snM z ∧ EqS z q p1.toInt ∧ (∃ p ∈ knS z q, p.1 = p2.toInt) ∧ ((hasQ (fLC σ (B q) 285) p2.toInt = true ∧ r.toInt = 1) ∨ (hasQ (fLC σ (B q) 285) p2.toInt = false ∧ r.toInt = 0)))))
  | _, _ => True
abbrev Uz_assigned : CqC := fun As σ w τ => ∀ y, Pz_assigned y As σ → Qz_assigned y As σ w τ
set_option maxHeartbeats 4000000 in
theorem pz_assigned (y : (Int → Int) × (Nat → Nat) × (Nat → Nat) × (Nat → Nat) × (Nat → Nat) × ZS) : PbC KX11_assigned [(121, TrP, EqC 121), (234, TrP, EqC 234), (221, TrP, EqC 221)] [(121, Uz_statementAt), (221, Uz_has)] (fun As σ => Pz_assigned y As σ ∧ cnC σ ≤ 1000000 ∧ ∃ w τ, uqC quL 215 As σ w τ) (Qz_assigned y) := by sorry
theorem wz_assigned : ∀ (L : Nat) (As : List AvC) (σ : CsC) (w : Option AvC) (τ : CsC), EvF L 215 As σ w τ → Uz_assigned As σ w τ := by sorry
/-! both halves answer alike: type, constant, ends, assigned -/
def AnC (N : Int → Int) (E A B V : Nat → Nat) (σ : CsC) (s : SpC) (z : ZS) (L : List Nat) : Prop := (erC E σ ∧ ∀ T, ¬ OkP N s z L T) ∨ (¬ erC E σ ∧ ∃ T, OkP N s z L T ∧ AxL E A σ z T ∧ KnL E B V σ z ∧ ∀ x ∈ GlW N s z L T, x.1 < snM z ∧ (SkD z x.1 → (fIC σ (B x.1) 282).toInt = bZI x.2.2) ∧ fLC σ (B x.1) 285 = x.2.1)
section
variable {N : Int → Int} {E A B V : Nat → Nat} {σ : CsC} {s : SpC} {z : ZS} {L : List Nat} {T U : TbT}
theorem okp_un (h : OkP N s z L T) (g : OkP N s z L U) : U = T := Option.some.inj (g.2.1.symm.trans h.2.1)
theorem ls_n0 {i k : Int} : ∀ {l : List ItZ}, (∀ x m, (.inl x :: m) <:+ l → x.1.1 ≤ 10 → ¬ (x.1.2.2.1 = i ∧ x.1.2.2.2 = k)) → lsW i k l = none := by sorry
theorem lsx_no {i k : Int} (h : ∀ q, q < xnM z → ¬ EqX z q i k) : lsW i k z.2.1 = none := by sorry
theorem ls_is (hE : EaI z) {q : Nat} (hq : q < xnM z) {i k : Int} (h : EqX z q i k) : lsW i k z.2.1 = some q := by sorry
theorem sm_type (hA : AnC N E A B V σ s z L) (hE : EaI z) {i k r r2 : Int32} (h1 : ∀ T, (fIC σ (E 1) 217 = 0 → AxL E A σ z T) → (erC E σ ∧ r.toInt = -2) ∨ (¬ erC E σ ∧ ((r.toInt = -1 ∧ ∀ q, q < xnM z → ¬ EqX z q i.toInt k.toInt) ∨ ∃ q, q < xnM z ∧ EqX z q i.toInt k.toInt ∧ r.toInt = (T.1 q).1))) (h2 : (r2 = -2 ∧ ∀ T, ¬ OkP N s z L T) ∨ ∃ T, OkP N s z L T ∧ r2.toInt = tyW T z.2.1 i.toInt k.toInt) : r = r2 := by sorry
theorem sm_constant (hA : AnC N E A B V σ s z L) (hE : EaI z) {i k : Int32} {r r2 : Int64} (h1 : ∀ T, (fIC σ (E 1) 217 = 0 → AxL E A σ z T) → (erC E σ ∧ r = Int64.ofInt (-1234567890123)) ∨ (¬ erC E σ ∧ ((r = Int64.ofInt (-1234567890123) ∧ ∀ q, q < xnM z → ¬ EqX z q i.toInt k.toInt) ∨ ∃ q, q < xnM z ∧ EqX z q i.toInt k.toInt ∧ r = if (T.1 q).2.1 = 0 then Int64.ofInt (-1234567890123) else (T.1 q).2.2.1))) (h2 : (r2 = NTW ∧ ∀ T, ¬ OkP N s z L T) ∨ ∃ T, OkP N s z L T ∧ r2 = coA T z.2.1 i.toInt k.toInt) : r = r2 := by sorry
theorem sm_ends (hA : AnC N E A B V σ s z L) (hK : TkI z) (hC : ∀ T, OkP N s z L T → ∀ j, j < snM z → SkD z j → ∃ x ∈ GlW N s z L T, x.1 = j) {i r r2 : Int32} (h1 : (fIC σ (E 1) 217 = 0 → StL E B σ z) → (erC E σ ∧ r.toInt = -2) ∨ (¬ erC E σ ∧ ((r.toInt = -1 ∧ ∀ q, q < snM z → ¬ EqS z q i.toInt) ∨ ∃ q, q < snM z ∧ EqS z q i.toInt ∧ ((¬ (fIC σ (B q) 282).toInt = 0 ∧ r.toInt = 1) ∨ ((fIC σ (B q) 282).toInt = 0 ∧ r.toInt = 0))))) (h2 : (r2 = -2 ∧ ∀ T, ¬ OkP N s z L T) ∨ ∃ T, OkP N s z L T ∧ EnW z (GlW N s z L T) i.toInt r2) : r = r2 := by sorry
theorem sm_assigned (hA : AnC N E A B V σ s z L) (hK : TkI z) (hC : ∀ T, OkP N s z L T → ∀ j, j < snM z → SkD z j → ∃ x ∈ GlW N s z L T, x.1 = j) {i k r r2 : Int32} (h1 : (fIC σ (E 1) 217 = 0 → KnL E B V σ z) → (erC E σ ∧ r.toInt = -2) ∨ (¬ erC E σ ∧ ((r.toInt = -1 ∧ ((∀ q, q < snM z → ¬ EqS z q i.toInt) ∨ ∃ q, q < snM z ∧ EqS z q i.toInt ∧ ¬ ∃ p ∈ knS z q, p.1 = k.toInt)) ∨ ∃ q, q < snM z ∧ EqS z q i.toInt ∧ (∃ p ∈ knS z q, p.1 = k.toInt) ∧ ((hasQ (fLC σ (B q) 285) k.toInt = true ∧ r.toInt = 1) ∨ (hasQ (fLC σ (B q) 285) k.toInt = false ∧ r.toInt = 0))))) (h2 : (r2 = -2 ∧ ∀ T, ¬ OkP N s z L T) ∨ ∃ T, OkP N s z L T ∧ AsW z (GlW N s z L T) i.toInt k r2) : r = r2 := by sorry
end
/-! what the class's judge leaves is what its answers need -/
abbrev anF : List Nat := [999, 902, 1, 2, 60, 62, 64, 212, 213, 214, 270, 271, 274]
theorem LiC.f9 {M : List Nat} {σ τ : CsC} {a n : Nat} {A : Nat → Nat} (h : LiC σ a n A) (f : FrE M σ τ) (hM : anF.all (fun k => !M.elem k) = true) (ha : a < cnC σ) (hr : RoC σ a) : LiC τ a n A := by sorry
theorem an_of {N : Int → Int} {E A B V : Nat → Nat} {M : List Nat} {σ τ : CsC} {ρ : RS} {s : SpC} {z : ZS} {L : List Nat} {J : Nat → Nat} (hR : RdA N ρ s z) (hL : L.length = (zMs z.1).length) (hJ : ∀ i j, L[i]? = some j → J i = j) (P : PrD N z L 0 (0, 0, []) (psM z)) (hZ : ZD N E A B V σ z) (hF : FrE M σ τ) (hM : anF.all (fun k => !M.elem k) = true) (hbx : snM z ≤ 100000 ∧ xnM z ≤ 100000) (h214 : RoC σ (E 214)) (h212 : RoC σ (E 212)) (hJd : JdC N E A B σ τ z (msM N koY kiY z.1) (zMs z.1).length J (V1W N s) (2 * snM z)) : AnC N E A B V τ s z L := by sorry
/-! what the class's judge asks of the heap: out of what was read -/
def OiC (E : Nat → Nat) (σ : CsC) : Prop := (fRC σ (E 1) 215 = some (E 215) ∧ fRC σ (E 1) 216 = some (E 216)) ∧ (MkC σ (koY, 5, [4]) (E 215) ∧ MkC σ (kiY, 3, []) (E 216)) ∧ TyC σ (E 215) 6 ∧ TyC σ (E 216) 6
section
variable {N : Int → Int} {E A B V J F : Nat → Nat} {σ : CsC} {z : ZS} {a lo hi : Nat}
theorem zd_rs (h : ZD N E A B V σ (rsM z)) : ZD N E A B V σ z := h
theorem mh_rs (h : MhC N E B J F σ (rsM z)) : MhC N E B J F σ z := h
theorem mth_no : ∀ {l : List (Int × Int × List Int)} {k : Nat}, l.length ≤ k → mthL l k = none := by sorry
theorem mt_ml : ∀ {l : List (Int × Int × List Int)} {k : Nat}, MlC σ a lo hi l → k < l.length → ∃ o r m, (mthL l k = some m ∧ l.getD (l.length - 1 - k) (0, 0, []) = m) ∧ (elC σ a k = some o ∧ fRC σ o 183 = some r) ∧ ((o < cnC σ ∧ tgC σ o = 6) ∧ r < cnC σ) ∧ MoC σ o r m := by sorry
theorem pt_rv {r : Nat} : ∀ {l : List Int}, PtC σ r l → ∀ i, i < l.length → (eIC σ r i).toInt = l.reverse.getD i 0 := by sorry
theorem ms_k {N : Int → Int} {s : SpC} {i : Nat} (h10 : (zMs s).length ≤ 10) : (i < (zMs s).length → msM N koY kiY s i = (mthL (zMs s) i).map (fun m => (N m.1, m.2.1, m.2.2.reverse))) ∧ (¬ (i < (zMs s).length ∨ i = 10 ∨ i = 11) → msM N koY kiY s i = none) := by sorry
/-- methods' objects -/
theorem mk_of (H : HI0 σ) (hZ : ZD N E A B V σ z) (hO : OiC E σ) (hM : MhC N E B J F σ z) (hL : MlC σ (E 211) lo hi (zMs z.1)) (h10 : (zMs z.1).length ≤ 10) : ∀ i m, msM N koY kiY z.1 i = some m → (i < (zMs z.1).length ∨ i = 10 ∨ i = 11) ∧ MkC σ m (MoE E i) ∧ TyC σ (MoE E i) 6 := by sorry
theorem ma_of (H : HI0 σ) (hZ : ZD N E A B V σ z) (hO : OiC E σ) (hM : MhC N E B J F σ z) (hL : MlC σ (E 211) lo hi (zMs z.1)) (h10 : (zMs z.1).length ≤ 10) : MaC E σ (msM N koY kiY z.1) (zMs z.1).length := by sorry
/-- what stands when the judge begins -/
theorem st_of {ρ : RS} {s : SpC} (hR : RdA N ρ s z) (H : HI0 σ) (t2 : TyC σ (E 2) 10) (hP : PjC E σ) (h217 : fIC σ (E 1) 217 = 0) (h210 : fRC σ (E 1) 210 = some (E 2)) (hZ : ZD N E A B V σ z) (hO : OiC E σ) (hM : MhC N E B J F σ z) (hL : MlC σ (E 211) lo hi (zMs z.1)) (h10 : (zMs z.1).length ≤ 10) : StC N E A B V σ z (msM N koY kiY z.1) (zMs z.1).length := by sorry
theorem row_lt (H : HI0 σ) {b : Nat} (hb : b < cnC σ) (ht : tgC σ b = 0) : RoC σ b := by sorry
theorem bd_of (H : HI0 σ) (t0 : TyC σ (E 0) 8) (hZ : ZD N E A B V σ z) (hO : OiC E σ) (hM : MhC N E B J F σ z) (hL : MlC σ (E 211) lo hi (zMs z.1)) (h10 : (zMs z.1).length ≤ 10) (h3 : fRC σ (E 3) 120 = some (E 4)) (h4 : E 4 < cnC σ) : BdC E σ (msM N koY kiY z.1) ∧ RoC σ (E 214) := by sorry
theorem mb_of {V1 : Nat → Int} (hV : ∀ k, V1 k = (F k : Int)) (hZ : ZD N E A B V σ z) (hM : MhC N E B J F σ z) (hL : MlC σ (E 211) lo hi (zMs z.1)) (h10 : (zMs z.1).length ≤ 10) : MbC E B σ z (msM N koY kiY z.1) (zMs z.1).length J V1 := by sorry
theorem wz_of (h217 : fIC σ (E 1) 217 = 0) {n : Nat} (h94 : (fIC σ (E 4) 94).toInt = (n : Int)) (hn : n ≤ 500) (h93 : fRC σ (E 4) 93 = some (E 93)) (hb : E 93 < cnC σ) : ∃ u, WzC E σ u := by sorry
end
/-! what the class's judge asks of the heap: the judge notes its program; more keys -/
section
variable {N : Int → Int} {E E' A B V J F : Nat → Nat} {σ : CsC} {z : ZS} {lo hi o : Nat} {v : Option Nat}
def EuE (E E' : Nat → Nat) : Prop := ∀ k, (k = 0 ∨ k = 1 ∨ k = 2 ∨ (211 ≤ k ∧ k ≤ 214) ∨ (302 ≤ k ∧ k ≤ 304) ∨ 1000 ≤ k) → E' k = E k
/-- more keys: the judge, the flow, its pile, out, in -/
def exE (E : Nat → Nat) (e3 e4 e93 e215 e216 : Nat) : Nat → Nat := fun k => if k = 3 then e3 else if k = 4 then e4 else if k = 93 then e93 else if k = 215 then e215 else if k = 216 then e216 else E k
theorem ex_eu {e3 e4 e93 e215 e216 : Nat} : EuE E (exE E e3 e4 e93 e215 e216) := by sorry
theorem ZD.ue (h : ZD N E A B V σ z) (e : EuE E E') : ZD N E' A B V σ z := by sorry
theorem MhC.ue (h : MhC N E B J F σ z) (e : EuE E E') : MhC N E' B J F σ z := by sorry
theorem xu121 : XuC [121] σ (pRC σ o 121 v) o := by sorry
theorem ZD.p121 (h : ZD N E A B V σ z) : ZD N E A B V (pRC σ o 121 v) z := by sorry
/-- all that stands when the judge begins -/
theorem st_put {ρ : RS} {s : SpC} {n : Nat} (hR : RdA N ρ s z) (H : HI0 σ) (t0 : TyC σ (E 0) 8) (t2 : TyC σ (E 2) 10) (e3 : E 3 < cnC σ) (h217 : fIC σ (E 1) 217 = 0) (h210 : fRC σ (E 1) 210 = some (E 2)) (hZ : ZD N E A B V σ z) (hO : OiC E σ) (hM : MhC N E B J F σ z) (hL : MlC σ (E 211) lo hi (zMs z.1)) (h10 : (zMs z.1).length ≤ 10) {V1 : Nat → Int} (hV : ∀ k, V1 k = (F k : Int)) (h120 : fRC σ (E 3) 120 = some (E 4)) (h4 : E 4 < cnC σ) (h94 : (fIC σ (E 4) 94).toInt = (n : Int)) (hn : n ≤ 500) (h93 : fRC σ (E 4) 93 = some (E 93)) (hb : E 93 < cnC σ) :
    StC N E A B V (pRC σ (E 3) 121 (some (E 1))) z (msM N koY kiY z.1) (zMs z.1).length ∧ BdC E (pRC σ (E 3) 121 (some (E 1))) (msM N koY kiY z.1) ∧ MbC E B (pRC σ (E 3) 121 (some (E 1))) z (msM N koY kiY z.1) (zMs z.1).length J V1 ∧ (∃ u, WzC E (pRC σ (E 3) 121 (some (E 1))) u) ∧ RoC (pRC σ (E 3) 121 (some (E 1))) (E 214) := by sorry
end
