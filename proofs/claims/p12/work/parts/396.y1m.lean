/-! what stands open inside an exp: && || ? : -/
/-- the latest one is an exp, no mark -/
def LsO (l : List ItZ) : Prop := ∃ (r : XrZ) (m : List ItZ), l = .inl r :: m ∧ 0 ≤ r.1.1 ∧ r.1.1 ≤ 10
abbrev MkF : Type := List (Int × Int × Int)
/-- one exp or mark more -/
def MkS (l : List ItZ) (x : XrZ) (G F : MkF) : Prop :=
  if x.1.1 = 11 then LsO l ∧ F = ((if x.1.2.1 = 21 then 0 else 1), (xcZ l : Int) - 1, 0) :: G
  else if x.1.1 = 12 then LsO l ∧ F = (2, (xcZ l : Int) - 1, 0) :: G
  else if x.1.1 = 13 then LsO l ∧ ∃ q H, G = (2, q, 0) :: H ∧ F = (3, q, (xcZ l : Int) - 1) :: H
  else if x.1.1 = 7 ∧ (x.1.2.1 = 20 ∨ x.1.2.1 = 21) then LsO l ∧ G = ((if x.1.2.1 = 21 then 0 else 1), x.2.2.1.2.1, 0) :: F ∧ x.2.2.1.2.2.1 = (xcZ l : Int) - 1
  else if x.1.1 = 8 then LsO l ∧ G = (3, x.2.2.1.2.1, x.2.2.1.2.2.1) :: F ∧ x.2.2.1.2.2.2.1 = (xcZ l : Int) - 1
  else if x.1.1 = 3 ∨ x.1.1 = 4 ∨ x.1.1 = 5 then (LsO l ∧ x.2.2.1.2.1 = (xcZ l : Int) - 1) ∧ F = G
  else F = G
section
variable {l : List ItZ} {x : XrZ} {G F : MkF}
theorem mks_11 (h : x.1.1 = 11) : MkS l x G F ↔ LsO l ∧ F = ((if x.1.2.1 = 21 then 0 else 1), (xcZ l : Int) - 1, 0) :: G := by unfold MkS; rw [if_pos h]
theorem mks_12 (h : x.1.1 = 12) : MkS l x G F ↔ LsO l ∧ F = (2, (xcZ l : Int) - 1, 0) :: G := by unfold MkS; rw [if_neg (by omega), if_pos h]
theorem mks_13 (h : x.1.1 = 13) : MkS l x G F ↔ LsO l ∧ ∃ q H, G = (2, q, 0) :: H ∧ F = (3, q, (xcZ l : Int) - 1) :: H := by unfold MkS; rw [if_neg (by omega), if_neg (by omega), if_pos h]
theorem mks_7 (h : x.1.1 = 7 ∧ (x.1.2.1 = 20 ∨ x.1.2.1 = 21)) : MkS l x G F ↔ LsO l ∧ G = ((if x.1.2.1 = 21 then 0 else 1), x.2.2.1.2.1, 0) :: F ∧ x.2.2.1.2.2.1 = (xcZ l : Int) - 1 := by unfold MkS; rw [if_neg (by omega), if_neg (by omega), if_neg (by omega), if_pos h]
theorem mks_8 (h : x.1.1 = 8) : MkS l x G F ↔ LsO l ∧ G = (3, x.2.2.1.2.1, x.2.2.1.2.2.1) :: F ∧ x.2.2.1.2.2.2.1 = (xcZ l : Int) - 1 := by unfold MkS; rw [if_neg (by omega), if_neg (by omega), if_neg (by omega), if_neg (by omega), if_pos h]
theorem mks_3 (h : x.1.1 = 3 ∨ x.1.1 = 4 ∨ x.1.1 = 5) : MkS l x G F ↔ (LsO l ∧ x.2.2.1.2.1 = (xcZ l : Int) - 1) ∧ F = G := by unfold MkS; rw [if_neg (by omega), if_neg (by omega), if_neg (by omega), if_neg (by omega), if_neg (by omega), if_pos h]
theorem mks_o (h : ¬ (x.1.1 = 11 ∨ x.1.1 = 12 ∨ x.1.1 = 13 ∨ (x.1.1 = 7 ∧ (x.1.2.1 = 20 ∨ x.1.2.1 = 21)) ∨ x.1.1 = 8 ∨ x.1.1 = 3 ∨ x.1.1 = 4 ∨ x.1.1 = 5)) : MkS l x G F ↔ F = G := by unfold MkS; rw [if_neg (by omega), if_neg (by omega), if_neg (by omega), if_neg (by omega), if_neg (by omega), if_neg (by omega)]
end
def MkP (B : Nat) : List ItZ → MkF → Prop
  | [], F => F = []
  | .inr _ :: l, F => F = [] ∧ MkP B l []
  | .inl x :: l, F => F.length ≤ B ∧ ∃ G, MkP B l G ∧ MkS l x G F
theorem TpU.ls {b : Nat} {st : Int} {z : ZS} (h : TpU b st z) : LsO z.2.1 := by
  obtain ⟨r, l, e, _, k, _⟩ := h
  exact ⟨r, l, e, k⟩
section
variable {B : Nat} {z : ZS} {F G : MkF}
theorem mk_pl {x : XrZ} (h : MkP B z.2.1 F) (hb : F.length ≤ B) (hk : (0 ≤ x.1.1 ∧ x.1.1 ≤ 2) ∨ x.1.1 = 6 ∨ x.1.1 = 9 ∨ x.1.1 = 10 ∨ x.1.1 = 14 ∨ x.1.1 = 15) : MkP B (puM x z).2.1 F := by
  exact ⟨hb, F, h, (mks_o (by omega)).mpr rfl⟩
theorem mk_un {x : XrZ} (h : MkP B z.2.1 F) (hb : F.length ≤ B) (hk : x.1.1 = 3 ∨ x.1.1 = 4 ∨ x.1.1 = 5) (hl : LsO z.2.1) (ha : x.2.2.1.2.1 = (xnM z : Int) - 1) : MkP B (puM x z).2.1 F := by
  exact ⟨hb, F, h, (mks_3 hk).mpr ⟨⟨hl, ha⟩, rfl⟩⟩
end
/-- operators that wait: those that stand open -/
def mkW : WtZ → MkF
  | [] => []
  | (sg, _, _, a, _) :: W => if sg = 20 ∨ sg = 21 then ((if sg = 21 then 0 else 1), a, 0) :: mkW W else mkW W
/-- weaker ones wait below stronger ones; all are weaker than s -/
def WsO : Int → WtZ → Prop
  | _, [] => True
  | s, (sg, _, _, _, _) :: W => strZ sg < s ∧ 20 ≤ sg ∧ sg ≤ 38 ∧ WsO (strZ sg) W
theorem mkW_l : ∀ {W : WtZ} {s : Int}, WsO s W → ((mkW W).length : Int) ≤ 2 ∧ (s ≤ 2 → ((mkW W).length : Int) ≤ 1) ∧ (s ≤ 1 → (mkW W).length = 0) := by
  intro W
  induction W with
  | nil => intro s _; exact ⟨by show (0 : Int) ≤ 2; decide, fun _ => by show (0 : Int) ≤ 1; decide, fun _ => rfl⟩
  | cons w W ih =>
    intro s h
    obtain ⟨sg, f, st, a, mq⟩ := w
    obtain ⟨h1, h2, h3, h4⟩ := h
    obtain ⟨i1, i2, i3⟩ := ih h4
    by_cases c20 : sg = 20
    · have e : strZ sg = 1 := by rw [c20]; rfl
      have i3 := i3 (by omega)
      have ee : (mkW ((sg, f, st, a, mq) :: W)).length = (mkW W).length + 1 := by rw [mkW, if_pos (Or.inl c20), List.length_cons]
      rw [ee, i3]
      exact ⟨by decide, fun _ => by decide, fun q => by omega⟩
    · by_cases c21 : sg = 21
      · have e : strZ sg = 2 := by rw [c21]; rfl
        have i2 := i2 (by omega)
        have ee : (mkW ((sg, f, st, a, mq) :: W)).length = (mkW W).length + 1 := by rw [mkW, if_pos (Or.inr c21), List.length_cons]
        rw [ee]
        exact ⟨by omega, fun q => by omega, fun q => by omega⟩
      · have e : 3 ≤ strZ sg := by
          unfold strZ
          rw [if_neg c20, if_neg c21]
          repeat' split
          all_goals first | decide | omega
        have ee : mkW ((sg, f, st, a, mq) :: W) = mkW W := by rw [mkW, if_neg (by omega)]
        rw [ee]
        exact ⟨i1, fun q => by omega, fun q => by omega⟩
theorem ws_mo : ∀ {W : WtZ} {s s' : Int}, WsO s W → s ≤ s' → WsO s' W := by
  intro W s s' h q
  cases W with
  | nil => trivial
  | cons w W =>
    obtain ⟨sg, f, st, a, mq⟩ := w
    exact ⟨by have := h.1; omega, h.2⟩
theorem ws_cs {p : Int} : ∀ {W : WtZ} {s : Int}, WsO s W → WsO p (cswZ p W) := by
  intro W
  induction W with
  | nil => intro s _; trivial
  | cons w W ih =>
    intro s h
    obtain ⟨sg, f, st, a, mq⟩ := w
    rw [cswZ]
    split
    · exact ih h.2.2.2
    · exact ⟨by omega, h.2⟩
theorem mk_cl {B : Nat} {F : MkF} {p : Int} : ∀ (W : WtZ) (s : Int) (z : ZS), WsO s W → LsO z.2.1 → MkP B z.2.1 (mkW W ++ F) → (mkW W ++ F).length ≤ B → MkP B (clM p W z).2.1 (mkW (cswZ p W) ++ F) ∧ LsO (clM p W z).2.1 := by
  intro W
  induction W with
  | nil => intro s z _ hl h _; exact ⟨h, hl⟩
  | cons w W ih =>
    intro s z hs hl h hb
    obtain ⟨sg, f, st, a, mq⟩ := w
    rw [clM, cswZ]
    split
    · have ls : LsO (puM (chnZ sg f st a mq (xnM z) z.1) z).2.1 := ⟨_, _, rfl, by show (0 : Int) ≤ 7; decide, by show (7 : Int) ≤ 10; decide⟩
      by_cases c : sg = 20 ∨ sg = 21
      · rw [mkW, if_pos c] at h hb
        have hb' : (mkW W ++ F).length ≤ B := by
          have : ((if sg = 21 then (0 : Int) else 1), a, (0 : Int)) :: mkW W ++ F = ((if sg = 21 then (0 : Int) else 1), a, (0 : Int)) :: (mkW W ++ F) := rfl
          rw [this, List.length_cons] at hb
          omega
        refine ih (strZ sg) _ hs.2.2.2 ls ⟨hb', _, h, ?_⟩ hb'
        exact (mks_7 (show (7 : Int) = 7 ∧ (sg = 20 ∨ sg = 21) from ⟨rfl, c⟩)).mpr ⟨hl, rfl, rfl⟩
      · rw [mkW, if_neg c] at h hb
        refine ih (strZ sg) _ hs.2.2.2 ls ⟨hb, _, h, ?_⟩ hb
        exact (mks_o (x := chnZ sg f st a mq (xnM z) z.1) (by show ¬ ((7 : Int) = 11 ∨ (7 : Int) = 12 ∨ (7 : Int) = 13 ∨ ((7 : Int) = 7 ∧ (sg = 20 ∨ sg = 21)) ∨ (7 : Int) = 8 ∨ (7 : Int) = 3 ∨ (7 : Int) = 4 ∨ (7 : Int) = 5); omega)).mpr rfl
    · exact ⟨h, hl⟩
/-- exps keep what stands open; n: how deep they may go -/
abbrev MkE (B n : Nat) (f : ZS → ZS) : Prop := ∀ z F, MkP B z.2.1 F → F.length + 4 * n ≤ B → zFt (f z).1 = 0 → MkP B (f z).2.1 F
theorem mk_chl {B n : Nat} {O : ZS → ZS} {o : SpC → SpC} (hO : MkE B n O) (tO : ToX O) (lO : LfM O o) (gO : GdY o) {F : MkF} (hB : F.length + 4 * n + 2 ≤ B) : ∀ (f : Nat) (W : WtZ) (r : Int × Int) (z : ZS), WsO 11 W → LsO z.2.1 → MkP B z.2.1 (mkW W ++ F) → zFt (chlM O f W r z).1 = 0 → MkP B (chlM O f W r z).2.1 F := by
  have bd : ∀ (W : WtZ) (s : Int), WsO s W → (mkW W ++ F).length ≤ F.length + 2 := fun W s h => by
    have := (mkW_l h).1
    rw [List.length_append]
    omega
  have stop : ∀ (W : WtZ) (z : ZS), WsO 11 W → LsO z.2.1 → MkP B z.2.1 (mkW W ++ F) → MkP B (clM 0 W z).2.1 F := fun W z hs hl h => by
    have r := (mk_cl (p := 0) W 11 z hs hl h (by have := bd W 11 hs; omega)).1
    rw [csw_0 W] at r
    exact r
  intro f
  induction f with
  | zero => intro W r z hs hl h _; exact stop W z hs hl h
  | succ f ih =>
    intro W r z hs hl h q
    rw [chlM] at q ⊢
    by_cases c : 20 ≤ codY z.1 ∧ codY z.1 ≤ 38
    · rw [if_pos c] at q ⊢
      have hf : zFt (O (accM (fkM (clM (strZ (codY z.1)) W z)))).1 = 0 := (gd_chl gO f _).z (by rw [← lf_chl lO]; exact q)
      obtain ⟨c1, c2⟩ := mk_cl (p := strZ (codY z.1)) W 11 z hs hl h (by have := bd W 11 hs; omega)
      have ws := ws_cs (p := strZ (codY z.1)) hs
      have sl : strZ (codY z.1) < 11 := by
        unfold strZ
        repeat' split
        all_goals first | decide | omega
      have ws1 : WsO 11 (wnZ (csrZ (strZ (codY z.1)) W r) (clM (strZ (codY z.1)) W z) :: cswZ (strZ (codY z.1)) W) := by
        have e : codY (clM (strZ (codY z.1)) W z).1 = codY z.1 := by rw [lf_cl]
        refine ⟨?_, ?_, ?_, ?_⟩
        · show strZ (codY (clM (strZ (codY z.1)) W z).1) < 11
          rw [e]; exact sl
        · show 20 ≤ codY (clM (strZ (codY z.1)) W z).1
          rw [e]; exact c.1
        · show codY (clM (strZ (codY z.1)) W z).1 ≤ 38
          rw [e]; exact c.2
        · show WsO (strZ (codY (clM (strZ (codY z.1)) W z).1)) _
          rw [e]; exact ws
      generalize hy : clM (strZ (codY z.1)) W z = y at q hf c1 c2 ws1 ⊢
      generalize cswZ (strZ (codY z.1)) W = V at q c1 ws ws1 ⊢
      have b1 := bd _ 11 ws1
      have k1 : MkP B (fkM y).2.1 (mkW (wnZ (csrZ (strZ (codY z.1)) W r) y :: V) ++ F) := by
        unfold fkM
        by_cases d : codY y.1 = 20 ∨ codY y.1 = 21
        · rw [if_pos d]
          rw [show mkW (wnZ (csrZ (strZ (codY z.1)) W r) y :: V) = ((if codY y.1 = 21 then 0 else 1), (xnM y : Int) - 1, 0) :: mkW V from if_pos d] at b1 ⊢
          refine ⟨by omega, _, c1, ?_⟩
          exact (mks_11 (x := frkZ (xnM y) y.1) rfl).mpr ⟨c2, rfl⟩
        · rw [if_neg d, show mkW (wnZ (csrZ (strZ (codY z.1)) W r) y :: V) = mkW V from if_neg d]
          exact c1
      have k2 := hO (accM (fkM y)) _ k1 (by omega) hf
      exact ih _ _ _ ws1 (tO _ hf).ls k2 q
    · rw [if_neg c] at q ⊢
      exact stop W z hs hl h
theorem mk_chc {B n : Nat} {O E C : ZS → ZS} {o e c : SpC → SpC} (hO : MkE B n O) (tO : ToX O) (lO : LfM O o) (gO : GdY o) (iO : IgM O) (hE : MkE B n E) (hC : MkE B n C) (tE : ToX E) (tC : ToX C) (lE : LfM E e) (lC : LfM C c) (gE : GdY e) (gC : GdY c) : MkE B (n + 1) (chcM O E C) := by
  intro z F h hB q
  have h1 : zFt (chlM O 501 [] (rbM z) (O z)).1 = 0 := ch2_b lE lC gE gC (r := rbM z) q
  have h2 : zFt (O z).1 = 0 := (gd_chl gO 501 _).z (by rw [← lf_chl lO]; exact h1)
  have k1 := mk_chl hO tO lO gO (F := F) (by omega) 501 [] (rbM z) (O z) trivial (tO z h2).ls (hO z F h (by omega) h2) h1
  have ls : LsO (chlM O 501 [] (rbM z) (O z)).2.1 := (tp_chl tO lO gO iO 501 [] (rbM z) (O z) (tO z h2) h1).ls
  have q : zFt (ch2M E C (rbM z) (chlM O 501 [] (rbM z) (O z))).1 = 0 := q
  show MkP B (ch2M E C (rbM z) (chlM O 501 [] (rbM z) (O z))).2.1 F
  generalize chlM O 501 [] (rbM z) (O z) = y at q k1 ls ⊢
  unfold ch2M at q ⊢
  by_cases c7 : codY y.1 = 7
  · rw [if_pos c7] at q ⊢
    have q1 : zFt (C (xpM 6 (puM (elsZ (xnM y) (xnM (E (accM (puM (thnZ (xnM y) y.1) y)))) (E (accM (puM (thnZ (xnM y) y.1) y))).1) (E (accM (puM (thnZ (xnM y) y.1) y)))))).1 = 0 := q
    have q2 : zFt (E (accM (puM (thnZ (xnM y) y.1) y))).1 = 0 := xp_b (gf_z lC gC q1)
    have k2 : MkP B (puM (thnZ (xnM y) y.1) y).2.1 ((2, (xnM y : Int) - 1, 0) :: F) := by
      refine ⟨by rw [List.length_cons]; omega, F, k1, ?_⟩
      exact (mks_12 (x := thnZ (xnM y) y.1) rfl).mpr ⟨ls, rfl⟩
    have k3 := hE (accM (puM (thnZ (xnM y) y.1) y)) _ k2 (by rw [List.length_cons]; omega) q2
    have lsE := (tE _ q2).ls
    generalize E (accM (puM (thnZ (xnM y) y.1) y)) = w at q1 k3 lsE ⊢
    have k4 : MkP B (puM (elsZ (xnM y) (xnM w) w.1) w).2.1 ((3, (xnM y : Int) - 1, (xnM w : Int) - 1) :: F) := by
      refine ⟨by rw [List.length_cons]; omega, _, k3, ?_⟩
      exact (mks_13 (x := elsZ (xnM y) (xnM w) w.1) rfl).mpr ⟨lsE, _, _, rfl, rfl⟩
    have k5 := hC (xpM 6 (puM (elsZ (xnM y) (xnM w) w.1) w)) _ k4 (by rw [List.length_cons]; omega) q1
    have lsC := (tC _ q1).ls
    show MkP B (puM (chrZ (rbM z).1 (rbM z).2 ((xnM y : Int) - 1) ((xnM w : Int) - 1) (xnM w) _ _) _).2.1 F
    refine ⟨by omega, _, k5, ?_⟩
    exact (mks_8 rfl).mpr ⟨lsC, rfl, rfl⟩
  · rw [if_neg c7]
    exact k1
theorem mk_xps {N : Int → Int} {B n : Nat} {O E C : ZS → ZS} {o e c : SpC → SpC} (hO : MkE B n O) (tO : ToX O) (lO : LfM O o) (gO : GdY o) (iO : IgM O) (hE : MkE B n E) (hC : MkE B n C) (tE : ToX E) (tC : ToX C) (lE : LfM E e) (lC : LfM C c) (gE : GdY e) (gC : GdY c) : MkE B (n + 1) (xpsM N O E C) := by
  intro z F h hB q
  unfold xpsM at q ⊢
  have ch : zFt (chcM O E C z).1 = 0 → MkP B (chcM O E C z).2.1 F := mk_chc hO tO lO gO iO hE hC tE tC lE lC gE gC z F h hB
  by_cases c1 : codY z.1 = 80
  · rw [if_pos c1] at q ⊢
    by_cases c2 : 8 ≤ cobY z.1 ∧ cobY z.1 ≤ 19
    · rw [if_pos c2] at q ⊢
      have q1 : zFt (E (accM (accM (tkM N z)))).1 = 0 := q
      have k1 : MkP B (tkM N z).2.1 F := by
        unfold tkM
        split
        · exact h
        · exact mk_pl h (by omega) (by show (_ ∨ _ ∨ _ ∨ _ ∨ (14 : Int) = 14 ∨ _); omega)
      exact mk_pl (hE (accM (accM (tkM N z))) F k1 (by omega) q1) (by omega) (by show (_ ∨ _ ∨ (9 : Int) = 9 ∨ _); omega)
    · rw [if_neg c2] at q ⊢
      exact ch q
  · rw [if_neg c1] at q ⊢
    exact ch q
theorem mk_clp {B n : Nat} {E : ZS → ZS} {e : SpC → SpC} (hE : MkE B n E) (lE : LfM E e) (gE : GdY e) {F : MkF} (hB : F.length + 4 * n ≤ B) {r : Int × Int} : ∀ (f : Nat) (l : List Int) (z : ZS), MkP B z.2.1 F → zFt (clpM E r f l z).1 = 0 → MkP B (clpM E r f l z).2.1 F := by
  have h0 : ∀ (l : List Int) (z : ZS), MkP B z.2.1 F → MkP B (cleM r l z).2.1 F := fun l z h => mk_pl (x := calZ r.1 r.2 l z.1) h (by omega) (by show (_ ∨ _ ∨ _ ∨ (10 : Int) = 10 ∨ _); omega)
  intro f
  induction f with
  | zero => exact fun l z h _ => h0 l z h
  | succ f ih =>
    intro l z h q
    rw [clpM] at q ⊢
    by_cases c : codY z.1 = 5
    · rw [if_pos c] at q ⊢
      have q : zFt (clpM E r f (l ++ [(xnM (E (accM z)) : Int) - 1]) (E (accM z))).1 = 0 := q
      have q1 : zFt (E (accM z)).1 = 0 := by
        rw [lf_clp lE] at q
        exact (gd_clp gE f _).z (xp_b q)
      exact ih _ _ (hE (accM z) F h hB q1) q
    · rw [if_neg c]
      exact h0 l z h
theorem mk_opr {N : Int → Int} {B n m : Nat} {E : ZS → ZS} {I : Int → ZS → ZS} {e i : SpC → SpC} (hE : MkE B n E) (lE : LfM E e) (gE : GdY e) (hI : ∀ g, MkE B n (I g)) (tI : ∀ g, ToX (I g)) (tE : ToX E) (lI : ∀ g, LfM (I g) i) (gI' : GdY i) (g : Int) : MkE B n (oprM N m E I g) := by
  intro z F h hB q
  unfold oprM at q ⊢
  by_cases c1 : codY z.1 = 34 ∨ codY z.1 = 35 ∨ codY z.1 = 39 ∨ codY z.1 = 40
  · rw [if_pos c1] at q ⊢
    have q1 : zFt (I (ngZ (codY z.1)) (accM z)).1 = 0 := q
    exact mk_un (hI _ (accM z) F h hB q1) (by omega) (by show (_ ∨ (4 : Int) = 4 ∨ _); omega) (tI _ _ q1).ls rfl
  rw [if_neg c1] at q ⊢
  by_cases c2 : codY z.1 = 41 ∨ codY z.1 = 42
  · rw [if_pos c2]
    exact mk_pl (z := accM z) h (by omega) (by show (_ ∨ (6 : Int) = 6 ∨ _); omega)
  rw [if_neg c2] at q ⊢
  by_cases c3 : codY z.1 = 0
  · rw [if_pos c3] at q ⊢
    unfold op2M at q ⊢
    by_cases d : 50 ≤ codY (accM z).1 ∧ codY (accM z).1 ≤ 54
    · rw [if_pos d] at q ⊢
      have q1 : zFt (I 0 (xpM 1 (typM (accM z)))).1 = 0 := q
      exact mk_un (hI _ (xpM 1 (typM (accM z))) F h hB q1) (by omega) (by show (_ ∨ _ ∨ (5 : Int) = 5); omega) (tI _ _ q1).ls rfl
    · rw [if_neg d] at q ⊢
      have q1 : zFt (E (accM z)).1 = 0 := xp_b q
      exact mk_un (hE (accM z) F h hB q1) (by omega) (by show ((3 : Int) = 3 ∨ _); omega) (tE _ q1).ls rfl
  rw [if_neg c3] at q ⊢
  by_cases c4 : codY z.1 = 80
  · rw [if_pos c4] at q ⊢
    unfold nmeM at q ⊢
    by_cases d1 : cobY z.1 = 0
    · rw [if_pos d1] at q ⊢
      unfold ca2M at q ⊢
      by_cases e1 : m = 0
      · rw [if_pos e1] at q
        exact absurd (xp_b q) (raiY_z (by decide))
      rw [if_neg e1] at q ⊢
      by_cases e2 : codY (accM (accM z)).1 = 1
      · rw [if_pos e2]
        exact mk_clp hE lE gE hB 0 [] (accM (accM z)) h (by rw [if_pos e2] at q; exact q)
      · rw [if_neg e2] at q ⊢
        have q : zFt (clpM E (rbM z) 501 [(xnM (E (accM (accM z))) : Int) - 1] (E (accM (accM z)))).1 = 0 := q
        have q1 : zFt (E (accM (accM z))).1 = 0 := by
          rw [lf_clp lE] at q
          exact (gd_clp gE 501 _).z (xp_b q)
        exact mk_clp hE lE gE hB 501 _ _ (hE _ F h hB q1) q
    rw [if_neg d1]
    split
    · exact mk_pl (z := accM (accM z)) h (by omega) (by show (_ ∨ (6 : Int) = 6 ∨ _); omega)
    · exact mk_pl (z := accM z) h (by omega) (by show (((0 : Int) ≤ 2 ∧ (2 : Int) ≤ 2) ∨ _); omega)
  rw [if_neg c4] at q ⊢
  by_cases c5 : codY z.1 = 81 ∨ codY z.1 = 82 ∨ codY z.1 = 83 ∨ codY z.1 = 72 ∨ codY z.1 = 73
  · rw [if_pos c5]
    refine mk_pl (z := accM z) h (by omega) (Or.inl ?_)
    show 0 ≤ (if codY z.1 = 81 ∨ codY z.1 = 82 then (0 : Int) else 1) ∧ (if codY z.1 = 81 ∨ codY z.1 = 82 then (0 : Int) else 1) ≤ 2
    split <;> decide
  · rw [if_neg c5] at q
    exact absurd q (raiY_z (by decide))
theorem mk_lv {N : Int → Int} {B : Nat} : ∀ n, MkE B n (eM N n) ∧ MkE B n (cM N n) ∧ ∀ g, MkE B n (oM N n g) := by
  intro n
  induction n with
  | zero => exact ⟨fun z F _ _ h => absurd h (raiY_z (by decide)), fun z F _ _ h => absurd h (raiY_z (by decide)), fun _ z F _ _ h => absurd h (raiY_z (by decide))⟩
  | succ n ih =>
    have ig := ig_lv (N := N) n
    have lf := lf_lv (N := N) n
    have gd := gd_lv n
    have tp := tp_lv (N := N) n
    have hO : ∀ g, MkE B n (oprM N n (eM N n) (oM N n) g) := fun g => mk_opr ih.1 lf.1 gd.1 ih.2.2 tp.2.2 tp.1 lf.2.2 gd.2.2 g
    have tO : ∀ g, ToX (oprM N n (eM N n) (oM N n) g) := fun g => tp_opr ig.1 ig.2.2 g
    have iO : IgM (oprM N n (eM N n) (oM N n) 0) := ig_opr ig.1 ig.2.2 0
    have lO : LfM (oprM N n (eM N n) (oM N n) 0) (oprY n (eY n) (oY n)) := lf_opr lf.1 lf.2.2 0
    have gO : GdY (oprY n (eY n) (oY n)) := gd_opr gd.1 gd.2.2
    exact ⟨mk_xps (hO 0) (tO 0) lO gO iO ih.1 ih.2.1 tp.1 tp.2.1 lf.1 lf.2.1 gd.1 gd.2.1, mk_chc (hO 0) (tO 0) lO gO iO ih.1 ih.2.1 tp.1 tp.2.1 lf.1 lf.2.1 gd.1 gd.2.1, fun g z F h hB q => hO g z F h (by omega) q⟩
