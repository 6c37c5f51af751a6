/-! what each record of an exp tells of itself -/
def RpX (Kd : Nat → Int) (hi : Int) (x : XrZ) : Prop := SgX x ∧ (x.1.1 = 9 → x.1.2.1 = 8 ∨ (22 ≤ x.1.2.1 ∧ x.1.2.1 ≤ 38 ∧ (x.1.2.1 ≤ 24 ∨ 31 ≤ x.1.2.1))) ∧ (x.1.1 ≤ 10 → 0 ≤ x.2.1.1) ∧ (x.1.1 = 10 → x.1.2.2.1 = x.2.1.1 ∧ (x.2.2.2.length : Int) ≤ hi) ∧ (x.1.1 ≤ 1 → (x.1.2.2.1 = x.2.1.1 ∧ x.2.1.1 < hi ∧ Kd x.2.1.1.toNat = x.1.2.1) ∧ (0 ≤ x.1.1 ∧ (x.1.1 = 0 ↔ (x.1.2.1 = 81 ∨ x.1.2.1 = 82))) ∧ (x.1.2.1 = 81 ∨ x.1.2.1 = 82 ∨ x.1.2.1 = 83 ∨ x.1.2.1 = 72 ∨ x.1.2.1 = 73))
section
variable {Kd : Nat → Int} {hi hi' : Int} {x : XrZ}
theorem RpX.wd (h : RpX Kd hi x) (q : hi ≤ hi') : RpX Kd hi' x := ⟨h.1, h.2.1, h.2.2.1, fun k => ⟨(h.2.2.2.1 k).1, by have := (h.2.2.2.1 k).2; omega⟩, fun k => by
  obtain ⟨⟨a, b, c⟩, d⟩ := h.2.2.2.2 k
  exact ⟨⟨a, by omega, c⟩, d⟩⟩
theorem rp_o (h : ¬ x.1.1 ≤ 1 ∧ ¬ x.1.1 = 4 ∧ ¬ x.1.1 = 5 ∧ ¬ x.1.1 = 7 ∧ ¬ x.1.1 = 9 ∧ ¬ x.1.1 = 10) (g : x.1.1 ≤ 10 → 0 ≤ x.2.1.1) : RpX Kd hi x := ⟨⟨fun q => absurd q h.2.1, fun q => absurd q h.2.2.1, fun q => absurd q h.2.2.2.1⟩, fun q => absurd q h.2.2.2.2.1, g, fun q => absurd q h.2.2.2.2.2, fun q => absurd q h.1⟩
theorem rp_4 (k : x.1.1 = 4) (h : x.1.2.1 = 34 ∨ x.1.2.1 = 35 ∨ x.1.2.1 = 39 ∨ x.1.2.1 = 40) (g : 0 ≤ x.2.1.1) : RpX Kd hi x := ⟨⟨fun _ => h, fun q => by omega, fun q => by omega⟩, fun q => by omega, fun _ => g, fun q => by omega, fun q => by omega⟩
theorem rp_5 (k : x.1.1 = 5) (h : 0 ≤ x.2.1.2.2 ∧ x.2.1.2.2 ≤ 4) (g : 0 ≤ x.2.1.1) : RpX Kd hi x := ⟨⟨fun q => by omega, fun _ => h, fun q => by omega⟩, fun q => by omega, fun _ => g, fun q => by omega, fun q => by omega⟩
theorem rp_7 (k : x.1.1 = 7) (h : 20 ≤ x.1.2.1 ∧ x.1.2.1 ≤ 38) (g : 0 ≤ x.2.1.1) : RpX Kd hi x := ⟨⟨fun q => by omega, fun q => by omega, fun _ => h⟩, fun q => by omega, fun _ => g, fun q => by omega, fun q => by omega⟩
theorem rp_9 (k : x.1.1 = 9) (h : x.1.2.1 = 8 ∨ (22 ≤ x.1.2.1 ∧ x.1.2.1 ≤ 38 ∧ (x.1.2.1 ≤ 24 ∨ 31 ≤ x.1.2.1))) (g : 0 ≤ x.2.1.1) : RpX Kd hi x := ⟨⟨fun q => by omega, fun q => by omega, fun q => by omega⟩, fun _ => h, fun _ => g, fun q => by omega, fun q => by omega⟩
theorem rp_10 (k : x.1.1 = 10) (h : x.1.2.2.1 = x.2.1.1 ∧ (x.2.2.2.length : Int) ≤ hi) (g : 0 ≤ x.2.1.1) : RpX Kd hi x := ⟨⟨fun q => by omega, fun q => by omega, fun q => by omega⟩, fun q => by omega, fun _ => g, fun _ => h, fun q => by omega⟩
theorem rp_0 (k : x.1.1 ≤ 1) (k0 : 0 ≤ x.1.1 ∧ (x.1.1 = 0 ↔ (x.1.2.1 = 81 ∨ x.1.2.1 = 82))) (h : x.1.2.2.1 = x.2.1.1 ∧ x.2.1.1 < hi ∧ Kd x.2.1.1.toNat = x.1.2.1) (c : x.1.2.1 = 81 ∨ x.1.2.1 = 82 ∨ x.1.2.1 = 83 ∨ x.1.2.1 = 72 ∨ x.1.2.1 = 73) (g : 0 ≤ x.2.1.1) : RpX Kd hi x := ⟨⟨fun q => by omega, fun q => by omega, fun q => by omega⟩, fun q => by omega, fun _ => g, fun q => by omega, fun _ => ⟨h, k0, c⟩⟩
end
theorem opf_r {c : Int} (h : 8 ≤ c ∧ c ≤ 19) : opfZ c = 8 ∨ (22 ≤ opfZ c ∧ opfZ c ≤ 38 ∧ (opfZ c ≤ 24 ∨ 31 ≤ opfZ c)) := by
  have e : c = 8 ∨ c = 9 ∨ c = 10 ∨ c = 11 ∨ c = 12 ∨ c = 13 ∨ c = 14 ∨ c = 15 ∨ c = 16 ∨ c = 17 ∨ c = 18 ∨ c = 19 := by omega
  rcases e with rfl | rfl | rfl | rfl | rfl | rfl | rfl | rfl | rfl | rfl | rfl | rfl <;> decide
/-- from z to z' an exp is read, or a piece of one -/
def RpW (z z' : ZS) : Prop := 0 ≤ zAt z.1 → (zAt z.1 ≤ zAt z'.1 ∧ GpY z.1 z'.1 ∧ zK z'.1 = zK z.1) ∧ (zFt z'.1 = 0 → ∃ t : List XrZ, z'.2.1 = t.map Sum.inl ++ z.2.1 ∧ ∀ x ∈ t, RpX (zK z.1) (zAt z'.1) x)
abbrev RpM (f : ZS → ZS) : Prop := ∀ z, RpW z (f z)
def WtQ (W : WtZ) : Prop := ∀ w ∈ W, (20 ≤ w.1 ∧ w.1 ≤ 38) ∧ 0 ≤ w.2.1
section
variable {z z1 z2 : ZS} {x : XrZ} {N : Int → Int}
theorem RpW.rf : RpW z z := fun _ => ⟨⟨Int.le_refl _, GpY.rf, rfl⟩, fun _ => ⟨[], rfl, fun _ h => absurd h List.not_mem_nil⟩⟩
theorem RpW.tr (h : RpW z z1) (g : RpW z1 z2) : RpW z z2 := fun h0 => by
  obtain ⟨⟨a, b, c⟩, d⟩ := h h0
  obtain ⟨⟨a', b', c'⟩, d'⟩ := g (by omega)
  refine ⟨⟨by omega, b.tr b', c'.trans c⟩, fun f => ?_⟩
  obtain ⟨t, e, p⟩ := d (b'.z f)
  obtain ⟨u, e', p'⟩ := d' f
  rw [c] at p'
  refine ⟨u ++ t, by rw [e', e, List.map_append, List.append_assoc], fun x hx => ?_⟩
  rcases List.mem_append.mp hx with q | q
  · exact p' x q
  · exact (p x q).wd a'
theorem RpW.m {s' : SpC} (l : zAt z.1 ≤ zAt s') (g : GpY z.1 s') (e : s'.2 = z.1.2) : RpW z (s', z.2) := fun _ => ⟨⟨l, g, by show zK s' = _; unfold zK; rw [e]⟩, fun _ => ⟨[], rfl, fun _ h => absurd h List.not_mem_nil⟩⟩
theorem RpW.ac : RpW z (accM z) := RpW.m mv_acc.2 (gd_acc _) mv_acc.1
theorem RpW.xp {c : Int} : RpW z (xpM c z) := RpW.m mv_xp.2 (gd_xp _) mv_xp.1
theorem RpW.ra {c : Int} : RpW z (raiM c z) := RpW.m mv_rai.2 (gd_rai _) mv_rai.1
theorem RpW.ty : RpW z (typM z) := RpW.m mv_typ.2 (gd_typ _) mv_typ.1
theorem RpW.pu (h : RpW z z1) (hx : 0 ≤ zAt z.1 → zFt z1.1 = 0 → RpX (zK z.1) (zAt z1.1) x) : RpW z (puM x z1) := fun h0 => by
  obtain ⟨⟨a, b, c⟩, d⟩ := h h0
  refine ⟨⟨a, b, c⟩, fun f => ?_⟩
  obtain ⟨t, e, p⟩ := d f
  refine ⟨x :: t, ?_, fun y hy => ?_⟩
  · show Sum.inl x :: z1.2.1 = _
    rw [e]
    rfl
  · rcases List.mem_cons.mp hy with q | q
    · rw [q]
      exact hx h0 f
    · exact p y q
theorem cl_1 {p : Int} : ∀ (W : WtZ) (z : ZS), (clM p W z).1 = z.1 := by
  intro W
  induction W with
  | nil => exact fun z => rfl
  | cons w W ih =>
    obtain ⟨sg, f, st, a, mq⟩ := w
    intro z
    rw [clM]
    split
    · exact ih _
    · rfl
theorem rp_cl {p : Int} : ∀ (W : WtZ) (z : ZS), WtQ W → RpW z (clM p W z) := by
  intro W
  induction W with
  | nil => exact fun z _ => RpW.rf
  | cons w W ih =>
    obtain ⟨sg, f, st, a, mq⟩ := w
    intro z hW
    rw [clM]
    split
    · have q := hW (sg, f, st, a, mq) List.mem_cons_self
      exact (RpW.pu (z := z) (x := chnZ sg f st a mq (xnM z) z.1) RpW.rf (fun _ _ => rp_7 rfl q.1 q.2)).tr (ih _ (fun w h => hW w (List.mem_cons_of_mem _ h)))
    · exact RpW.rf
theorem rp_fk : RpW z (fkM z) := by
  unfold fkM
  split
  · exact RpW.pu RpW.rf (fun _ _ => rp_o (by show ¬ (11 : Int) ≤ 1 ∧ ¬ (11 : Int) = 4 ∧ ¬ (11 : Int) = 5 ∧ ¬ (11 : Int) = 7 ∧ ¬ (11 : Int) = 9 ∧ ¬ (11 : Int) = 10; decide) (fun q => absurd q (by show ¬ (11 : Int) ≤ 10; decide)))
  · exact RpW.rf
theorem csw_m {p : Int} : ∀ {W : WtZ}, ∀ w ∈ cswZ p W, w ∈ W := by
  intro W
  induction W with
  | nil => exact fun w h => h
  | cons w W ih =>
    obtain ⟨sg, f, st, a, mq⟩ := w
    rw [cswZ]
    split
    · exact fun w h => List.mem_cons_of_mem _ (ih w h)
    · exact fun w h => h
theorem csr_1 {p : Int} : ∀ {W : WtZ} {r : Int × Int}, WtQ W → 0 ≤ r.1 → 0 ≤ (csrZ p W r).1 := by
  intro W
  induction W with
  | nil => exact fun _ h => h
  | cons w W ih =>
    obtain ⟨sg, f, st, a, mq⟩ := w
    intro r h q
    rw [csrZ]
    split
    · exact ih (fun w q => h w (List.mem_cons_of_mem _ q)) (h (sg, f, st, a, mq) List.mem_cons_self).2
    · exact q
theorem rp_chl {O : ZS → ZS} (hO : RpM O) : ∀ (f : Nat) (W : WtZ) (r : Int × Int) (z : ZS), WtQ W → 0 ≤ r.1 → RpW z (chlM O f W r z) := by
  intro f
  induction f with
  | zero => exact fun W r z hW _ => rp_cl W z hW
  | succ f ih =>
    intro W r z hW hr
    rw [chlM]
    split
    · rename_i hc
      intro h0
      refine RpW.tr ((((rp_cl _ z hW).tr rp_fk).tr RpW.ac).tr (hO _)) (ih _ _ _ (fun w hw => ?_) ?_) h0
      · rcases List.mem_cons.mp hw with q | q
        · rw [q]
          show (20 ≤ codY (clM (strZ (codY z.1)) W z).1 ∧ codY (clM (strZ (codY z.1)) W z).1 ≤ 38) ∧ 0 ≤ (csrZ (strZ (codY z.1)) W r).1
          rw [cl_1]
          exact ⟨hc, csr_1 hW hr⟩
        · exact hW w (csw_m w q)
      · show 0 ≤ zAt z.1 + 1
        omega
    · exact rp_cl W z hW
theorem rp_ch2 {E C : ZS → ZS} (hE : RpM E) (hC : RpM C) {r : Int × Int} (hr : 0 ≤ r.1) : RpW z (ch2M E C r z) := by
  unfold ch2M
  split
  · unfold ch3M cheM
    refine RpW.pu ?_ (fun _ _ => rp_o (by show ¬ (8 : Int) ≤ 1 ∧ ¬ (8 : Int) = 4 ∧ ¬ (8 : Int) = 5 ∧ ¬ (8 : Int) = 7 ∧ ¬ (8 : Int) = 9 ∧ ¬ (8 : Int) = 10; decide) (fun _ => hr))
    refine RpW.tr ?_ (hC _)
    refine RpW.tr ?_ RpW.xp
    refine RpW.pu ?_ (fun _ _ => rp_o (by show ¬ (13 : Int) ≤ 1 ∧ ¬ (13 : Int) = 4 ∧ ¬ (13 : Int) = 5 ∧ ¬ (13 : Int) = 7 ∧ ¬ (13 : Int) = 9 ∧ ¬ (13 : Int) = 10; decide) (fun q => absurd q (by show ¬ (13 : Int) ≤ 10; decide)))
    refine RpW.tr ?_ (hE _)
    refine RpW.tr ?_ RpW.ac
    exact RpW.pu RpW.rf (fun _ _ => rp_o (by show ¬ (12 : Int) ≤ 1 ∧ ¬ (12 : Int) = 4 ∧ ¬ (12 : Int) = 5 ∧ ¬ (12 : Int) = 7 ∧ ¬ (12 : Int) = 9 ∧ ¬ (12 : Int) = 10; decide) (fun q => absurd q (by show ¬ (12 : Int) ≤ 10; decide)))
  · exact RpW.rf
theorem rp_chc {O E C : ZS → ZS} (hO : RpM O) (hE : RpM E) (hC : RpM C) : RpM (chcM O E C) := by
  intro z h0
  have q : RpW z (chlM O 501 [] (rbM z) (O z)) := (hO z).tr (rp_chl hO _ _ _ _ (fun w hw => absurd hw List.not_mem_nil) h0)
  exact (q.tr (rp_ch2 (z := chlM O 501 [] (rbM z) (O z)) hE hC (r := csrZ 0 [] (rbM z)) h0)) h0
theorem rp_xps {O E C : ZS → ZS} (hO : RpM O) (hE : RpM E) (hC : RpM C) : RpM (xpsM N O E C) := by
  intro z
  unfold xpsM
  split
  · split
    · rename_i h80 hb
      unfold asgM aseM
      refine RpW.pu ?_ (fun h0 _ => rp_9 rfl (opf_r hb) h0)
      refine RpW.tr ?_ (hE _)
      refine RpW.tr (RpW.tr ?_ RpW.ac) RpW.ac
      unfold tkM
      split
      · exact RpW.rf
      · exact RpW.pu RpW.rf (fun _ _ => rp_o (by show ¬ (14 : Int) ≤ 1 ∧ ¬ (14 : Int) = 4 ∧ ¬ (14 : Int) = 5 ∧ ¬ (14 : Int) = 7 ∧ ¬ (14 : Int) = 9 ∧ ¬ (14 : Int) = 10; decide) (fun q => absurd q (by show ¬ (14 : Int) ≤ 10; decide)))
    · exact rp_chc hO hE hC z
  · exact rp_chc hO hE hC z
theorem rp_cle {r : Int × Int} (hr : 0 ≤ r.1) {l : List Int} (hl : zFt z.1 = 0 → (l.length : Int) ≤ zAt z.1) : RpW z (cleM r l z) := (RpW.pu (x := calZ r.1 r.2 l z.1) RpW.rf (fun _ f => rp_10 rfl ⟨rfl, hl f⟩ hr)).tr RpW.xp
theorem rp_clp {E : ZS → ZS} (hE : RpM E) {r : Int × Int} (hr : 0 ≤ r.1) : ∀ (f : Nat) (l : List Int) (z : ZS), 0 ≤ zAt z.1 → (zFt z.1 = 0 → (l.length : Int) ≤ zAt z.1) → RpW z (clpM E r f l z) := by
  intro f
  induction f with
  | zero => exact fun l z _ hl => rp_cle hr hl
  | succ f ih =>
    intro l z h0 hl
    rw [clpM]
    split
    · have a0 := (mv_acc (s := z.1)).2
      have e0 := (hE (accM z) (by show 0 ≤ zAt (accY z.1); omega)).1
      have e1 : zAt (accY z.1) ≤ zAt (E (accM z)).1 := e0.1
      refine (RpW.ac.tr (hE _)).tr (ih _ _ (by omega) (fun ft => ?_))
      have f1 : zFt (accY z.1) = 0 := e0.2.1.z ft
      have f2 := ac_lt f1
      have f3 := hl ((gd_acc _).z f1)
      rw [List.length_append]
      show ((l.length + 1 : Nat) : Int) ≤ _
      omega
    · exact rp_cle hr hl
theorem rp_opr {m : Nat} {E : ZS → ZS} {J : Int → ZS → ZS} (hE : RpM E) (hJ : ∀ g, RpM (J g)) (g : Int) : RpM (oprM N m E J g) := by
  intro z
  unfold oprM
  split
  · rename_i hc
    exact RpW.pu (RpW.ac.tr (hJ _ _)) (fun h0 _ => rp_4 rfl hc h0)
  split
  · refine RpW.tr (RpW.pu RpW.ac (fun h0 _ => rp_o (by show ¬ (6 : Int) ≤ 1 ∧ ¬ (6 : Int) = 4 ∧ ¬ (6 : Int) = 5 ∧ ¬ (6 : Int) = 7 ∧ ¬ (6 : Int) = 9 ∧ ¬ (6 : Int) = 10; decide) (fun _ => ?_))) RpW.xp
    show 0 ≤ zAt z.1 + 1
    omega
  split
  · unfold op2M
    split
    · rename_i hc
      refine RpW.pu ((RpW.ac.tr (RpW.ty.tr RpW.xp)).tr (hJ _ _)) (fun h0 _ => rp_5 rfl ?_ h0)
      show 0 ≤ codY (accM z).1 - 50 ∧ codY (accM z).1 - 50 ≤ 4
      omega
    · exact (RpW.pu (RpW.ac.tr (hE _)) (fun h0 _ => rp_o (by show ¬ (3 : Int) ≤ 1 ∧ ¬ (3 : Int) = 4 ∧ ¬ (3 : Int) = 5 ∧ ¬ (3 : Int) = 7 ∧ ¬ (3 : Int) = 9 ∧ ¬ (3 : Int) = 10; decide) (fun _ => h0))).tr RpW.xp
  split
  · unfold nmeM
    split
    · unfold ca2M
      intro h0
      refine (RpW.tr (RpW.ac.tr RpW.ac) ?_) h0
      have a1 := (mv_acc (s := z.1)).2
      have a2 := (mv_acc (s := accY z.1)).2
      have a3 : 0 ≤ zAt (accM (accM z)).1 := by show 0 ≤ zAt (accY (accY z.1)); omega
      split
      · exact RpW.ra.tr RpW.xp
      split
      · exact rp_cle (r := rbM z) h0 (fun _ => a3)
      · have e0 := (hE (accM (accM z)) a3).1
        have e1 : zAt (accY (accY z.1)) ≤ zAt (E (accM (accM z))).1 := e0.1
        refine (hE _).tr (rp_clp hE (r := rbM z) h0 _ _ _ (by omega) (fun ft => ?_))
        have f1 : zFt (accY (accY z.1)) = 0 := e0.2.1.z ft
        have f2 := ac_lt f1
        show ((1 : Nat) : Int) ≤ _
        omega
    split
    · exact RpW.pu (RpW.ac.tr RpW.ac) (fun h0 _ => rp_o (by show ¬ (6 : Int) ≤ 1 ∧ ¬ (6 : Int) = 4 ∧ ¬ (6 : Int) = 5 ∧ ¬ (6 : Int) = 7 ∧ ¬ (6 : Int) = 9 ∧ ¬ (6 : Int) = 10; decide) (fun _ => h0))
    · exact RpW.pu RpW.ac (fun h0 _ => rp_o (by show ¬ (2 : Int) ≤ 1 ∧ ¬ (2 : Int) = 4 ∧ ¬ (2 : Int) = 5 ∧ ¬ (2 : Int) = 7 ∧ ¬ (2 : Int) = 9 ∧ ¬ (2 : Int) = 10; decide) (fun _ => h0))
  split
  · rename_i hc
    refine RpW.pu RpW.ac (fun h0 f => ?_)
    have hk : (litZ g (xnM z) z.1).1.1 = if codY z.1 = 81 ∨ codY z.1 = 82 then 0 else 1 := rfl
    have fz : zFt z.1 = 0 := (gd_acc _).z f
    have l1 : zAt z.1 < zAt (accY z.1) := ac_lt f
    have k8 : codY z.1 = zK z.1 (zAt z.1).toNat := if_pos fz
    refine rp_0 (by rw [hk]; split <;> decide) ⟨by rw [hk]; split <;> decide, ?_⟩ ⟨rfl, l1, k8.symm⟩ (by show codY z.1 = 81 ∨ codY z.1 = 82 ∨ codY z.1 = 83 ∨ codY z.1 = 72 ∨ codY z.1 = 73; omega) h0
    show (litZ g (xnM z) z.1).1.1 = 0 ↔ (codY z.1 = 81 ∨ codY z.1 = 82)
    rw [hk]
    split
    · rename_i u
      exact ⟨fun _ => u, fun _ => rfl⟩
    · rename_i u
      exact ⟨fun q => absurd q (by decide), fun q => absurd q u⟩
  · exact RpW.ra
theorem rp_lv : ∀ n, RpM (eM N n) ∧ RpM (cM N n) ∧ ∀ g, RpM (oM N n g) := by
  intro n
  induction n with
  | zero => exact ⟨fun _ => RpW.ra, fun _ => RpW.ra, fun _ _ => RpW.ra⟩
  | succ n ih =>
    have hO : ∀ g, RpM (oprM N n (eM N n) (oM N n) g) := fun g => rp_opr ih.1 ih.2.2 g
    exact ⟨rp_xps (hO 0) ih.1 ih.2.1, rp_chc (hO 0) ih.1 ih.2.1, hO⟩
end
