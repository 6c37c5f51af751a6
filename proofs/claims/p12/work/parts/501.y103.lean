/-! ranges of exps are apart, in all that is read -/
def EaI (z : ZS) : Prop := ∀ x l, (.inl x :: l) <:+ z.2.1 → x.1.1 ≤ 10 → (x.1.2.2.2 < zAt z.1 ∧ x.1.2.2.1 ≤ x.1.2.2.2) ∧ ∀ y, .inl y ∈ l → y.1.1 ≤ 10 → ¬ (x.1.2.2.1 = y.1.2.2.1 ∧ x.1.2.2.2 = y.1.2.2.2)
def EaW (z0 z : ZS) : Prop := GpY z0.1 z.1 ∧ (zFt z.1 = 0 → 0 ≤ zAt z0.1 → zAt z0.1 ≤ 500 → EaI z0 → EaI z)
theorem sf_nu {x : XrZ} {l L : List ItZ} (k : x.1.1 ≤ 10) : ∀ {u : List ItZ}, (∀ w ∈ u, ∀ y, w = .inl y → ¬ y.1.1 ≤ 10) → (.inl x :: l) <:+ (u ++ L) → (.inl x :: l) <:+ L := by
  intro u
  induction u with
  | nil => exact fun _ h => h
  | cons w u ih =>
    intro hu h
    rcases List.suffix_cons_iff.mp (show (.inl x :: l) <:+ (w :: (u ++ L)) from h) with e | e
    · exact absurd k (hu w List.mem_cons_self x (List.cons.inj e).1.symm)
    · exact ih (fun v hv => hu v (List.mem_cons_of_mem _ hv)) e
section
variable {N : Int → Int} {z0 z z' : ZS} {a b c : ZS} {j n k : Nat}
theorem EaW.rf : EaW z z := ⟨GpY.rf, fun _ _ _ h => h⟩
theorem EaW.tr (h : EaW a b) (g : EaW b c) : EaW a c := ⟨h.1.tr g.1, fun f p q i => by
  have m := h.1.2 q
  exact g.2 f (by omega) m.2 (h.2 (g.1.z f) p q i)⟩
theorem EaW.mv (g : GpY z.1 z'.1) (u : List ItZ) (e : z'.2.1 = u ++ z.2.1) (hu : ∀ w ∈ u, ∀ y, w = .inl y → ¬ y.1.1 ≤ 10) : EaW z z' := ⟨g, fun _ _ p h => fun x l hx k => by
  have m := g.2 p
  rw [e] at hx
  have q := h x l (sf_nu k hu hx) k
  exact ⟨⟨by omega, q.1.2⟩, q.2⟩⟩
theorem no_u : ∀ w ∈ ([] : List ItZ), ∀ y, w = .inl y → ¬ y.1.1 ≤ 10 := fun _ h => absurd h List.not_mem_nil
theorem EaW.s {s' : SpC} (g : GpY z.1 s') : EaW z (s', z.2) := EaW.mv g [] rfl no_u
theorem EaW.it {y : Int × Int × Int × Int × Int} : EaW z (z.1, .inr y :: z.2.1, z.2.2) := EaW.mv GpY.rf [.inr y] rfl (fun w hw v hv => by
  rw [List.mem_singleton.mp hw] at hv
  cases hv)
theorem EaW.pu {x : XrZ} (k : ¬ x.1.1 ≤ 10) : EaW z (puM x z) := EaW.mv GpY.rf [.inl x] rfl (fun w hw v hv => by
  rw [List.mem_singleton.mp hw] at hv
  cases hv
  exact k)
theorem EaW.ee : EaW z (eM N n z) := by
  obtain ⟨⟨⟨w1, w2⟩, w3⟩, _⟩ := (eg_lv (N := N) n).1 z
  refine ⟨w2, fun f p0 p h => ?_⟩
  obtain ⟨t, et, pt1, pt2⟩ := w3 f
  intro x l hx k
  rw [et] at hx
  clear et
  induction t with
  | nil =>
    have q := h x l hx k
    exact ⟨⟨by omega, q.1.2⟩, q.2⟩
  | cons w t ih =>
    rcases List.suffix_cons_iff.mp (show (.inl x :: l) <:+ (Sum.inl w :: (t.map Sum.inl ++ z.2.1)) from hx) with e | e
    · obtain ⟨e1, e2⟩ := List.cons.inj e
      cases e1
      have a := pt1 x List.mem_cons_self k
      refine ⟨⟨a.2.2, a.2.1⟩, fun y hy ky => ?_⟩
      rw [e2] at hy
      rcases in_tx.mp hy with m | m
      · exact (List.pairwise_cons.mp pt2).1 y m k ky
      · intro q
        obtain ⟨c, hc⟩ : ∃ c, (.inl y :: c) <:+ z.2.1 := by
          obtain ⟨s, c, e3⟩ := List.append_of_mem m
          exact ⟨c, s, e3.symm⟩
        have := (h y c hc ky).1
        omega
    · exact ih (fun y hy => pt1 y (List.mem_cons_of_mem _ hy)) (List.pairwise_cons.mp pt2).2 e
theorem EaW.se {f : SrZ → SrZ} : EaW z (seM j f z) := EaW.mv GpY.rf [] rfl no_u
theorem EaW.dc {ty f h : Int} : EaW z (dcM N ty f h z) := EaW.mv (gd_dcl _) [] rfl no_u
theorem EaW.va1 {f ty : Int} : EaW z (va1M N j n f ty z) := by
  refine ((EaW.dc (N := N) (ty := ty) (f := f) (h := 1)).tr (EaW.se (j := j) (f := sLk (zVs z.1).length))).tr ?_
  show EaW _ (va2M N j n f (zVs z.1).length (zAt z.1) _)
  unfold va2M
  split
  · refine EaW.tr ?_ (EaW.pu (by show ¬ (15 : Int) ≤ 10; decide))
    exact ((EaW.it.tr (EaW.s (gd_xp _))).tr EaW.ee).tr EaW.se
  · exact EaW.it
theorem EaW.ju {c : Int} : EaW z (juM N c n z) := by
  have key : ∀ (w : ZS) (e : Nat), EaW z w → EaW z (enM (snM z) e (xpM 4 w)) := fun w e h => (h.tr (EaW.s (gd_xp _))).tr EaW.it
  refine key _ _ ?_
  show EaW z (if codY (accY z.1) = 80 then _ else _)
  have q : EaW z (accM (bgM c n z)) := (EaW.it (z := z) (y := (20, 0, 0, zAt z.1, -1))).tr (EaW.mv (gd_acc z.1) [] rfl no_u)
  split
  · exact ((q.tr EaW.se).tr EaW.it).tr (EaW.s (gd_acc _))
  · exact q.tr EaW.it
theorem EaW.lb : EaW z (laB n z) := EaW.mv (GpY.tr (gd_acc _) (gd_xp _)) [.inr (41, (tnM z : Int), 0, zAt z.1, -1), .inr (20, 0, 0, zAt z.1, -1)] rfl (fun w hw v hv => by
  rcases List.mem_cons.mp hw with e | e
  · rw [e] at hv
    cases hv
  · rw [List.mem_singleton.mp e] at hv
    cases hv)
end
theorem ea_w {N : Int → Int} : WkC N EaW := ⟨fun _ => EaW.rf, fun _ _ _ => EaW.tr, fun _ _ g _ => EaW.s g, fun _ _ _ => EaW.it, fun _ _ _ _ _ _ => EaW.va1, fun _ _ => EaW.mv GpY.rf [] rfl no_u, fun _ => EaW.mv GpY.rf [] rfl no_u, fun _ _ _ _ => EaW.se, fun _ _ _ => EaW.mv GpY.rf [] rfl no_u, fun _ _ _ => EaW.mv GpY.rf [] rfl no_u, fun _ _ _ _ _ => EaW.dc, fun _ _ _ => EaW.mv (gd_pad _) [] rfl no_u, fun _ _ => EaW.ee, fun _ _ _ => EaW.lb, fun _ _ _ _ => EaW.ju, fun z ty _ _ _ => EaW.mv (GpY.tr (gd_met z.1) (gd_acc _)) [] rfl no_u, fun _ _ _ => EaW.it⟩
theorem ea_all {N : Int → Int} {f : Nat} {s : SpC} (h : zFt (prM N f (z0S s)).1 = 0) (hs : Z0Y s) : EaI (prM N f (z0S s)) := by
  have h1 := hs.1
  exact (Rl.pr (N := N) (R := EaW) f (z0S s) ea_w).2 h (by show 0 ≤ zAt s; omega) (by show zAt s ≤ 500; omega) (fun x l hx => absurd (hx.subset List.mem_cons_self) List.not_mem_nil)
/-! what type and constant answer -/
/-- the exp from token i to token k -/
def lsW (i k : Int) : List ItZ → Option Nat
  | [] => none
  | .inl x :: l => if x.1.1 ≤ 10 ∧ x.1.2.2.1 = i ∧ x.1.2.2.2 = k then some (xcZ l) else lsW i k l
  | .inr _ :: l => lsW i k l
/-- one of them is the only one -/
theorem ls_un {z : ZS} (h : EaI z) {x : XrZ} {l : List ItZ} (hx : (.inl x :: l) <:+ z.2.1) (k : x.1.1 ≤ 10) : lsW x.1.2.2.1 x.1.2.2.2 z.2.1 = some (xcZ l) := by
  obtain ⟨t, e⟩ := hx
  have key : ∀ t : List ItZ, (∀ y l', (.inl y :: l') <:+ (t ++ (.inl x :: l)) → y.1.1 ≤ 10 → (.inl x : ItZ) ∈ l' → ¬ (y.1.2.2.1 = x.1.2.2.1 ∧ y.1.2.2.2 = x.1.2.2.2)) → lsW x.1.2.2.1 x.1.2.2.2 (t ++ (.inl x :: l)) = some (xcZ l) := by
    intro t
    induction t with
    | nil => exact fun _ => if_pos ⟨k, rfl, rfl⟩
    | cons w t ih =>
      intro hh
      have r := ih (fun y l' hy ky => hh y l' (hy.trans (List.suffix_cons _ _)) ky)
      cases w with
      | inl y =>
        show (if y.1.1 ≤ 10 ∧ y.1.2.2.1 = x.1.2.2.1 ∧ y.1.2.2.2 = x.1.2.2.2 then some (xcZ (t ++ (.inl x :: l))) else lsW x.1.2.2.1 x.1.2.2.2 (t ++ (.inl x :: l))) = _
        rw [if_neg (fun q => hh y (t ++ (.inl x :: l)) List.suffix_rfl q.1 (List.mem_append_right _ List.mem_cons_self) q.2)]
        exact r
      | inr y => exact r
  rw [← e]
  refine key t (fun y l' hy ky hm => ?_)
  rw [e] at hy
  exact (h y l' hy ky).2 x hm k
theorem ls_no {i k : Int} : ∀ {L : List ItZ}, lsW i k L = none → ∀ x, .inl x ∈ L → x.1.1 ≤ 10 → ¬ (x.1.2.2.1 = i ∧ x.1.2.2.2 = k) := by
  intro L
  induction L with
  | nil => exact fun _ x h => absurd h List.not_mem_nil
  | cons w L ih =>
    intro h x hx kx q
    cases w with
    | inl y =>
      have h : (if y.1.1 ≤ 10 ∧ y.1.2.2.1 = i ∧ y.1.2.2.2 = k then some (xcZ L) else lsW i k L) = none := h
      by_cases c : y.1.1 ≤ 10 ∧ y.1.2.2.1 = i ∧ y.1.2.2.2 = k
      · rw [if_pos c] at h
        cases h
      · rw [if_neg c] at h
        rcases List.mem_cons.mp hx with e | e
        · cases e
          exact c ⟨kx, q⟩
        · exact ih h x e kx q
    | inr y =>
      rcases List.mem_cons.mp hx with e | e
      · cases e
      · exact ih h x e kx q
/-- the reference's list of exps, searched from its beginning to its end -/
theorem xa_ls {Y : RS} {T : TbT} {i k r : Int32} : ∀ {l : List ItZ}, JtR Y T l → ((r = -2 ∧ ∀ x : Nat, x < ycZ l → ¬ (aI Y 75 x = i ∧ aI Y 76 x = k)) ∨ (0 ≤ r.toInt ∧ r.toInt < (ycZ l : Int) ∧ (aI Y 75 r.toNatClampNeg = i ∧ aI Y 76 r.toNatClampNeg = k) ∧ ∀ x : Nat, r.toInt < (x : Int) → x < ycZ l → ¬ (aI Y 75 x = i ∧ aI Y 76 x = k))) → (r = -2 ∧ lsW i.toInt k.toInt l = none) ∨ (0 ≤ r.toInt ∧ ∃ e, lsW i.toInt k.toInt l = some e ∧ ShT (aI Y 77 r.toNatClampNeg) (aI Y 78 r.toNatClampNeg) (aL Y 79 r.toNatClampNeg) (T.1 e)) := by
  intro l
  induction l with
  | nil =>
    intro _ h
    rcases h with ⟨h1, _⟩ | ⟨h1, h2, _⟩
    · exact Or.inl ⟨h1, rfl⟩
    · have h2 : r.toInt < ((0 : Nat) : Int) := h2
      omega
  | cons w l ih =>
    intro hJ h
    cases w with
    | inr y => exact ih hJ.2 h
    | inl x =>
      obtain ⟨j1, j2⟩ := hJ
      by_cases kx : x.1.1 ≤ 10
      · have yc : ycZ (Sum.inl x :: l) = ycZ l + 1 := if_pos kx
        obtain ⟨⟨e1, e2, e3⟩, _⟩ := j1 kx
        rw [yc] at h
        have mt : (aI Y 75 (ycZ l) = i ∧ aI Y 76 (ycZ l) = k) ↔ (x.1.2.2.1 = i.toInt ∧ x.1.2.2.2 = k.toInt) := by
          rw [← e1, ← e2, Int32.toInt_inj, Int32.toInt_inj]
        by_cases c : x.1.2.2.1 = i.toInt ∧ x.1.2.2.2 = k.toInt
        · have ls : lsW i.toInt k.toInt (Sum.inl x :: l) = some (xcZ l) := if_pos ⟨kx, c⟩
          rcases h with ⟨_, h2⟩ | ⟨h1, h2, h3, h4⟩
          · exact absurd (mt.mpr c) (h2 _ (Nat.lt_succ_self _))
          · have re : r.toInt = (ycZ l : Int) := Classical.byContradiction (fun q => h4 (ycZ l) (by omega) (Nat.lt_succ_self _) (mt.mpr c))
            have rn : r.toNatClampNeg = ycZ l := nT_x re
            exact Or.inr ⟨h1, xcZ l, ls, by rw [rn]; exact e3⟩
        · have ls : lsW i.toInt k.toInt (Sum.inl x :: l) = lsW i.toInt k.toInt l := if_neg (fun q => c q.2)
          rw [ls]
          refine ih j2 ?_
          rcases h with ⟨h1, h2⟩ | ⟨h1, h2, h3, h4⟩
          · exact Or.inl ⟨h1, fun p hp => h2 p (by omega)⟩
          · have re : ¬ r.toInt = (ycZ l : Int) := fun q => by
              rw [show r.toNatClampNeg = ycZ l from nT_x q] at h3
              exact c (mt.mp h3)
            exact Or.inr ⟨h1, by omega, h3, fun p a b => h4 p a (by omega)⟩
      · have yc : ycZ (Sum.inl x :: l) = ycZ l := if_neg kx
        have ls : lsW i.toInt k.toInt (Sum.inl x :: l) = lsW i.toInt k.toInt l := if_neg (fun q => kx q.1)
        rw [yc] at h
        rw [ls]
        exact ih j2 h
