/-! tokens of NAMES and of jumps are apart: all that is read -/
theorem tkl_app : ∀ {a b : List ItZ}, tkL (a ++ b) = tkL a ++ tkL b := by
  intro a b
  induction a with
  | nil => rfl
  | cons x a ih =>
    cases x with
    | inl x =>
      show (if x.1.1 = 2 ∨ x.1.1 = 6 ∨ x.1.1 = 9 ∨ x.1.1 = 10 then x.2.1.1 :: tkL (a ++ b) else tkL (a ++ b)) = (if x.1.1 = 2 ∨ x.1.1 = 6 ∨ x.1.1 = 9 ∨ x.1.1 = 10 then x.2.1.1 :: tkL a else tkL a) ++ tkL b
      split
      · rw [ih]
        rfl
      · exact ih
    | inr y =>
      show (if y.1 = 41 ∨ y.1 = 46 ∨ y.1 = 47 then y.2.2.2.1 :: tkL (a ++ b) else tkL (a ++ b)) = (if y.1 = 41 ∨ y.1 = 46 ∨ y.1 = 47 then y.2.2.2.1 :: tkL a else tkL a) ++ tkL b
      split
      · rw [ih]
        rfl
      · exact ih
theorem tkl_e {q : Int} : ∀ {t : List XrZ}, t.Pairwise (fun x y => NmI x → NmI y → ¬ x.2.1.1 = y.2.1.1) → (tkL (t.map Sum.inl)).count q ≤ 1 ∧ (0 < (tkL (t.map Sum.inl)).count q → ∃ x ∈ t, NmI x ∧ x.2.1.1 = q) := by
  intro t
  induction t with
  | nil => exact fun _ => ⟨Nat.zero_le _, fun h => absurd h (Nat.lt_irrefl _)⟩
  | cons x t ih =>
    intro h
    obtain ⟨h1, h2⟩ := List.pairwise_cons.mp h
    obtain ⟨i1, i2⟩ := ih h2
    show (if x.1.1 = 2 ∨ x.1.1 = 6 ∨ x.1.1 = 9 ∨ x.1.1 = 10 then x.2.1.1 :: tkL (t.map Sum.inl) else tkL (t.map Sum.inl)).count q ≤ 1 ∧ (0 < (if x.1.1 = 2 ∨ x.1.1 = 6 ∨ x.1.1 = 9 ∨ x.1.1 = 10 then x.2.1.1 :: tkL (t.map Sum.inl) else tkL (t.map Sum.inl)).count q → _)
    by_cases c : x.1.1 = 2 ∨ x.1.1 = 6 ∨ x.1.1 = 9 ∨ x.1.1 = 10
    · rw [if_pos c, ct_1]
      by_cases e : x.2.1.1 = q
      · rw [if_pos e]
        have : ¬ 0 < (tkL (t.map Sum.inl)).count q := fun g => by
          obtain ⟨y, y1, y2, y3⟩ := i2 g
          exact h1 y y1 c y2 (e.trans y3.symm)
        exact ⟨by omega, fun _ => ⟨x, List.mem_cons_self, c, e⟩⟩
      · rw [if_neg e]
        refine ⟨by omega, fun g => ?_⟩
        obtain ⟨y, y1, y2⟩ := i2 (by omega)
        exact ⟨y, List.mem_cons_of_mem _ y1, y2⟩
    · rw [if_neg c]
      refine ⟨i1, fun g => ?_⟩
      obtain ⟨y, y1, y2⟩ := i2 g
      exact ⟨y, List.mem_cons_of_mem _ y1, y2⟩
section
variable {N : Int → Int} {z0 z z' : ZS} {j n k : Nat}
theorem AkW.ee : AkW z (eM N n z) := by
  have g : GpY z.1 (eM N n z).1 := by rw [lf_e z]; exact gd_e _
  refine ⟨g, fun f p0 p ⟨h1, h2, h3⟩ => ?_⟩
  obtain ⟨t, et, pt⟩ := ((ew_lv (N := N) n).1 z).2 f p
  have m := g.2 p
  have e2 := e_2 (N := N) (n := n) p0
  have ev : zVs (eM N n z).1 = zVs z.1 := by unfold zVs; rw [e2]
  have em : zMs (eM N n z).1 = zMs z.1 := by unfold zMs; rw [e2]
  have ez : zK (eM N n z).1 = zK z.1 := by unfold zK; rw [e2]
  have ec : ∀ q, ckZ (eM N n z) q = ckZ z q + (tkL (t.map Sum.inl)).count q := fun q => by
    unfold ckZ
    rw [et, ev, em, tkl_app, List.count_append]
    omega
  refine ⟨fun q => ?_, ?_, by rw [em, ez]; exact h3⟩
  · rw [ec]
    obtain ⟨a1, a2⟩ := h1 q
    obtain ⟨b1, b2⟩ := tkl_e (q := q) pt.2.2.1
    by_cases e : 0 < (tkL (t.map Sum.inl)).count q
    · obtain ⟨x, x1, x2, x3⟩ := b2 e
      have r := pt.1 x x1 (Or.inl x2)
      have : ¬ 0 < ckZ z q := fun h => by
        have := a2 h
        omega
      omega
    · refine ⟨by omega, fun h => ?_⟩
      have := a2 (by omega)
      omega
  · rw [et, ez]
    intro y hy
    rcases List.mem_append.mp hy with hy | hy
    · obtain ⟨x, x1, rfl⟩ := List.mem_map.mp hy
      exact fun hx => (pt.1 x x1 (Or.inl hx)).2.2
    · exact h2 y hy
theorem AkW.va1 {f ty : Int} : AkW z (va1M N j n f ty z) := by
  refine (AkW.dc (N := N) (ty := ty) (f := f) (h := 1)).tr ?_
  have m : ∀ (w : ZS) (j : Nat) (g : SrZ → SrZ), AkW w (seM j g w) := fun w j g => AkW.mv GpY.rf rfl rfl (fun _ h => h)
  refine (m _ j (sLk (zVs z.1).length)).tr ?_
  show AkW _ (va2M N j n f (zVs z.1).length (zAt z.1) _)
  unfold va2M
  split
  · refine AkW.tr ?_ (AkW.pu rfl)
    exact ((AkW.i22.tr (AkW.s (gd_xp _) mv_xp.1)).tr AkW.ee).tr (m _ _ _)
  · exact AkW.i22
theorem cod_k {s : SpC} {c : Int} (f : zFt s = 0) (h : codY s = c) : zK s (zAt s).toNat = c := by
  have e8 : codY s = zK s (zAt s).toNat := if_pos f
  rw [← e8]
  exact h
theorem AkW.lb (c : codY z.1 = 80) : AkW z (laB n z) := by
  have g : GpY z.1 (xpY 6 (accY z.1)) := GpY.tr (gd_acc _) (gd_xp _)
  refine AkW.one (t := zAt z.1) g (by show (xpY 6 (accY z.1)).2 = _; rw [mv_xp.1, mv_acc.1]) rfl (fun f p0 p => ?_) (fun f h => ?_)
  · have f : zFt (xpY 6 (accY z.1)) = 0 := f
    have l1 := xp_lt f
    have l2 := (mv_acc (s := z.1)).2
    show _ ∧ _ < zAt (xpY 6 (accY z.1))
    omega
  · have k := cod_k (g.z f) c
    exact nak_c (fun _ => k) (nak_c (fun e => absurd e (by show ¬ (20 : Int) = 41; decide)) h)
theorem AkW.ju {c : Int} (hc : c = 64 ∨ c = 65) : AkW z (juM N c n z) := by
  have key : ∀ (w : ZS) (e : Nat), AkW z w → AkW z (enM (snM z) e (xpM 4 w)) := fun w e h => (h.tr (AkW.s (gd_xp _) mv_xp.1)).tr (AkW.it (by show CdN 45; decide))
  refine key _ _ ?_
  show AkW z (if codY (accY z.1) = 80 then _ else _)
  have l1 : zAt z.1 ≤ zAt (accY z.1) := (mv_acc (s := z.1)).2
  split
  · rename_i d
    refine AkW.one (t := zAt (accY z.1)) (GpY.tr (gd_acc z.1) (gd_acc (accY z.1))) (by show (accY (accY z.1)).2 = _; rw [mv_acc.1, mv_acc.1]) ?_ (fun f p0 p => ?_) (fun f h => ?_)
    · exact if_pos (by show c - 18 = 41 ∨ c - 18 = 46 ∨ c - 18 = 47; omega)
    · exact ⟨l1, ac_lt f⟩
    · exact nak_c (fun e => absurd e (by show ¬ c - 18 = 41; omega)) (nak_c (fun e => absurd e (by show ¬ (20 : Int) = 41; decide)) h)
  · refine AkW.one (t := zAt z.1) (gd_acc z.1) mv_acc.1 ?_ (fun f p0 p => ?_) (fun f h => ?_)
    · exact if_pos (by show c - 18 = 41 ∨ c - 18 = 46 ∨ c - 18 = 47; omega)
    · exact ⟨Int.le_refl _, ac_lt f⟩
    · exact nak_c (fun e => absurd e (by show ¬ c - 18 = 41; omega)) (nak_c (fun e => absurd e (by show ¬ (20 : Int) = 41; decide)) h)
theorem AkW.me {ty : Int} (f0 : zFt z.1 = 0) (c : codY z.1 = 80) : AkW z (accM (me0M ty z)) := by
  have g : GpY z.1 (accY (metY ty z.1)) := GpY.tr (gd_met z.1) (gd_acc _)
  refine ⟨g, fun f p0 p ⟨h1, h2, h3⟩ => ?_⟩
  have f : zFt (accY (metY ty z.1)) = 0 := f
  have lt : zAt z.1 < zAt (accY (metY ty z.1)) := ac_lt f
  have e2 : (accY (metY ty z.1)).2 = (metY ty z.1).2 := mv_acc.1
  have ev : zVs (accY (metY ty z.1)) = zVs z.1 := by unfold zVs; rw [e2]; rfl
  have em : zMs (accY (metY ty z.1)) = (zAt z.1, ty, []) :: zMs z.1 := by unfold zMs; rw [e2]; rfl
  have ez : zK (accY (metY ty z.1)) = zK z.1 := by unfold zK; rw [e2]; rfl
  have ec : ∀ q, ckZ (accM (me0M ty z)) q = ckZ z q + if zAt z.1 = q then 1 else 0 := fun q => by
    show (tkL z.2.1).count q + ((zVs (accY (metY ty z.1))).map (fun v => v.1)).count q + ((zMs (accY (metY ty z.1))).map (fun m => m.1)).count q = _
    rw [ev, em, List.map_cons, ct_1]
    unfold ckZ
    show _ + (_ + if zAt z.1 = q then 1 else 0) = _
    omega
  have k := cod_k f0 c
  refine ⟨fun q => ?_, ?_, ?_⟩
  · rw [ec]
    show _ ∧ (_ → 0 ≤ q ∧ q < zAt (accY (metY ty z.1)))
    obtain ⟨a1, a2⟩ := h1 q
    by_cases e : zAt z.1 = q
    · rw [if_pos e]
      have : ¬ 0 < ckZ z q := fun h => by
        have := a2 h
        omega
      omega
    · rw [if_neg e]
      refine ⟨by omega, fun h => ?_⟩
      have := a2 (by omega)
      omega
  · show ∀ y ∈ z.2.1, NaK (zK (accY (metY ty z.1))) y
    rw [ez]
    exact h2
  · show ∀ q ∈ (zMs (accY (metY ty z.1))).map (fun m => m.1), zK (accY (metY ty z.1)) q.toNat = 80
    rw [ez, em]
    intro q hq
    rcases List.mem_cons.mp hq with rfl | hq
    · exact k
    · exact h3 q hq
end
theorem ak_w {N : Int → Int} : WkC N AkW := ⟨fun _ => AkW.rf, fun _ _ _ => AkW.tr, fun _ _ g e => AkW.s g e, fun _ _ h => AkW.it h, fun _ _ _ _ _ _ => AkW.va1, fun _ _ => AkW.mv GpY.rf rfl rfl (fun _ h => h), fun _ => AkW.mv GpY.rf rfl rfl (fun _ h => h), fun _ _ _ _ => AkW.mv GpY.rf rfl rfl (fun _ h => h), fun _ _ _ => AkW.mv GpY.rf rfl rfl (fun _ h => h), fun _ _ _ => AkW.mv GpY.rf rfl rfl (fun _ h => h), fun _ _ _ _ _ => AkW.dc, fun _ _ _ => AkW.pad, fun _ _ => AkW.ee, fun _ _ c => AkW.lb c, fun _ _ _ h => AkW.ju h, fun _ _ f c _ => AkW.me f c, fun _ _ _ => AkW.en⟩
theorem ak_all {N : Int → Int} {f : Nat} {s : SpC} (h : zFt (prM N f (z0S s)).1 = 0) (hs : Z0Y s) : AkI (prM N f (z0S s)) := by
  obtain ⟨h1, h2, h3, h4⟩ := hs
  refine (Rl.pr (N := N) (R := AkW) f (z0S s) ak_w).2 h (by show 0 ≤ zAt s; omega) (by show zAt s ≤ 500; omega) ⟨fun q => ?_, fun y hy => absurd hy List.not_mem_nil, ?_⟩
  · have e : ckZ (z0S s) q = 0 := by
      show (tkL []).count q + ((zVs s).map (fun v => v.1)).count q + ((zMs s).map (fun m => m.1)).count q = 0
      rw [h4, h3]
      rfl
    rw [e]
    exact ⟨Nat.zero_le _, fun h => absurd h (Nat.lt_irrefl _)⟩
  · show ∀ q ∈ (zMs s).map (fun m => m.1), _
    rw [h3]
    exact fun q hq => absurd hq List.not_mem_nil
