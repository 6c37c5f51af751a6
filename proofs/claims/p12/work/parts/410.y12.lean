/-! what reading lays: methods, the program -/
theorem me_q {N : Int → Int} {z : ZS} (h : zFt (meM N z).1 = 0) : (∀ i, i < snM z → reS (meM N z) i = reS z i) ∧ snM z < snM (meM N z) ∧ (zMs (meM N z).1).length = (zMs z.1).length + 1 ∧ NpY z.1 (meM N z).1 ∧ GpY z.1 (meM N z).1 ∧ ∀ Z, Cp Z z → AgF Z (meM N z) (snM z) → MeD N Z (zMs z.1).length (psM z) (psM (meM N z)) := by
  have e : meM N z = me3M N (codY z.1 - 50) (me2M (accM (me1M z))) := rfl
  have k1 : KpY z.1 (me1M z).1 ∧ (me1M z).2 = z.2 := by
    unfold me1M
    split
    · exact ⟨KpY.rf, rfl⟩
    · exact ⟨kp_rai, rfl⟩
  have k2 : KpY z.1 (me2M (accM (me1M z))).1 ∧ (me2M (accM (me1M z))).2 = z.2 := by
    have k3 : KpY z.1 (accM (me1M z)).1 ∧ (accM (me1M z)).2 = z.2 := ⟨k1.1.tr kp_acc, k1.2⟩
    unfold me2M
    split
    · split
      · exact ⟨k3.1.tr kp_rai, k3.2⟩
      · exact k3
    · exact ⟨k3.1.tr kp_rai, k3.2⟩
  rw [e] at h ⊢
  generalize codY z.1 - 50 = ty at h ⊢
  generalize me2M (accM (me1M z)) = y at h k2 ⊢
  unfold me3M at h ⊢
  by_cases c : zFt y.1 = 0
  · rw [if_pos c] at h ⊢
    have h1 : zFt (boM (rwM N 20) 21 [] (paM N (accM (me0M ty y)))).1 = 0 := h
    have ey : psM y = psM z ∧ (∀ i, reS y i = reS z i) := by
      unfold psM snM tnM reS
      rw [k2.2]
      exact ⟨rfl, fun _ => rfl⟩
    have pe := pa_e (N := N) (z := accM (me0M ty y))
    have g1 : (zMs (paM N (accM (me0M ty y))).1).length = (zMs z.1).length + 1 := by
      rw [(kp_pa (N := N) (z := accM (me0M ty y))).1.1]
      show (zMs (accY (me0M ty y).1)).length = _
      rw [(kp_acc (s := (me0M ty y).1)).1.1]
      show (zMs y.1).length + 1 = _
      rw [k2.1.1.1]
    have g2 : NpY z.1 (paM N (accM (me0M ty y))).1 := (k2.1.2.1.tr (gn_met _)).tr ((kp_acc (s := (me0M ty y).1)).2.1.tr (kp_pa (N := N) (z := accM (me0M ty y))).2.1)
    have g3 : GpY z.1 (paM N (accM (me0M ty y))).1 := (k2.1.2.2.tr (gd_met _)).tr ((kp_acc (s := (me0M ty y).1)).2.2.tr (kp_pa (N := N) (z := accM (me0M ty y))).2.2)
    have p1 : psM (paM N (accM (me0M ty y))) = (snM z, tnM z + 1, z.2.1) := by
      rw [pe.1]
      have a := congrArg (fun q : Ps => q.1) ey.1
      have b := congrArg (fun q : Ps => q.2.1) ey.1
      have d := congrArg (fun q : Ps => q.2.2) ey.1
      show (snM y, tnM y + 1, y.2.1) = _
      have a : snM y = snM z := a
      have b : tnM y = tnM z := b
      have d : y.2.1 = z.2.1 := d
      rw [a, b, d]
    have p2 : (paM N (accM (me0M ty y))).2.2.2.1.2 = -1 := pe.2.1
    have p3 : ∀ i, reS (paM N (accM (me0M ty y))) i = reS z i := fun i => (pe.2.2 i).trans (ey.2 i)
    have eM : (zMs y.1).length = (zMs z.1).length := k2.1.1.1
    rw [eM]
    generalize paM N (accM (me0M ty y)) = w at h1 g1 g2 g3 p1 p2 p3 ⊢
    have sw_ : snM w = snM z := congrArg (fun q : Ps => q.1) p1
    obtain ⟨⟨x, q, Q, lt⟩, hB⟩ := sb_bo (N := N) (n := 20) (z := w) (out := []) (sd_ls 20).2 h1
    refine ⟨fun i hi => (Q.1 i (by omega)).trans (p3 i), by have e5 : snM (boM (rwM N 20) 21 [] w) = q.1 := Q.sn; show snM z < snM (boM (rwM N 20) 21 [] w); omega, by show (zMs (boM (rwM N 20) 21 [] w).1).length = _; rw [Q.2.2.2.2.1.1]; exact g1, g2.tr Q.2.2.2.2.2.1, g3.tr Q.2.2.2.2.2.2, fun Z C ag => ?_⟩
    obtain ⟨⟨c1, c2, c3⟩, c4, c5, c6⟩ := C
    have gp := g3.2 c3
    have Cw : Cq Z (((zMs z.1).length : Nat) : Int) w := ⟨⟨by rw [g1]; omega, by unfold zK at *; rw [g2.1]; exact c1, Int.le_trans c2 gp.1, gp.2⟩, by rw [p2]; omega, c4, by omega, fun i hi => by unfold thS kjS ljS; rw [p3 i]; exact c6 i (by omega)⟩
    have e5 : snM (boM (rwM N 20) 21 [] w) = q.1 := Q.sn
    have agw : AgN Z (boM (rwM N 20) 21 [] w) (snM w) := AgF.n ⟨ag.1, fun i a b => ag.2 i (by omega) b⟩ (by omega)
    have r := hB Z _ Cw agw
    rw [p1, p2] at r
    exact ⟨psM (boM (rwM N 20) 21 [] w), zAt y.1, r, rfl⟩
  · rw [if_neg c] at h
    exact absurd h c
theorem pr_q {N : Int → Int} : ∀ (f : Nat) (z : ZS), zFt (prM N f z).1 = 0 → ∃ L : List Nat, (∀ i, i < snM z → reS (prM N f z) i = reS z i) ∧ snM z ≤ snM (prM N f z) ∧ (zMs (prM N f z).1).length = (zMs z.1).length + L.length ∧ NpY z.1 (prM N f z).1 ∧
    (∀ q : (Nat → Nat) × (Nat → Nat), (∀ k, k < (zMs z.1).length → (jfM N f z q).1 k = q.1 k) ∧ ∀ (i j : Nat), L[i]? = some j → (jfM N f z q).1 ((zMs z.1).length + i) = j) ∧ ∀ Z, Cp Z z → AgF Z (prM N f z) (snM z) → PrD N Z L (zMs z.1).length (psM z) (psM (prM N f z)) := by
  intro f
  induction f with
  | zero => exact fun z _ => ⟨[], fun _ _ => rfl, Nat.le_refl _, rfl, NpY.rf, fun q => ⟨fun _ _ => rfl, fun i j e => by cases e⟩, fun _ _ _ => rfl⟩
  | succ f ih =>
    intro z h
    rw [prM] at h ⊢
    by_cases c : zFt z.1 = 0
    · rw [if_pos c] at h ⊢
      by_cases c4 : codY z.1 = 84
      · rw [if_pos c4]
        refine ⟨[], fun _ _ => rfl, Nat.le_refl _, rfl, NpY.rf, fun q => ⟨fun _ _ => ?_, fun i j e => by cases e⟩, fun _ _ _ => rfl⟩
        rw [jfM, if_pos c, if_pos c4]
      · rw [if_neg c4] at h ⊢
        have hm : zFt (meM N z).1 = 0 := by
          by_cases c5 : zFt (meM N z).1 = 0
          · exact c5
          · exfalso
            cases f with
            | zero => exact c5 h
            | succ f => rw [prM, if_neg c5] at h; exact c5 h
        obtain ⟨m1, m2, m3, m4, m5, m6⟩ := me_q hm
        obtain ⟨L, l1, l2, l3, l4, l5, l6⟩ := ih (meM N z) h
        refine ⟨snM z :: L, fun i hi => (l1 i (by omega)).trans (m1 i hi), by omega, by rw [l3, m3, List.length_cons]; omega, m4.tr l4, fun q => ?_, fun Z C ag => ⟨rfl, psM (meM N z), ?_, ?_⟩⟩
        · rw [jfM, if_pos c, if_neg c4]
          obtain ⟨a, b⟩ := l5 (upA q.1 (zMs z.1).length (snM z), upA q.2 (zMs z.1).length (zVs z.1).length)
          rw [m3] at a b
          refine ⟨fun k hk => ?_, fun i j e => ?_⟩
          · rw [a k (by omega)]
            exact if_neg (by omega)
          · cases i with
            | zero =>
              have e : snM z = j := Option.some.inj e
              rw [a _ (by omega), ← e]
              exact if_pos rfl
            | succ i =>
              have e : L[i]? = some j := e
              rw [show (zMs z.1).length + (i + 1) = (zMs z.1).length + 1 + i by omega]
              exact b i j e
        · exact m6 Z C ⟨by have := ag.1; omega, fun i a b => by rw [ag.2 i a (by omega), l1 i b]⟩
        · obtain ⟨⟨c1, c2, c3⟩, c4, c5, c6⟩ := C
          have gp := m5.2 c3
          have Cm : Cp Z (meM N z) := by
            refine ⟨⟨by unfold zK at *; rw [m4.1]; exact c1, Int.le_trans c2 gp.1, gp.2⟩, c4, by have := ag.1; omega, fun i hi => ?_⟩
            by_cases g : i < snM z
            · unfold thS kjS ljS
              rw [m1 i g]
              exact c6 i g
            · have a : reS Z i = reS (meM N z) i := by rw [ag.2 i (by omega) (by omega), l1 i hi]
              unfold thS ljS
              rw [a]
              exact ⟨rfl, rfl, fun _ => rfl⟩
          have r := l6 Z Cm ⟨ag.1, fun i a b => ag.2 i (by omega) b⟩
          rw [m3] at r
          exact r
    · rw [if_neg c] at h
      exact absurd h c
/-- all that is read, S by S -/
theorem pr_d {N : Int → Int} {f : Nat} {s : SpC} (h : zFt (prM N f (z0S s)).1 = 0) (hs : zAt s = 0 ∧ zMs s = []) : ∃ L : List Nat, L.length = (zMs (prM N f (z0S s)).1).length ∧ (∀ (q : (Nat → Nat) × (Nat → Nat)) (i j : Nat), L[i]? = some j → (jfM N f (z0S s) q).1 i = j) ∧ PrD N (prM N f (z0S s)) L 0 (0, 0, []) (psM (prM N f (z0S s))) := by
  obtain ⟨L, l1, l2, l3, l4, l5, l6⟩ := pr_q f (z0S s) h
  have e0 : (zMs (z0S s).1).length = 0 := by show (zMs s).length = 0; rw [hs.2]; rfl
  have up := up_pr (N := N) (f := f) (z := z0S s) rfl (by show (-1 : Int) < 0; decide)
  refine ⟨L, by rw [l3, e0]; omega, fun q i j e => ?_, ?_⟩
  · have r := (l5 q).2 i j e
    rw [e0, Nat.zero_add] at r
    exact r
  · have r := l6 (prM N f (z0S s)) ⟨⟨by unfold zK; rw [l4.1], by show 0 ≤ zAt s; rw [hs.1]; decide, by show zAt s ≤ 500; rw [hs.1]; decide⟩, fun i hi => up.2 i hi, l2, fun i hi => absurd hi (Nat.not_lt_zero _)⟩ ⟨Nat.le_refl _, fun _ _ _ => rfl⟩
    rw [e0] at r
    exact r
