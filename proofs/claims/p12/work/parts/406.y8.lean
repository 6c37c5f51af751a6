/-! what reading lays: for, jumps, return, throw -/
theorem sNx_id {x : SrZ} {v : Int} (h : x.2.2.1 = v) : sNx v x = x := by
  obtain ⟨a, b, c, d⟩ := x
  have h : c = v := h
  rw [← h]
  rfl
section
variable {z : ZS} {N : Int → Int} {n : Nat}
theorem fx1_q {w : ZS} (hf : zFt (fx1M N n w).1 = 0) : ∃ m r, ExX (lvN n) w.2.1 m r ∧ Pz w (sEx ((xcZ m : Int) - 1) (bR 94 n w)) (snM w + 1, tnM w, cEy 21 (acZ r) 0 r.1.2.2.1 m :: m) w.2.2.2.1.2 (fx1M N n w) := by
  obtain ⟨m, r, hx, P⟩ := (Pz.be (z := w) (n := n) (k := 94)).ex (N := N) (n := n) hf
  obtain ⟨m1, e, _⟩ := id hx
  exact ⟨m, r, hx, P.po (m := m) e⟩
theorem fxl_b {f i : Nat} {w : ZS} (h : zFt (fxlM N n f i w).1 = 0) : zFt w.1 = 0 := (gd_clp (gd_e (n := n)) f w.1).z (by rw [← lf_fxl f i w]; exact h)
theorem fxl_q : ∀ (f i : Nat) (w : ZS), i < snM w → njS w i = -1 → zFt (fxlM N n f i w).1 = 0 → ∃ L, FwJ i w (fxlM N n f i w) ∧ reS (fxlM N n f i w) i = sNx (hdI L) (reS w i) ∧ (fxlM N n f i w).2.2.2.1.2 = w.2.2.2.1.2 ∧ KpY w.1 (fxlM N n f i w).1 ∧ ∀ Z, AgF Z (fxlM N n f i w) (snM w) → FxD Z (lvN n) w.2.2.2.1.2 L (psM w) (psM (fxlM N n f i w)) := by
  intro f
  induction f with
  | zero => exact fun i w hi hn _ => ⟨[], ⟨Nat.le_refl _, fun _ _ _ => rfl⟩, (sNx_id hn).symm, rfl, KpY.rf, fun _ _ => rfl⟩
  | succ f ih =>
    intro i w hi hn hf
    rw [fxlM] at hf ⊢
    by_cases c : codY w.1 = 5
    · rw [if_pos c] at hf ⊢
      have h1 : zFt (fx1M N n (accM w)).1 = 0 := fxl_b (w := seM i (sNx (snM w)) (fx1M N n (accM w))) hf
      obtain ⟨m, r, hx, P⟩ := fx1_q h1
      have eS : snM (fx1M N n (accM w)) = snM w + 1 := P.sn
      have en : reS (seM i (sNx (snM w)) (fx1M N n (accM w))) (snM w) = sEx ((xcZ m : Int) - 1) (bR 94 n (accM w)) := (if_neg (by omega)).trans P.2.1
      have eo : ∀ k, k < snM w → ¬ k = i → reS (seM i (sNx (snM w)) (fx1M N n (accM w))) k = reS w k := fun k a b => (if_neg b).trans (P.1 k a)
      have ei : reS (seM i (sNx (snM w)) (fx1M N n (accM w))) i = sNx (snM w) (reS w i) := (if_pos rfl).trans (congrArg (sNx (snM w)) (P.1 i hi))
      have ep : psM (seM i (sNx (snM w)) (fx1M N n (accM w))) = (snM w + 1, tnM w, cEy 21 (acZ r) 0 r.1.2.2.1 m :: m) := P.2.2.1
      have ea : (seM i (sNx (snM w)) (fx1M N n (accM w))).2.2.2.1.2 = w.2.2.2.1.2 := P.2.2.2.1
      have es : snM (seM i (sNx (snM w)) (fx1M N n (accM w))) = snM w + 1 := eS
      have ek : KpY w.1 (seM i (sNx (snM w)) (fx1M N n (accM w))).1 := kp_acc.tr P.2.2.2.2
      generalize seM i (sNx (snM w)) (fx1M N n (accM w)) = u at hf en eo ei ep ea es ek ⊢
      obtain ⟨L, F, e1, e2, e3, e4⟩ := ih (snM w) u (by omega) (by unfold njS; rw [en]; rfl) hf
      refine ⟨snM w :: L, ⟨by have := F.1; omega, fun k a b => ?_⟩, ?_, e2.trans ea, ek.tr e3, fun Z ag => ⟨rfl, ?_, zAt (accY w.1), m, r, ?_, hx, ?_⟩⟩
      · rw [F.2 k (by omega) (by omega), eo k a b]
      · rw [F.2 i (by omega) (by omega), ei]
        rfl
      · unfold njS
        rw [ag.2 _ (Nat.le_refl _) (by have := F.1; omega), e1]
        rfl
      · unfold ReD
        rw [ag.2 _ (Nat.le_refl _) (by have := F.1; omega), e1, en]
        exact ⟨rfl, rfl⟩
      · have r1 := e4 Z ⟨ag.1, fun k a b => ag.2 k (by omega) b⟩
        rw [ep, ea] at r1
        exact r1
    · rw [if_neg c]
      exact ⟨[], ⟨Nat.le_refl _, fun _ _ _ => rfl⟩, (sNx_id hn).symm, rfl, KpY.rf, fun _ _ => rfl⟩
theorem fx_q {w : ZS} (hf : zFt (fxM N n w).1 = 0) : ∃ L y q, (hdI L = (snM w : Int) ∧ ¬ L = []) ∧ Pz w y q w.2.2.2.1.2 (fxM N n w) ∧ snM w < q.1 ∧ ∀ Z, AgF Z (fxM N n w) (snM w) → FxD Z (lvN n) w.2.2.2.1.2 L (psM w) (psM (fxM N n w)) := by
  have h1 : zFt (fx1M N n w).1 = 0 := fxl_b (f := 501) (i := snM w) hf
  obtain ⟨m, r, hx, P⟩ := fx1_q h1
  have eS : snM (fx1M N n w) = snM w + 1 := P.sn
  obtain ⟨L, F, e1, e2, e3, e4⟩ := fxl_q (N := N) (n := n) 501 (snM w) (fx1M N n w) (by omega) (by unfold njS; rw [P.2.1]; rfl) hf
  have F1 : snM w + 1 ≤ snM (fxM N n w) := by have := F.1; rw [eS] at this; exact this
  refine ⟨snM w :: L, _, psM (fxM N n w), ⟨rfl, fun q => nomatch q⟩, ⟨fun i hi => (F.2 i (by omega) (by omega)).trans (P.1 i hi), rfl, rfl, e2.trans P.2.2.2.1, P.2.2.2.2.tr e3⟩, F1, fun Z ag => ⟨rfl, ?_, zAt w.1, m, r, ?_, hx, ?_⟩⟩
  · unfold njS
    rw [ag.2 _ (Nat.le_refl _) F1]
    show (reS (fxlM N n 501 (snM w) (fx1M N n w)) (snM w)).2.2.1 = _
    rw [e1]
    rfl
  · unfold ReD
    rw [ag.2 _ (Nat.le_refl _) F1]
    show (reS (fxlM N n 501 (snM w) (fx1M N n w)) (snM w)).1 = _ ∧ (reS (fxlM N n 501 (snM w) (fx1M N n w)) (snM w)).2.2.2 = _
    rw [e1, P.2.1]
    exact ⟨rfl, rfl⟩
  · have r1 := e4 Z ⟨ag.1, fun k a b => ag.2 k (by omega) b⟩
    rw [P.2.2.1, P.2.2.2.1] at r1
    exact r1
theorem va_b {w : ZS} {j : Nat} (h : zFt (vaM N j n w).1 = 0) : zFt w.1 = 0 := by
  have key : ∀ (f ty : Int) (w : ZS), zFt (va1M N j n f ty w).1 = 0 → zFt w.1 = 0 := by
    intro f ty w hf
    unfold va1M va2M at hf
    refine (dcl_nz (ty := ty) (f := f) (h := 1) (s := w.1) ?_).2.1
    split at hf
    · exact xp_b (e_b hf)
    · exact hf
  unfold vaM at h
  split at h
  · exact (acc_n (typ_b (key _ _ _ h))).2.1
  · exact typ_b (key _ _ _ h)
theorem fo1_q {w : ZS} {p : Ps} {h : Int × Int × Int × Int} {kn : List (Int × Int)} {nx b g x lk th : Int} (P : Pz z (h, kn, (nx, b, -1, g, x, lk, th)) p (snM z) w) (hp : snM z < p.1) (hf : zFt (fo1M N (snM z) n w).1 = 0) :
    ∃ (q1 : Ps) (o : Int), Pz z (h, kn, (nx, b, o, g, x, lk, th)) q1 (snM z) (fo1M N (snM z) n w) ∧ p.1 ≤ q1.1 ∧ ∀ (Z z' : ZS), AgN Z z' (snM z) → FwJ (snM z) (fo1M N (snM z) n w) z' → FiD Z (lvN n) (snM z) o p q1 := by
  have eS := P.sn
  unfold fo1M at hf ⊢
  split at hf
  · rename_i c1
    rw [if_pos c1]
    have hf : zFt (vaM N (snM w) n (beM 93 (lvN n) w)).1 = 0 := hf
    obtain ⟨m, y, Q, ⟨y1, y2, y3⟩, hv⟩ := Pz.va (N := N) (n := n) (Pz.be (z := w) (n := n) (k := 93)) rfl hf
    have Q1 := P.ne Q hp
    rw [P.2.2.2.1] at Q1
    have Q2 := Q1.se (f := sOt ((snM w : Nat) : Int))
    refine ⟨_, ((snM w : Nat) : Int), Q2, by show p.1 ≤ snM w + 1; omega, fun Z z' ag F => Or.inr (Or.inl ⟨by rw [eS], zAt w.1, m, ?_, ?_, ?_⟩)⟩
    · have eR : reS Z (snM w) = y := ag_re ag Q (fw_se.tr F) (by omega) (Nat.lt_succ_self _)
      have r := hv Z (by unfold ReD; rw [eR]; exact ⟨rfl, rfl⟩)
      rw [P.2.2.2.1] at r
      have e2 : psM w = p := P.2.2.1
      have e3 : tnM w = p.2.1 := P.tn
      have e4 : w.2.1 = p.2.2 := P.l
      rw [eS, e3] at r
      rw [← e4]
      exact r
    · have eR : reS Z (snM w) = y := ag_re ag Q (fw_se.tr F) (by omega) (Nat.lt_succ_self _)
      rw [← eS]
      unfold njS
      rw [eR]
      exact y3
    · show (snM w + 1, tnM w, m) = _
      rw [eS, P.tn]
  · rename_i c1
    rw [if_neg c1]
    split at hf
    · rename_i c2
      rw [if_pos c2]
      exact ⟨p, -1, P, Nat.le_refl _, fun _ _ _ _ => Or.inl ⟨rfl, rfl⟩⟩
    · rename_i c2
      rw [if_neg c2]
      have hf : zFt (fxM N n w).1 = 0 := hf
      obtain ⟨L, y, q, ⟨e1, e2⟩, Q, lt, hL⟩ := fx_q hf
      have Q1 := P.ne Q hp
      rw [P.2.2.2.1] at Q1
      have Q2 := Q1.se (f := sOt ((snM w : Nat) : Int))
      refine ⟨_, ((snM w : Nat) : Int), Q2, by omega, fun Z z' ag F => Or.inr (Or.inr ⟨L, e1.symm, e2, ?_⟩)⟩
      have r := hL Z (ag.f (fw_se.tr F) (by omega))
      rw [P.2.2.2.1, P.2.2.1, Q.2.2.1] at r
      exact r
theorem fo3_q {w : ZS} {p : Ps} {h : Int × Int × Int × Int} {kn : List (Int × Int)} {nx b o x lk th : Int} (P : Pz z (h, kn, (nx, b, o, -1, x, lk, th)) p (snM z) w) (hp : snM z < p.1) (hf : zFt (fo3M N (snM z) n w).1 = 0) :
    ∃ (q1 : Ps) (g : Int), Pz z (h, kn, (nx, b, o, g, x, lk, th)) q1 (snM z) (fo3M N (snM z) n w) ∧ p.1 ≤ q1.1 ∧ ∀ (Z z' : ZS), AgN Z z' (snM z) → FwJ (snM z) (fo3M N (snM z) n w) z' → FuD Z (lvN n) (snM z) g p q1 := by
  have eS := P.sn
  unfold fo3M at hf ⊢
  split at hf
  · rename_i c2
    rw [if_pos c2]
    exact ⟨p, -1, P, Nat.le_refl _, fun _ _ _ _ => ⟨[], rfl, rfl⟩⟩
  · rename_i c2
    rw [if_neg c2]
    have hf : zFt (fxM N n w).1 = 0 := hf
    obtain ⟨L, y, q, ⟨e1, e2⟩, Q, lt, hL⟩ := fx_q hf
    have Q1 := P.ne Q hp
    rw [P.2.2.2.1] at Q1
    have Q2 := Q1.se (f := sLs ((snM w : Nat) : Int))
    refine ⟨_, ((snM w : Nat) : Int), Q2, by omega, fun Z z' ag F => ⟨L, e1.symm, ?_⟩⟩
    have r := hL Z (ag.f (fw_se.tr F) (by omega))
    rw [P.2.2.2.1, P.2.2.1, Q.2.2.1] at r
    exact r
end
