/-! what reading lays: rows, methods, the program -/
theorem rwl_bk {N : Int → Int} {n : Nat} {sw : Int} {js k : Nat} {f l : Int} {z : ZS} (h : zFt (rwlM N n (stM N n) sw js k f l z).1.1 = 0) : zFt z.1 = 0 := by
  rw [lf_rwl (lf_st (N := N) (n := n))] at h
  exact (gd_rwl (gd_st (n := n)) (sw := sw) _ _ z.1).z h
theorem nx_e {l : Int} {j : Nat} {z : ZS} : (nxM l j z).1 = z.1 ∧ psM (nxM l j z) = psM z ∧ (nxM l j z).2.2.2.1.2 = z.2.2.2.1.2 ∧ (∀ i : Nat, ¬ (i : Int) = l → reS (nxM l j z) i = reS z i) ∧ (0 ≤ l → reS (nxM l j z) l.toNat = sNx j (reS z l.toNat)) := by
  unfold nxM
  by_cases c : l < 0
  · rw [if_pos c]
    exact ⟨rfl, rfl, rfl, fun _ _ => rfl, fun q => by omega⟩
  · rw [if_neg c]
    exact ⟨rfl, rfl, rfl, fun i hi => if_neg (by omega), fun _ => if_pos rfl⟩
theorem rwl_q {N : Int → Int} {n : Nat} (s : SdS N (n + 1)) {sw : Int} {js : Nat} : ∀ (k : Nat) (f l : Int) (z : ZS), l < (snM z : Int) → (0 ≤ l → njS z l.toNat = -1) → ((f = -1 ∧ l < 0) ∨ (0 ≤ f ∧ 0 ≤ l)) → ∀ r, rwlM N (n + 1) (stM N (n + 1)) sw js k f l z = r → zFt r.1.1 = 0 →
    ∃ L, (r.2 = if f < 0 then hdI L else f) ∧ r.1.2.2.2.1.2 = z.2.2.2.1.2 ∧ snM z ≤ snM r.1 ∧ (∀ i : Nat, i < snM z → ¬ (i : Int) = l → reS r.1 i = reS z i) ∧ (0 ≤ l → reS r.1 l.toNat = sNx (hdI L) (reS z l.toNat)) ∧ (∀ j L', L = j :: L' → j = snM z ∧ j < snM r.1 ∧ (sw = 1 → f < 0 → kjS r.1 j = 62 ∨ kjS r.1 j = 63)) ∧ ∀ (Z : ZS) (M : Int), Cq Z M z → AgF Z r.1 (snM z) → RwD (StD N M Z (n + 1)) Z (lvN (n + 1)) sw js z.2.2.2.1.2 L (psM z) (psM r.1) := by
  have stop : ∀ (f l : Int) (z : ZS), (0 ≤ l → njS z l.toNat = -1) → ((f = -1 ∧ l < 0) ∨ (0 ≤ f ∧ 0 ≤ l)) → ∀ r : ZS × Int, (z, f) = r → ∃ L, (r.2 = if f < 0 then hdI L else f) ∧ r.1.2.2.2.1.2 = z.2.2.2.1.2 ∧ snM z ≤ snM r.1 ∧ (∀ i : Nat, i < snM z → ¬ (i : Int) = l → reS r.1 i = reS z i) ∧ (0 ≤ l → reS r.1 l.toNat = sNx (hdI L) (reS z l.toNat)) ∧ (∀ j L', L = j :: L' → j = snM z ∧ j < snM r.1 ∧ (sw = 1 → f < 0 → kjS r.1 j = 62 ∨ kjS r.1 j = 63)) ∧ ∀ (Z : ZS) (M : Int), Cq Z M z → AgF Z r.1 (snM z) → RwD (StD N M Z (n + 1)) Z (lvN (n + 1)) sw js z.2.2.2.1.2 L (psM z) (psM r.1) := by
    intro f l z hn hfl r e
    rw [← e]
    refine ⟨[], ?_, rfl, Nat.le_refl _, fun _ _ _ => rfl, fun q => (sNx_id (hn q)).symm, fun _ _ q => (nomatch q), fun _ _ _ _ => rfl⟩
    show f = if f < 0 then -1 else f
    by_cases c : f < 0
    · rw [if_pos c]; omega
    · rw [if_neg c]
  intro k
  induction k with
  | zero =>
    intro f l z hl hn hfl r e hf
    rw [rwlM] at e
    exact stop f l z hn hfl r e
  | succ k ih =>
    intro f l z hl hn hfl r e hf
    rw [rwlM] at e
    by_cases c0 : zFt z.1 = 0
    · rw [if_pos c0] at e
      by_cases c3 : codY z.1 = 3
      · rw [if_pos c3] at e
        exact stop f l z hn hfl r e
      · rw [if_neg c3] at e
        have b2 : zFt (nxM l (snM z) (rpM N (n + 1) (stM N (n + 1)) sw js (if f < 0 then 1 else 0) z)).1 = 0 := rwl_bk (by rw [e]; exact hf)
        obtain ⟨x1, x2, x3, x4, x5⟩ := nx_e (l := l) (j := snM z) (z := rpM N (n + 1) (stM N (n + 1)) sw js (if f < 0 then 1 else 0) z)
        rw [x1] at b2
        obtain ⟨p1, p2, p3, p4, p5, p6, p7⟩ := sp_rp (z := z) (sw := sw) (js := js) (b := if f < 0 then 1 else 0) s (by split; exact Or.inr rfl; exact Or.inl rfl) b2
        generalize rpM N (n + 1) (stM N (n + 1)) sw js (if f < 0 then 1 else 0) z = z1 at e b2 x1 x2 x3 x4 x5 p1 p2 p3 p4 p5 p6 p7
        generalize nxM l (snM z) z1 = z2 at e x1 x2 x3 x4 x5
        have s2 : snM z2 = snM z1 := congrArg (fun q : Ps => q.1) x2
        have r2 : reS z2 (snM z) = reS z1 (snM z) := x4 _ (by omega)
        obtain ⟨L, e1, e2, e3, e4, e5, e6, e7⟩ := ih (if f < 0 then (snM z : Int) else f) (snM z) z2 (by omega) (fun _ => by rw [Int.toNat_natCast]; unfold njS; rw [r2]; exact p2) (Or.inr ⟨by split <;> omega, by omega⟩) r e hf
        rw [if_neg (by split <;> omega)] at e1
        have e5 := e5 (by omega)
        rw [Int.toNat_natCast] at e5
        have hd : ∀ i : Nat, i < snM z → (reS z2 i).1 = (reS z i).1 ∧ (reS z2 i).2.2.2 = (reS z i).2.2.2 := fun i hi => by
          by_cases g : (i : Int) = l
          · have x5 := x5 (by omega)
            rw [show l.toNat = i by omega] at x5
            rw [x5, ← p5 i hi]
            exact ⟨rfl, rfl⟩
          · rw [x4 i g, p5 i hi]
            exact ⟨rfl, rfl⟩
        refine ⟨snM z :: L, ?_, e2.trans (x3.trans p3), by omega, fun i hi hil => ?_, fun h0 => ?_, fun j L' q => ?_, fun Z M C ag => ⟨rfl, ?_, psM z1, ?_, ?_⟩⟩
        · rw [e1]
          rfl
        · rw [e4 i (by omega) (by omega), x4 i hil, p5 i hi]
        · rw [e4 l.toNat (by omega) (by omega), x5 h0, p5 l.toNat (by omega)]
          rfl
        · obtain ⟨rfl, _⟩ := List.cons.inj q
          refine ⟨rfl, by omega, fun h1 h2 => ?_⟩
          rw [if_pos h2] at p6
          have p6 := p6 h1 rfl
          unfold kjS at *
          rw [e5, r2]
          exact p6
        · unfold njS
          rw [ag.2 _ (Nat.le_refl _) (by omega), e5]
          rfl
        · have agn : AgN Z z1 (snM z) := by
            refine ⟨by have := ag.1; omega, ?_, fun i a b => ?_⟩
            · rw [ag.2 _ (Nat.le_refl _) (by omega), e5, r2]
              exact ⟨rfl, rfl, rfl⟩
            · rw [ag.2 i (by omega) (by omega), e4 i (by omega) (by omega), x4 i (by omega)]
          exact p7 Z M C agn
        · have C2 : Cq Z M z2 := by
            obtain ⟨⟨c1, c2, c7, c8⟩, c3, c4, c5, c6⟩ := C
            have gp := p4.2.2.2 c8
            refine ⟨⟨by rw [x1, p4.1.1]; exact c1, by rw [x1, p4.k]; exact c2, by rw [x1]; exact Int.le_trans c7 gp.1, by rw [x1]; exact gp.2⟩, by rw [x3, p3]; omega, c4, by have := ag.1; omega, fun i hi => ?_⟩
            by_cases g : i < snM z
            · obtain ⟨a, b⟩ := hd i g
              obtain ⟨d1, d2, d3⟩ := c6 i g
              have u : thS z2 i = thS z i := congrArg (fun v : Int × Int × Int × Int × Int × Int => v.2.2.2.2.2) b
              have v : ljS z2 i = ljS z i := congrArg (fun v : Int × Int × Int × Int × Int × Int => v.2.2.2.2.1) b
              have w : kjS z2 i = kjS z i := congrArg (fun v : Int × Int × Int × Int => v.1) a
              rw [a, u, v, w]
              exact ⟨d1, d2, d3⟩
            · have q := ag.2 i (by omega) (by omega)
              by_cases g2 : i = snM z
              · have a : (reS Z i).1 = (reS z2 i).1 ∧ (reS Z i).2.2.2 = (reS z2 i).2.2.2 := by
                  rw [q, g2, e5]
                  exact ⟨rfl, rfl⟩
                exact ⟨a.1, congrArg (fun v : Int × Int × Int × Int × Int × Int => v.2.2.2.2.2) a.2, fun _ => congrArg (fun v : Int × Int × Int × Int × Int × Int => v.2.2.2.2.1) a.2⟩
              · have a : reS Z i = reS z2 i := by rw [q, e4 i (by omega) (by omega)]
                unfold thS ljS
                rw [a]
                exact ⟨rfl, rfl, fun _ => rfl⟩
          have q := e7 Z M C2 ⟨ag.1, fun i a b => ag.2 i (by omega) b⟩
          rw [x2, x3, p3] at q
          exact q
    · rw [if_neg c0] at e
      rw [← e] at hf
      exact absurd hf c0
theorem sd_ls {N : Int → Int} : ∀ n, SdS N n ∧ SdW N n := by
  intro n
  induction n with
  | zero => exact ⟨fun z h => absurd h (raiY_z (by decide)), fun sw js z h => absurd h (raiY_z (by decide))⟩
  | succ n ih =>
    have s := sd_sm ih.1 ih.2
    refine ⟨s, fun sw js z h => ?_⟩
    obtain ⟨L, e1, e2, e3, e4, e5, e6, e7⟩ := rwl_q s (sw := sw) (js := js) 501 (-1) (-1) z (by omega) (fun q => absurd q (by decide)) (Or.inl ⟨rfl, by decide⟩) (rwM N (n + 1) sw js z) rfl h
    exact ⟨L, e1, e2, fun j L' q => ⟨(e6 j L' q).1, (e6 j L' q).2.1, fun h1 => (e6 j L' q).2.2 h1 (by decide)⟩, e7⟩
/-- a method; a program: the numbers of the bodies -/
def MeD (N : Int → Int) (Z : ZS) (M : Nat) (p q : Ps) : Prop := ∃ (q1 : Ps) (t : Int), BkD (RwD (StD N M Z 20) Z (lvN 20)) Z (lvN 21) (-1) (p.1, p.2.1 + 1, p.2.2) q1 ∧ q = (q1.1, q1.2.1, cIy 54 M 0 t :: q1.2.2)
def PrD (N : Int → Int) (Z : ZS) : List Nat → Nat → Ps → Ps → Prop
  | [], _, p, q => q = p
  | j :: L, M, p, q => j = p.1 ∧ ∃ p1, MeD N Z M p p1 ∧ PrD N Z L (M + 1) p1 q
/-- between methods -/
def Cp (Z z : ZS) : Prop := (zK Z.1 = zK z.1 ∧ 0 ≤ zAt z.1 ∧ zAt z.1 ≤ 500) ∧ (∀ i, i < snM Z → paS Z i < (i : Int)) ∧ snM z ≤ snM Z ∧ ∀ i, i < snM z → (reS Z i).1 = (reS z i).1 ∧ thS Z i = thS z i ∧ (kjS z i = 6 → ljS Z i = ljS z i)
section
variable {N : Int → Int} {z : ZS}
theorem pa2_e {i : Nat} {ty f : Int} : psM (pa2M N i ty f z) = psM z ∧ (pa2M N i ty f z).2.2.2.1.2 = z.2.2.2.1.2 ∧ ∀ j, reS (pa2M N i ty f z) j = reS z j := by
  unfold pa2M
  split <;> exact ⟨rfl, rfl, fun _ => rfl⟩
theorem pa1_e {i : Nat} : psM (pa1M N i z) = psM z ∧ (pa1M N i z).2.2.2.1.2 = z.2.2.2.1.2 ∧ ∀ j, reS (pa1M N i z) j = reS z j := by
  unfold pa1M
  split
  · exact pa2_e (z := typM (accM z))
  · exact pa2_e (z := typM z)
end
theorem pal_e {N : Int → Int} : ∀ (f i : Nat) (z : ZS), psM (palM N f i z) = psM z ∧ (palM N f i z).2.2.2.1.2 = z.2.2.2.1.2 ∧ ∀ j, reS (palM N f i z) j = reS z j := by
  intro f
  induction f with
  | zero => exact fun _ _ => ⟨rfl, rfl, fun _ => rfl⟩
  | succ f ih =>
    intro i z
    rw [palM]
    have a := pa1_e (N := N) (z := z) (i := i)
    split
    · have b := ih (i + 1) (accM (pa1M N i z))
      exact ⟨b.1.trans a.1, b.2.1.trans a.2.1, fun j => (b.2.2 j).trans (a.2.2 j)⟩
    · exact a
theorem pa_e {N : Int → Int} {z : ZS} : psM (paM N z) = psM z ∧ (paM N z).2.2.2.1.2 = z.2.2.2.1.2 ∧ ∀ j, reS (paM N z) j = reS z j := by
  show psM (pa3M N (xpM 0 z)) = psM z ∧ (pa3M N (xpM 0 z)).2.2.2.1.2 = z.2.2.2.1.2 ∧ ∀ j, reS (pa3M N (xpM 0 z)) j = reS z j
  unfold pa3M
  split
  · exact ⟨rfl, rfl, fun _ => rfl⟩
  · exact pal_e 7 0 (xpM 0 z)
theorem kp_pa {N : Int → Int} {z : ZS} : KpY z.1 (paM N z).1 := by
  rw [lf_pa]
  exact ⟨gl_par _, gn_par _, gd_par _⟩
