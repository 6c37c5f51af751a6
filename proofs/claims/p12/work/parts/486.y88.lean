/-! NAMES and worths of tokens by the class's own numbers, in the reference -/
def NwN (N : Int → Int) (x : TxY) (n : Nat) : Prop := ∀ k : Nat, k < n → ∃ v : Int64, v.toInt = N (k : Int) ∧ WoC x (atY x k) v
def koY : Int := kyY [116, 117, 111]
def kiY : Int := kyY [110, 105]
/-- what tokens are worth -/
def WsT (N : Int → Int) (τ : RS) (s : SpC) : Prop := ∀ i : Nat, i < nT (gI τ 2) → i ≤ 500 →
  (zK s i = 81 ∨ zK s i = 82 → ∃ v : Int, (0 ≤ v ∧ v < 10000000000000000000) ∧ N (i : Int) = (Int64.ofInt v).toInt ∧ aL τ 9 i = Int64.ofInt v ∧ aI τ 11 i = grY (if zK s i = 82 then 76 else 0) v ∧ aI τ 3 i = 2) ∧
  (zK s i = 83 → (0 ≤ N (i : Int) ∧ N (i : Int) ≤ 126) ∧ aL τ 9 i = Int64.ofInt (N (i : Int)) ∧ aI τ 3 i = 3) ∧
  (zK s i = 72 ∨ zK s i = 73 → aI τ 3 i = 4 ∧ (aI τ 6 i).toInt = zK s i - 50)
theorem lx_a {σ τ : RS} {x : TxY} {s : SpC} {n : Nat} (hx : okY x) (hL : LxQ σ τ x) (hT : TkS x s n) {i : Nat} (hi : i < nT (gI τ 2)) (h5 : i ≤ 500) (h0 : ¬ aI τ 3 i = 0) (h6 : ¬ aI τ 3 i = 6) : (i + 1 < nT (gI τ 2)) ∧ i < n ∧ tkR (aI τ 3 i).toInt (aI τ 6 i).toInt (oneY x (atY x i)).2 ∧ (aI τ 5 i).toInt = (oneY x (atY x i)).1 ∧ zK s i = (oneY x (atY x i)).2 ∧ atY x i < x.2 ∧ 0 ≤ atY x i := by
  obtain ⟨-, m, hm, hm2, hTk, hat, hlast⟩ := hL
  obtain ⟨hn, hj, hln, hend⟩ := hT
  have e2 : nT (gI τ 2) = m + 1 := by
    show (gI τ 2).toInt.toNat = m + 1
    omega
  have hA := at_0 (x := x) hx.2.1 (n := m) (fun k hk => ⟨(hTk k hk).2.1, (hTk k hk).2.2.1⟩)
  have him : i < m := by
    rcases Nat.lt_or_ge i m with q | q
    · exact q
    · exfalso
      have e : i = m := by omega
      subst e
      rcases hlast with ⟨-, q2⟩ | ⟨-, -, q3⟩
      · exact h0 q2
      · exact h6 q3
  obtain ⟨k1, k2, k3, k4, k5⟩ := hTk i him
  have hin : i < n := by
    rcases Nat.lt_or_ge i n with z | z
    · exact z
    · exfalso
      have hnm : n ≤ m := by omega
      have hAn := hA n hnm
      obtain ⟨-, q2, q3, -⟩ := hTk n (by omega)
      rcases hend with ⟨-, q⟩ | ⟨-, q1, -, -⟩
      · omega
      · have o := one_le (x := x) (i := atY x n) hAn.1 q2
        omega
  exact ⟨by omega, hin, k4, k5, (hj i hin).1, k2, (hA i (by omega)).1⟩
theorem wo_1 {l w : List Int} {a : Int64} {b : Int32} (hl : alK l) (hw : alK w) (h8 : w.length ≤ 8) (h1 : a = hwY l) (h2 : b.toInt = (l.length : Int)) : (a = hwY w ∧ b.toInt = (w.length : Int)) ↔ kyY l = kyY w := by
  constructor
  · rintro ⟨p, q⟩
    have e : l = w := vl_inj (B := 256) (by decide) l w (al_b hl) (al_b hw) (by rw [← hw_v l hl (by omega), ← hw_v w hw h8, ← h1, p])
    rw [e]
  · intro q
    have e := ky_i hl hw q
    rw [e] at h1 h2
    exact ⟨h1, h2⟩
section
variable {N : Int → Int} {σ τ : RS} {x : TxY} {s : SpC} {n : Nat}
/-- a NAME's number -/
theorem nw_80 (hx : okY x) (hL : LxQ σ τ x) (hV : ∃ m : Nat, (gI τ 2).toInt = m + 1 ∧ TkT τ x m) (hT : TkS x s n) (hN : NwN N x n) {i : Nat} (hi : i < nT (gI τ 2)) (h5 : i ≤ 500) (h3 : aI τ 3 i = 1) : N (i : Int) = kyY (nbZ x i) ∧ aL τ 7 i = hwY (nbZ x i) ∧ (aI τ 5 i).toInt = ((nbZ x i).length : Int) := by
  obtain ⟨m, hm, hV⟩ := hV
  have e2 : nT (gI τ 2) = m + 1 := by
    show (gI τ 2).toInt.toNat = m + 1
    omega
  obtain ⟨a, b, c, d, e, f, g⟩ := lx_a hx hL hT hi h5 (by rw [h3]; decide) (by rw [h3]; decide)
  rw [h3] at c
  have c2 := tk_1 c
  have v := (hV i (by omega)).1 c2
  have l := nb_len c2 f g
  obtain ⟨w, w1, w2⟩ := hN i b
  exact ⟨by rw [← w1]; exact w2.1 c2, v.1, by rw [d, l.1]⟩
theorem nmz_w (hx : okY x) (hL : LxQ σ τ x) (hV : ∃ m : Nat, (gI τ 2).toInt = m + 1 ∧ TkT τ x m) (hT : TkS x s n) (hN : NwN N x n) : NmZ N τ := by
  intro i j hi hj h5 g5 h3 g3
  rw [(tz_of hx hL hV hT).2 i j hi hj h5 g5 h3 g3, (nw_80 hx hL hV hT hN hi h5 h3).1, (nw_80 hx hL hV hT hN hj g5 g3).1]
  show vlY 256 (nbZ x i) = vlY 256 (nbZ x j) ↔ _
  exact ⟨fun q => by rw [vl_inj (B := 256) (by decide) (nbZ x i) (nbZ x j) (al_b nb_al) (al_b nb_al) q], fun q => by rw [ky_i nb_al nb_al q]⟩
theorem wok_w (hx : okY x) (hL : LxQ σ τ x) (hV : ∃ m : Nat, (gI τ 2).toInt = m + 1 ∧ TkT τ x m) (hT : TkS x s n) (hN : NwN N x n) : WoK N τ koY kiY := by
  intro t ht h5 h3
  obtain ⟨n1, n2, n3⟩ := nw_80 hx hL hV hT hN ht h5 h3
  have a := wo_1 (w := [116, 117, 111]) nb_al (by decide) (by decide) n2 n3
  have b := wo_1 (w := [110, 105]) nb_al (by decide) (by decide) n2 n3
  have ea : hwY [116, 117, 111] = Int64.ofInt 7304564 := by decide
  have eb : hwY [110, 105] = Int64.ofInt 26990 := by decide
  have f3 : (aI τ 5 t).toInt = (([116, 117, 111] : List Int).length : Int) ↔ aI τ 5 t = 3 := (Int32.toInt_inj (x := aI τ 5 t) (y := 3))
  have f2 : (aI τ 5 t).toInt = (([110, 105] : List Int).length : Int) ↔ aI τ 5 t = 2 := (Int32.toInt_inj (x := aI τ 5 t) (y := 2))
  rw [ea, f3] at a
  rw [eb, f2] at b
  rw [n1]
  exact ⟨a, b⟩
end
theorem nv_b {x : TxY} : ∀ (f : Nat) (e v : Int), 0 ≤ v → (0 ≤ nvY x f e v ∧ nvY x f e v + 1 ≤ (v + 1) * ((10 ^ (ndY x f e - e).toNat : Nat) : Int)) ∧ e ≤ ndY x f e := by
  intro f
  induction f with
  | zero =>
    intro e v h
    have z : ndY x 0 e - e = 0 := by show e - e = 0; omega
    rw [z]
    show (0 ≤ v ∧ v + 1 ≤ (v + 1) * (1 : Int)) ∧ e ≤ e
    omega
  | succ f ih =>
    intro e v h
    rw [nvY, ndY]
    by_cases d : isDY (btY x e)
    · rw [if_pos d, if_pos d]
      obtain ⟨⟨a, b⟩, c⟩ := ih (e + 1) (10 * v + (btY x e - 48)) (by omega)
      refine ⟨⟨a, ?_⟩, by omega⟩
      have k : (ndY x f (e + 1) - e).toNat = (ndY x f (e + 1) - (e + 1)).toNat + 1 := by omega
      rw [k, Nat.pow_succ]
      generalize 10 ^ (ndY x f (e + 1) - (e + 1)).toNat = P at b ⊢
      have p0 : (0 : Int) ≤ (P : Int) := Int.natCast_nonneg P
      have q := Int.mul_le_mul_of_nonneg_right (show 10 * v + (btY x e - 48) + 1 ≤ (v + 1) * 10 by omega) p0
      rw [Int.mul_assoc] at q
      have r : ((P * 10 : Nat) : Int) = 10 * (P : Int) := by omega
      rw [r]
      omega
    · rw [if_neg d, if_neg d]
      have z : e - e = 0 := by omega
      rw [z]
      show (0 ≤ v ∧ v + 1 ≤ (v + 1) * (1 : Int)) ∧ e ≤ e
      omega
theorem one_n {x : TxY} {i : Int} (h : (oneY x i).2 = 81 ∨ (oneY x i).2 = 82) : ndY x (x.2 - i).toNat i - i ≤ 19 := by
  unfold oneY at h
  by_cases q : isLY (btY x i)
  · exfalso
    rw [if_pos q] at h
    by_cases r : 10 < (nmY x (x.2 - i).toNat i []).1 - i
    · rw [if_pos r] at h
      exact absurd h (by decide)
    · rw [if_neg r] at h
      have h : wcY (nmY x (x.2 - i).toNat i []).2 = 81 ∨ wcY (nmY x (x.2 - i).toNat i []).2 = 82 := h
      have := (wc_rg (l := (nmY x (x.2 - i).toNat i []).2)).2
      omega
  · rw [if_neg q] at h
    by_cases r : isDY (btY x i)
    · rw [if_pos r] at h
      by_cases t : 19 < ndY x (x.2 - i).toNat i - i
      · rw [if_pos t] at h
        exact absurd h (by decide)
      · omega
    · exfalso
      rw [if_neg r] at h
      split at h
      · split at h
        · exact absurd h (by decide)
        · exact absurd h (by decide)
      · rcases @sgn_rg (btY x i) (btY x (i + 1)) (btY x (i + 2)) (btY x (i + 3)) with z | z
        · omega
        · rw [z] at h
          exact absurd h (by decide)
theorem one_c8 {x : TxY} {i : Int} (h : (oneY x i).2 = 83) : 32 ≤ btY x (i + 1) ∧ btY x (i + 1) ≤ 126 := by
  unfold oneY at h
  by_cases q : isLY (btY x i)
  · exfalso
    rw [if_pos q] at h
    by_cases r : 10 < (nmY x (x.2 - i).toNat i []).1 - i
    · rw [if_pos r] at h
      exact absurd h (by decide)
    · rw [if_neg r] at h
      have h : wcY (nmY x (x.2 - i).toNat i []).2 = 83 := h
      have := (wc_rg (l := (nmY x (x.2 - i).toNat i []).2)).2
      omega
  · rw [if_neg q] at h
    by_cases r : isDY (btY x i)
    · exfalso
      rw [if_pos r] at h
      split at h
      · exact absurd h (by decide)
      · split at h
        · exact absurd (show (82 : Int) = 83 from h) (by decide)
        · exact absurd (show (81 : Int) = 83 from h) (by decide)
    · rw [if_neg r] at h
      split at h
      · split at h
        · rename_i u
          exact ⟨u.1, u.2.1⟩
        · exact absurd h (by decide)
      · exfalso
        rcases @sgn_rg (btY x i) (btY x (i + 1)) (btY x (i + 2)) (btY x (i + 3)) with z | z
        · omega
        · rw [z] at h
          exact absurd h (by decide)
/-- the kind of a token by its code -/
theorem tk_lit {k w c : Int} (h : tkR k w c) : (c = 81 ∨ c = 82 → k = 2) ∧ (c = 83 → k = 3) ∧ (c = 72 ∨ c = 73 → k = 4 ∧ w = c - 50) := by
  rcases h with ⟨a, b⟩ | ⟨a, b⟩ | ⟨a, b⟩ | ⟨a, b⟩ | ⟨a, b⟩ | ⟨a, b, d, e⟩ | ⟨a, b⟩
  · exact ⟨fun q => by omega, fun q => by omega, fun q => by omega⟩
  · exact ⟨fun q => by omega, fun q => by omega, fun q => by omega⟩
  · exact ⟨fun q => by omega, fun q => by omega, fun q => by omega⟩
  · exact ⟨fun q => by omega, fun q => by omega, fun q => by omega⟩
  · exact ⟨fun q => by omega, fun q => by omega, fun q => by omega⟩
  · have r := wdR_b.mp ⟨b, d⟩
    refine ⟨fun q => by omega, fun q => by omega, fun q => ⟨a, ?_⟩⟩
    unfold wdR at e
    split at e
    · omega
    · split at e
      · omega
      · omega
  · have r := sgT_rg _ b
    have r : 0 ≤ c ∧ c ≤ 42 := r
    exact ⟨fun q => by omega, fun q => by omega, fun q => by omega⟩
theorem ws_w {N : Int → Int} {σ τ : RS} {x : TxY} {s : SpC} {n : Nat} (hx : okY x) (hL : LxQ σ τ x) (hV : ∃ m : Nat, (gI τ 2).toInt = m + 1 ∧ TkT τ x m) (hT : TkS x s n) (hN : NwN N x n) (hS : ∀ i, i < nT (gI τ 2) → i ≤ 500 → tkR (aI τ 3 i).toInt (aI τ 6 i).toInt (zK s i)) : WsT N τ s := by
  obtain ⟨m, hm, hV⟩ := hV
  have e2 : nT (gI τ 2) = m + 1 := by
    show (gI τ 2).toInt.toNat = m + 1
    omega
  intro i hi h5
  obtain ⟨t1, t2, t3⟩ := tk_lit (hS i hi h5)
  refine ⟨fun h => ?_, fun h => ?_, fun h => ?_⟩
  · have k : aI τ 3 i = 2 := i32_lit (t1 h)
    obtain ⟨a, b, c, d, e, f, g⟩ := lx_a hx hL hT hi h5 (by rw [k]; decide) (by rw [k]; decide)
    rw [e] at h ⊢
    have v := (hV i (by omega)).2.1 h
    obtain ⟨w, w1, w2⟩ := hN i b
    have bd := (nv_b (x := x) (x.2 - atY x i).toNat (atY x i) 0 (Int.le_refl _)).1
    have nd := one_n h
    have p := p10 (k := ndY x (x.2 - atY x i).toNat (atY x i) - atY x i) (n := 19) (by omega)
    have p : ((10 ^ (ndY x (x.2 - atY x i).toNat (atY x i) - atY x i).toNat : Nat) : Int) ≤ 10000000000000000000 := p
    rw [show (0 : Int) + 1 = 1 from rfl, Int.one_mul] at bd
    exact ⟨_, ⟨bd.1, by omega⟩, by rw [← w1, w2.2.1 h], v.2.1, v.2.2, k⟩
  · have k : aI τ 3 i = 3 := i32_lit (t2 h)
    obtain ⟨a, b, c, d, e, f, g⟩ := lx_a hx hL hT hi h5 (by rw [k]; decide) (by rw [k]; decide)
    rw [e] at h
    have v := (hV i (by omega)).2.2 h
    obtain ⟨w, w1, w2⟩ := hN i b
    have o := one_c8 h
    have w3 := w2.2.2 h
    rw [← w1, w3]
    exact ⟨⟨by omega, by omega⟩, v, k⟩
  · obtain ⟨k, w⟩ := t3 h
    exact ⟨i32_lit k, w⟩
