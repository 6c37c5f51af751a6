/-! the reference's flow of exps: values that are taken, !, choices, assignments, as the class goes -/
theorem bit_q {b : Int64} {v : Int32} {k : Int} (h : v.toInt = k) (h0 : 0 ≤ k) (h1 : k < 64) : bitR b v ↔ hasQ b k = true := by
  have e1 : (v.toInt64 &&& 63).toBitVec.toNat = k.toNat := by
    have a : v.toBitVec.toInt = k := h
    have c : v.toInt64.toBitVec = BitVec.ofInt 64 k := by
      rw [Int32.toBitVec_toInt64, BitVec.signExtend, a]
    rw [Int64.toBitVec_and, c]
    have d : (63 : Int64).toBitVec = BitVec.ofNat 64 63 := rfl
    rw [d, BitVec.toNat_and, BitVec.toNat_ofNat, BitVec.toNat_ofInt]
    have f : (k % ((2 ^ 64 : Nat) : Int)).toNat = k.toNat := by omega
    rw [f]
    have q : 63 % 2 ^ 64 = 2 ^ 6 - 1 := by decide
    rw [q, Nat.and_two_pow_sub_one_eq_mod]
    omega
  have e2 : (b >>> (v.toInt64 &&& 63) &&& 1).toBitVec = (b.toBitVec.sshiftRight k.toNat) &&& 1#64 := by
    rw [Int64.toBitVec_and]
    congr 1
    show b.toBitVec.sshiftRight' ((v.toInt64 &&& 63).toBitVec.smod 64#64) = _
    have s : (v.toInt64 &&& 63).toBitVec.smod 64#64 = (v.toInt64 &&& 63).toBitVec := by
      have e3 : (v.toInt64 &&& 63).toBitVec = BitVec.ofNat 64 k.toNat := BitVec.eq_of_toNat_eq (by rw [e1, BitVec.toNat_ofNat]; omega)
      rw [e3]
      have : ∀ n : Fin 64, (BitVec.ofNat 64 n.val).smod 64#64 = BitVec.ofNat 64 n.val := by decide +kernel
      exact this ⟨k.toNat, by omega⟩
    rw [s]
    show b.toBitVec.sshiftRight (v.toInt64 &&& 63).toBitVec.toNat = _
    rw [e1]
  have e4 : (b.toBitVec.sshiftRight k.toNat).getLsbD 0 = b.toBitVec.getLsbD k.toNat := by
    rw [BitVec.getLsbD_sshiftRight]
    simp
    omega
  unfold bitR hasQ
  constructor
  · intro h
    have h1 := congrArg (fun x : Int64 => x.toBitVec.getLsbD 0) h
    rw [e2, BitVec.getLsbD_and, e4] at h1
    simpa using h1
  · intro h
    refine Int64.toBitVec_inj.mp ?_
    rw [e2]
    refine BitVec.eq_of_getLsbD_eq (fun i hi => ?_)
    rw [BitVec.getLsbD_and]
    show _ = (1#64).getLsbD i
    by_cases c : i = 0
    · subst c
      rw [e4, h]
      rfl
    · rw [BitVec.getLsbD_one]
      simp [c]
theorem sgT_39 {a g : Int} (h : (a, g) ∈ sgT) : a = 33 ↔ g = 39 := by
  have : ∀ p ∈ sgT, p.1 = 33 ↔ p.2 = 39 := by decide
  exact this (a, g) h
section
variable {σ : RS} {c : Int32} {l : List ItZ} {x : XrZ} {G F : MkF} {w : WzS} {t : TvT} {A : List Int64}
/-- values of variables that are taken: 2 -/
theorem xe_2 (hc : (aI σ 19 c.toNatClampNeg).toInt = opkZ x) (hS : MkS l x G F) (k : x.1.1 = 2) (hs : ShT (aI σ 81 c.toNatClampNeg) (aI σ 84 c.toNatClampNeg) (aL σ 85 c.toNatClampNeg) t) (hv : VaT t) (hl : (aI σ 83 c.toNatClampNeg).toInt = x.2.1.2.1) (h0 : 0 ≤ x.2.1.2.1) (h1 : x.2.1.2.1 < 64) (hK : ¬ t.2.1 = 0 ↔ (¬ aI σ 45 x.2.1.2.1.toNat = 0 ∧ ¬ aI σ 86 x.2.1.2.1.toNat = 0)) (h : XvR σ G w.1 w.2.1 w.2.2.1) (he : w.2.2.2 = false) : XvR (fxS σ c) F (paW x t w).1 (paW x t w).2.1 (paW x t w).2.2.1 ∧ (uvR σ c ↔ (paW x t w).2.2.2 = true) := by
  have ef : F = G := (mks_o (by omega)).mp hS
  have eo : opkZ x = 2 := by
    unfold opkZ
    rw [if_neg (by omega), if_pos k]
  rw [eo] at hc
  have ec : aI σ 19 c.toNatClampNeg = 2 := i32_lit hc
  have en : (aI σ 83 c.toNatClampNeg).toNatClampNeg = x.2.1.2.1.toNat := by
    have e : (aI σ 83 c.toNatClampNeg).toInt = ((x.2.1.2.1.toNat : Nat) : Int) := by rw [hl]; omega
    exact nT_x e
  have bq := bit_q (b := nowR σ) hl h0 h1
  have nw := now_e h
  rw [pa_2 (Or.inl k), fx_sid (Or.inr (Or.inl ec)), ef]
  unfold tkW
  have sv : ∀ u : WzS, u.1 = w.1 → u.2.1 = w.2.1 → u.2.2.1 = w.2.2.1 → XvR (sidS σ c) G (jnT t zerB u).1 (jnT t zerB u).2.1 (jnT t zerB u).2.2.1 := fun u a1 a2 a3 => by
    have := sid_v (w := u) (A := w.2.2.1) hs hv (by rw [a1, a2]; exact h)
    show XvR (sidS σ c) G (jnT t zerB u).1 (jnT t zerB u).2.1 u.2.2.1
    rw [a3]
    exact this
  have uv : uvR σ c ↔ (t.2.1 = 0 ∧ 0 ≤ x.2.1.2.1 ∧ hasQ (w.1 &&& w.2.1) x.2.1.2.1 = false) := by
    unfold uvR
    rw [ec, en, bq, nw, ← hK]
    constructor
    · rintro (⟨_, a, b⟩ | ⟨a, _⟩ | ⟨a, _⟩)
      · exact ⟨Decidable.not_not.mp a, h0, Bool.eq_false_iff.mpr b⟩
      · exact absurd a (by decide)
      · exact absurd a (by decide)
    · rintro ⟨a, _, b⟩
      exact Or.inl ⟨rfl, fun q => q a, by rw [b]; decide⟩
  split
  · rename_i q
    exact ⟨sv _ rfl rfl rfl, iff_of_true (uv.mpr q) rfl⟩
  · rename_i q
    refine ⟨sv _ rfl rfl rfl, iff_of_false (fun a => q (uv.mp a)) ?_⟩
    show ¬ w.2.2.2 = true
    rw [he]
    decide
theorem jn_pl (h : ¬ (¬ t.2.1 = 0 ∧ t.1 = 0)) {m : Int64} {w : WzS} : jnT t m w = ((w.1 &&& w.2.1) ||| m, (w.1 &&& w.2.1) ||| m, w.2.2) := by
  have e : fxT t = false := by
    cases q : fxT t
    · rfl
    · exact absurd (fxT_iff.mp q) h
  unfold jnT
  rw [e]
  rfl
/-- ++, --, values that an assignment takes: 6, 14 -/
theorem xe_6 (hS : MkS l x G F) {v : Int32} (k : (x.1.1 = 6 ∧ (aI σ 19 c.toNatClampNeg = 3 ∨ aI σ 19 c.toNatClampNeg = 4) ∧ v = aI σ 83 c.toNatClampNeg) ∨ (x.1.1 = 14 ∧ aI σ 19 c.toNatClampNeg = 16 ∧ v = aI σ 80 (aI σ 22 c.toNatClampNeg).toNatClampNeg)) (ht : t.2.1 = 0) (hl : v.toInt = x.2.1.2.1) (h0 : 0 ≤ x.2.1.2.1) (h1 : x.2.1.2.1 < 64) (h : XvR σ G w.1 w.2.1 w.2.2.1) (he : w.2.2.2 = false) : XvR (fxS σ c) F (paW x t w).1 (paW x t w).2.1 (paW x t w).2.2.1 ∧ (uvR σ c ↔ (paW x t w).2.2.2 = true) := by
  have ef : F = G := (mks_o (by omega)).mp hS
  have ec : aI σ 19 c.toNatClampNeg = 3 ∨ aI σ 19 c.toNatClampNeg = 4 ∨ aI σ 19 c.toNatClampNeg = 16 := by
    rcases k with ⟨_, a | a, _⟩ | ⟨_, a, _⟩
    · exact Or.inl a
    · exact Or.inr (Or.inl a)
    · exact Or.inr (Or.inr a)
  have bq := bit_q (b := nowR σ) hl h0 h1
  have nw := now_e h
  rw [nw] at bq
  have uv : uvR σ c ↔ ¬ bitR (nowR σ) v := by
    unfold uvR
    rcases k with ⟨_, a, rfl⟩ | ⟨_, a, rfl⟩
    · constructor
      · rintro (⟨b, _⟩ | ⟨_, b⟩ | ⟨b, _⟩)
        · rcases a with a | a <;> rw [a] at b <;> exact absurd b (by decide)
        · exact b
        · rcases a with a | a <;> rw [a] at b <;> exact absurd b (by decide)
      · exact fun b => Or.inr (Or.inl ⟨a, b⟩)
    · constructor
      · rintro (⟨b, _⟩ | ⟨b, _⟩ | ⟨_, b⟩)
        · rw [a] at b; exact absurd b (by decide)
        · rw [a] at b; rcases b with b | b <;> exact absurd b (by decide)
        · exact b
      · exact fun b => Or.inr (Or.inr ⟨a, b⟩)
  rw [nw, bq] at uv
  rw [pa_2 (by omega), fx_16 ec, ef, nw]
  unfold tkW
  have nj : ¬ (¬ t.2.1 = 0 ∧ t.1 = 0) := fun q => q.1 ht
  have sv : ∀ u : WzS, u.1 = w.1 → u.2.1 = w.2.1 → u.2.2.1 = w.2.2.1 → XvR (beS σ (w.1 &&& w.2.1)) G (jnT t zerB u).1 (jnT t zerB u).2.1 (jnT t zerB u).2.2.1 := fun u a1 a2 a3 => by
    rw [jn_pl nj, or_ze, a1, a2]
    show XvR (beS σ (w.1 &&& w.2.1)) G (w.1 &&& w.2.1) (w.1 &&& w.2.1) u.2.2.1
    rw [a3]
    exact xv_set h
  split
  · rename_i q
    exact ⟨sv _ rfl rfl rfl, iff_of_true (uv.mpr (by rw [q.2.2]; decide)) rfl⟩
  · rename_i q
    refine ⟨sv _ rfl rfl rfl, iff_of_false (fun a => q ⟨ht, h0, Bool.eq_false_iff.mpr (uv.mp a)⟩) ?_⟩
    show ¬ w.2.2.2 = true
    rw [he]
    decide
theorem uv_no (h : ¬ (aI σ 19 c.toNatClampNeg = 2 ∨ aI σ 19 c.toNatClampNeg = 3 ∨ aI σ 19 c.toNatClampNeg = 4 ∨ aI σ 19 c.toNatClampNeg = 16)) : ¬ uvR σ c := by
  unfold uvR
  rintro (⟨b, _⟩ | ⟨b, _⟩ | ⟨b, _⟩)
  · exact h (Or.inl b)
  · exact h (b.elim (fun b => Or.inr (Or.inl b)) (fun b => Or.inr (Or.inr (Or.inl b))))
  · exact h (Or.inr (Or.inr (Or.inr b)))
theorem xv_be {u v b : Int64} (h : XvR σ F u v A) : XvR (beS σ b) F b b A := xv_set h
/-- an assignment: 9 -/
theorem xe_9 (hc : (aI σ 19 c.toNatClampNeg).toInt = opkZ x) (hS : MkS l x G F) (k : x.1.1 = 9) (ht : t.2.1 = 0) (hl : (aI σ 83 c.toNatClampNeg).toInt = x.2.1.2.1) (h0 : 0 ≤ x.2.1.2.1) (h : XvR σ G w.1 w.2.1 w.2.2.1) : XvR (fxS σ c) F (paW x t w).1 (paW x t w).2.1 (paW x t w).2.2.1 ∧ (paW x t w).2.2.2 = w.2.2.2 := by
  have ef : F = G := (mks_o (by omega)).mp hS
  have eo : opkZ x = 17 := by
    unfold opkZ
    rw [if_neg (by omega), if_neg (by omega), if_neg (by omega), if_neg (by omega), if_neg (by omega), if_neg (by omega), if_neg (by omega), if_neg (by omega), if_pos k]
  rw [eo] at hc
  have nj : ¬ (¬ t.2.1 = 0 ∧ t.1 = 0) := fun q => q.1 ht
  have e : aI σ 83 c.toNatClampNeg = Int32.ofInt x.2.1.2.1 := by rw [← hl, Int32.ofInt_toInt]
  rw [pa_9 k, fx_17 (i32_lit hc), ef, jn_pl nj, if_neg (by omega), now_e h, e]
  exact ⟨xv_be h, rfl⟩
/-- !, + - ~: 4 -/
theorem xe_4 (hc : (aI σ 19 c.toNatClampNeg).toInt = opkZ x) (hS : MkS l x G F) (k : x.1.1 = 4) (hg : ((aI σ 20 c.toNatClampNeg).toInt, x.1.2.1) ∈ sgT) (h81 : ¬ x.1.2.1 = 39 → ¬ aI σ 81 c.toNatClampNeg = 0) (hq : ¬ x.1.2.1 = 39 → w.1 = w.2.1) (h : XvR σ G w.1 w.2.1 w.2.2.1) : XvR (fxS σ c) F (paW x t w).1 (paW x t w).2.1 (paW x t w).2.2.1 ∧ (paW x t w).2.2.2 = w.2.2.2 := by
  have ef : F = G := ((mks_3 (Or.inr (Or.inl k))).mp hS).2
  have eo : opkZ x = 5 := by
    unfold opkZ
    rw [if_neg (by omega), if_neg (by omega), if_neg (by omega), if_pos k]
  rw [eo] at hc
  have ec : aI σ 19 c.toNatClampNeg = 5 := i32_lit hc
  have sg := sgT_39 hg
  rw [pa_4 k, ef]
  by_cases c3 : x.1.2.1 = 39
  · have e20 : aI σ 20 c.toNatClampNeg = 33 := i32_lit (sg.mpr c3)
    have e : fxS σ c = sL (sL σ 93 (gL σ 94)) 94 (gL σ 93) := by
      unfold fxS
      rw [if_neg (by rw [ec]; decide), if_pos ⟨ec, e20⟩]
    rw [e, if_pos c3, h.1, h.2.1]
    exact ⟨xv_set h, rfl⟩
  · have e20 : ¬ aI σ 20 c.toNatClampNeg = 33 := fun q => c3 (sg.mp (by rw [q]; rfl))
    have e : fxS σ c = sidS σ c := by
      unfold fxS
      rw [if_neg (by rw [ec]; decide), if_neg (fun q => e20 q.2), ec]
      rfl
    rw [e, if_neg c3]
    unfold sidS
    rw [if_pos (Or.inl (h81 c3)), now_e h, ← hq c3, an_id]
    refine ⟨?_, rfl⟩
    exact xv_be (b := w.1) h
/-- a choice: 8 -/
theorem xe_8 (hc : (aI σ 19 c.toNatClampNeg).toInt = opkZ x) (hS : MkS l x G F) (hG : G.length ≤ 100) (k : x.1.1 = 8) (hq : ¬ aI σ 81 c.toNatClampNeg = 0 → (paW x t w).1 = (paW x t w).2.1) (h : XvR σ G w.1 w.2.1 w.2.2.1) : XvR (fxS σ c) F (paW x t w).1 (paW x t w).2.1 (paW x t w).2.2.1 ∧ (paW x t w).2.2.2 = w.2.2.2 := by
  obtain ⟨_, e0, _⟩ := (mks_8 k).mp hS
  have eo : opkZ x = 14 := by
    unfold opkZ
    rw [if_neg (by omega), if_neg (by omega), if_neg (by omega), if_neg (by omega), if_neg (by omega), if_neg (by omega), if_neg (by omega), if_pos k]
  rw [eo] at hc
  have ec : aI σ 19 c.toNatClampNeg = 14 := i32_lit hc
  subst e0
  rw [List.length_cons] at hG
  obtain ⟨vf, vt, A', e, hx⟩ := xv_ch h (by omega)
  have pe : paW x t w = (w.1 &&& vt, w.2.1 &&& vf, A', w.2.2.2) := by
    rw [pa_8 k]
    have f1 := frA_c (w := w) e
    unfold andF
    rw [f1]
    rfl
  have ex : fxS σ c = (fun Y => if aI σ 81 c.toNatClampNeg = 0 then Y else beS Y (nowR Y)) (sL (sL (sI σ 100 (gI σ 100 - 1)) 93 (gL σ 93 &&& aL σ 101 (gI σ 100 - 1).toNatClampNeg)) 94 (gL σ 94 &&& aL σ 102 (gI σ 100 - 1).toNatClampNeg)) := by
    unfold fxS
    rw [ec]
    rfl
  rw [pe] at hq ⊢
  rw [ex]
  generalize (sL (sL (sI σ 100 (gI σ 100 - 1)) 93 (gL σ 93 &&& aL σ 101 (gI σ 100 - 1).toNatClampNeg)) 94 (gL σ 94 &&& aL σ 102 (gI σ 100 - 1).toNatClampNeg)) = Y at hx
  refine ⟨?_, rfl⟩
  dsimp only at hq ⊢
  split
  · exact hx
  · rename_i q
    have := hq q
    rw [now_e hx, ← this, an_id]
    rw [← this] at hx
    exact xv_be hx
end
